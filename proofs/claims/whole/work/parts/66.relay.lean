/-! ===== ChannelData comes: both sides ===== -/
theorem l_toI {a : Nat} (h : a < 2 ^ 31) : (lN a).toInt = (a : Int) := Int64.toInt_ofNat_of_lt (by omega)
theorem l_leN {a b : Nat} (ha : a < 2 ^ 31) (hb : b < 2 ^ 31) : lN a ≤ lN b ↔ a ≤ b := by
  rw [Int64.le_iff_toInt_le, l_toI ha, l_toI hb]; omega
theorem l_sub {a b : Nat} (ha : a < 2 ^ 31) (hb : b < 2 ^ 31) : (lN a - lN b).toInt = (a : Int) - b := by
  rw [Int64.toInt_sub, l_toI ha, l_toI hb]
  exact Int.bmod_eq_of_le (by omega) (by omega)
theorem l_rng {a b c : Nat} (ha : a < 2 ^ 31) (hb : b < 2 ^ 31) (hc : c < 2 ^ 31) : (¬ lN a - lN b < lN 0 ∧ ¬ lN c < lN a - lN b) ↔ (b ≤ a ∧ a ≤ b + c) := by
  rw [Int64.not_lt, Int64.not_lt, Int64.le_iff_toInt_le, Int64.le_iff_toInt_le, l_toI (show (0:Nat) < 2 ^ 31 by decide), l_toI hc, l_sub ha hb]; omega
theorem l_add {a b : Nat} : lN a + lN b = lN (a + b) := by
  apply Int64.toBitVec_inj.mp
  show BitVec.ofNat 64 a + BitVec.ofNat 64 b = BitVec.ofNat 64 (a + b)
  rw [BitVec.ofNat_add]
/-- a ChannelData -/
def chD (A : List Nat) : Bool := decide (4 ≤ A.length ∧ (16384 ≤ nb A 0 2 ∧ nb A 0 2 ≤ 20479) ∧ nb A 2 2 + 4 ≤ A.length ∧ A.length ≤ nb A 2 2 + 7)
/-- what is sent on: from s on, w bytes -/
def rly (a : AL) (A : List Nat) (s : SN) (T : Nat → Int32) (ip port : Int32) (i m : Nat) : SN × (Nat → Int32) := if (pf a.2.2.2.1 ip).isSome then ((true, ip, port, a.1.2.2.2, (A.drop i).take m), inc (inc T 0) 2) else (clr s, T)
def cd_s (al : Nat → Option AL) (A : List Nat) (s : SN) (T : Nat → Int32) (ip port : Int32) : SN × (Nat → Int32) := match (clf al ip port).bind al with
  | none => (clr s, T)
  | some a => match cf a.2.2.2.2 (nI (nb A 0 2)) with
    | none => (clr s, T)
    | some c => rly a A s T (a.2.2.2.2.getD c c0).2.1 (a.2.2.2.2.getD c c0).2.2.1 4 (nb A 2 2)
section CDA
variable {d N : Nat} {I : Nat → Nat → Int32} {L : Nat → Nat → Int64} {w : Option Nat} {Q : am_Q} {s : SN} {T : Nat → Int32} {A : List Nat} {al : Nat → Option AL}
theorem c_102 {v : Int64} (hq : Q (some (.int (bI (decide (lN 16384 ≤ v ∧ v ≤ lN 20479))))) (am_SH N, I, L, am_RR w)) : am_call (d + 1) 102 [.long v] (am_SH N, I, L, am_RR w) Q := by
  refine am_enter (ls := [some _, none]) (cs := am_c102) rfl rfl (Nat.le_of_ble_eq_true rfl) rfl ?_
  refine wp_lload (k := 0) rfl rfl ?_
  refine w_lc (k := 1) (x := lN 16384) rfl (ol_lN 16384) ?_
  refine w_L_lt (k := 2) (t' := 10) rfl rfl rfl (fun c1 => ?_) (fun c1 => ?_)
  · refine w_ic (k := 10) (x := bI false) rfl rfl ?_
    refine w_rz (k := 11) rfl rfl rfl ?_
    rw [decide_eq_false (fun z => absurd c1 (Int64.not_lt.mpr z.1))] at hq
    exact hq
  · refine wp_lload (k := 4) rfl rfl ?_
    refine w_lc (k := 5) (x := lN 20479) rfl (ol_lN 20479) ?_
    refine w_L_gt (k := 6) (t' := 10) rfl rfl rfl (fun c2 => ?_) (fun c2 => ?_)
    · refine w_ic (k := 10) (x := bI false) rfl rfl ?_
      refine w_rz (k := 11) rfl rfl rfl ?_
      rw [decide_eq_false (fun z => absurd c2 (Int64.not_lt.mpr z.2))] at hq
      exact hq
    · refine w_ic (k := 8) (x := bI true) rfl rfl ?_
      refine w_goto (k := 9) (t' := 11) rfl rfl ?_
      refine w_rz (k := 11) rfl rfl rfl ?_
      rw [decide_eq_true ⟨Int64.not_lt.mp c1, Int64.not_lt.mp c2⟩] at hq
      exact hq
theorem c_103 (hA : cT I A) (hq : Q (some (.int (bI (chD A)))) (am_SH N, I, L, am_RR w)) : am_call (d + 2) 103 [.ref 91] (am_SH N, I, L, am_RR w) Q := by
  have hl := hA.1
  have n0 := nb_lt hA.2.2.2 0 2
  have n2 := nb_lt hA.2.2.2 2 2
  refine am_enter (ls := [some _, none, none]) (cs := am_c103) rfl rfl (Nat.le_of_ble_eq_true rfl) rfl ?_
  refine wp_aload (k := 0) rfl rfl ?_
  refine w_gr (k := 1) (s := 0) rfl rfl (by first | assumption | rfl) (by first | assumption | rfl) ?_
  refine w_Vi (k := 2) [] rfl rfl rfl (Nat.le_of_ble_eq_true rfl) (by first | assumption | rfl) (Or.inl ⟨rfl, rfl⟩) ?_
  refine (c_82 (rwT N w) hA ?_)
  refine ⟨_, rfl, ?_⟩
  refine w_ic (k := 3) (x := nI 4) rfl (oi_nI 4) ?_
  refine w_n_lt (k := 4) (t' := 12) rfl rfl (by omega) (fun k1 => ?_) (fun k1 => ?_)
  · unfold chD at hq
    rw [decide_eq_false (by omega)] at hq
    refine w_ic (k := 12) (x := bI false) rfl rfl ?_
    refine w_rz (k := 13) rfl rfl rfl ?_
    exact hq
  · refine wp_aload (k := 5) rfl rfl ?_
    refine w_gr (k := 6) (s := 0) rfl rfl (by first | assumption | rfl) (by first | assumption | rfl) ?_
    refine w_ic (k := 7) (x := nI 0) rfl (oi_nI 0) ?_
    refine w_ic (k := 8) (x := nI 2) rfl (oi_nI 2) ?_
    refine w_Vl (k := 9) [_, _] rfl rfl rfl (Nat.le_of_ble_eq_true rfl) (by first | assumption | rfl) (Or.inl ⟨rfl, rfl⟩) ?_
    refine (c_90 (rwT N w) hA (by decide) ?_)
    refine ⟨_, rfl, ?_⟩
    refine w_Si (k := 10) [_] rfl rfl rfl (Nat.le_of_ble_eq_true rfl) (Or.inl ⟨rfl, rfl⟩) ?_
    refine (c_102 ?_)
    refine ⟨_, rfl, ?_⟩
    rw [show decide (lN 16384 ≤ lN (nb A 0 2) ∧ lN (nb A 0 2) ≤ lN 20479) = decide (16384 ≤ nb A 0 2 ∧ nb A 0 2 ≤ 20479) from decide_eq_decide.mpr (by rw [l_leN (by decide) (by omega), l_leN (by omega) (by decide)])]
    refine w_b_ne (k := 11) (t' := 14) rfl rfl (fun k2 => ?_) (fun k2 => ?_)
    · have k2 := of_decide_eq_true k2
      refine wp_aload (k := 14) rfl rfl ?_
      refine w_gr (k := 15) (s := 0) rfl rfl (by first | assumption | rfl) (by first | assumption | rfl) ?_
      refine w_Vi (k := 16) [] rfl rfl rfl (Nat.le_of_ble_eq_true rfl) (by first | assumption | rfl) (Or.inl ⟨rfl, rfl⟩) ?_
      refine (c_82 (rwT N w) hA ?_)
      refine ⟨_, rfl, ?_⟩
      refine w_ic (k := 17) (x := nI 4) rfl (oi_nI 4) ?_
      refine w_subN (k := 18) rfl (by omega) ?_
      refine wp_i2l (k := 19) rfl ?_
      refine wp_aload (k := 20) rfl rfl ?_
      refine w_gr (k := 21) (s := 0) rfl rfl (by first | assumption | rfl) (by first | assumption | rfl) ?_
      refine w_ic (k := 22) (x := nI 2) rfl (oi_nI 2) ?_
      refine w_ic (k := 23) (x := nI 2) rfl (oi_nI 2) ?_
      refine w_Vl (k := 24) [_, _] rfl rfl rfl (Nat.le_of_ble_eq_true rfl) (by first | assumption | rfl) (Or.inl ⟨rfl, rfl⟩) ?_
      refine (c_90 (rwT N w) hA (by decide) ?_)
      refine ⟨_, rfl, ?_⟩
      rw [nI_l (by omega)]
      have hr := l_rng (a := A.length - 4) (b := nb A 2 2) (c := 3) (by omega) (by omega) (by decide)
      refine wp_lsub (k := 25) rfl ?_
      refine wp_lstore (k := 26) rfl rfl ?_
      refine wp_lload (k := 27) rfl rfl ?_
      refine w_lc (k := 28) (x := lN 0) rfl (ol_lN 0) ?_
      refine w_L_lt (k := 29) (t' := 37) rfl rfl rfl (fun k3 => ?_) (fun k3 => ?_)
      · refine w_ic (k := 37) (x := bI false) rfl rfl ?_
        refine w_rz (k := 38) rfl rfl rfl ?_
        unfold chD at hq
        rw [decide_eq_false (fun z => (hr.mpr ⟨by omega, by omega⟩).1 k3)] at hq
        exact hq
      · refine wp_lload (k := 31) rfl rfl ?_
        refine w_lc (k := 32) (x := lN 3) rfl (ol_lN 3) ?_
        refine w_L_gt (k := 33) (t' := 37) rfl rfl rfl (fun k4 => ?_) (fun k4 => ?_)
        · refine w_ic (k := 37) (x := bI false) rfl rfl ?_
          refine w_rz (k := 38) rfl rfl rfl ?_
          unfold chD at hq
          rw [decide_eq_false (fun z => (hr.mpr ⟨by omega, by omega⟩).2 k4)] at hq
          exact hq
        · refine w_ic (k := 35) (x := bI true) rfl rfl ?_
          refine w_goto (k := 36) (t' := 38) rfl rfl ?_
          refine w_rz (k := 38) rfl rfl rfl ?_
          have := hr.mp ⟨k3, k4⟩
          unfold chD at hq
          rw [decide_eq_true (by omega)] at hq
          exact hq
    · have k2 := of_decide_eq_false k2
      unfold chD at hq
      rw [decide_eq_false (fun z => k2 z.2.1)] at hq
      refine w_ic (k := 12) (x := bI false) rfl rfl ?_
      refine w_rz (k := 13) rfl rfl rfl ?_
      exact hq
theorem c_236 (hA : mT I A) (hq : Q (some (.int (bI (chD A)))) (am_SH N, I, L, am_RR w)) : am_call (d + 2) 236 [.ref 100] (am_SH N, I, L, am_RR w) Q := by
  obtain ⟨t1, t2, t3⟩ := hA
  have n0 := nb_lt t2.2 0 2
  have n2 := nb_lt t2.2 2 2
  refine am_enter (ls := [some _, none]) (cs := am_c236) rfl rfl (Nat.le_of_ble_eq_true rfl) rfl ?_
  refine wp_aload (k := 0) rfl rfl ?_
  refine w_gi (k := 1) (s := 15) rfl rfl (by first | assumption | rfl) t1 ?_
  refine w_ic (k := 2) (x := nI 4) rfl (oi_nI 4) ?_
  refine w_n_lt (k := 3) (t' := 13) rfl rfl (by omega) (fun k1 => ?_) (fun k1 => ?_)
  · unfold chD at hq
    rw [decide_eq_false (by omega)] at hq
    refine w_ic (k := 13) (x := bI false) rfl rfl ?_
    refine w_rz (k := 14) rfl rfl rfl ?_
    exact hq
  · refine wp_aload (k := 4) rfl rfl ?_
    refine w_gr (k := 5) (s := 14) rfl rfl (by first | assumption | rfl) (by first | assumption | rfl) ?_
    refine w_ic (k := 6) (x := nI 0) rfl (oi_nI 0) ?_
    refine w_Si (k := 7) [_, _] rfl rfl rfl (Nat.le_of_ble_eq_true rfl) (Or.inl ⟨rfl, rfl⟩) ?_
    refine (c_179 rfl (by decide) t2 (by omega) (by omega) ?_)
    refine ⟨_, rfl, ?_⟩
    refine wp_i2l (k := 8) rfl ?_
    refine w_lc (k := 9) (x := lN 16384) rfl (ol_lN 16384) ?_
    refine w_lc (k := 10) (x := lN 20479) rfl (ol_lN 20479) ?_
    refine w_Si (k := 11) [_, _, _] rfl rfl rfl (Nat.le_of_ble_eq_true rfl) (Or.inl ⟨rfl, rfl⟩) ?_
    refine (c_166 ?_)
    refine ⟨_, rfl, ?_⟩
    rw [nI_l (by omega), show decide (lN 16384 ≤ lN (nb A 0 2) ∧ lN (nb A 0 2) ≤ lN 20479) = decide (16384 ≤ nb A 0 2 ∧ nb A 0 2 ≤ 20479) from decide_eq_decide.mpr (by rw [l_leN (by decide) (by omega), l_leN (by omega) (by decide)])]
    refine w_b_ne (k := 12) (t' := 15) rfl rfl (fun k2 => ?_) (fun k2 => ?_)
    · have k2 := of_decide_eq_true k2
      refine wp_aload (k := 15) rfl rfl ?_
      refine w_gr (k := 16) (s := 14) rfl rfl (by first | assumption | rfl) (by first | assumption | rfl) ?_
      refine w_ic (k := 17) (x := nI 2) rfl (oi_nI 2) ?_
      refine w_Si (k := 18) [_, _] rfl rfl rfl (Nat.le_of_ble_eq_true rfl) (Or.inl ⟨rfl, rfl⟩) ?_
      refine (c_179 rfl (by decide) t2 (by omega) (by omega) ?_)
      refine ⟨_, rfl, ?_⟩
      refine wp_istore (k := 19) rfl rfl ?_
      refine wp_aload (k := 20) rfl rfl ?_
      refine w_gi (k := 21) (s := 15) rfl rfl (by first | assumption | rfl) t1 ?_
      refine wp_i2l (k := 22) rfl ?_
      refine w_lc (k := 23) (x := lN 4) rfl (ol_lN 4) ?_
      refine wp_iload (k := 24) rfl rfl ?_
      refine wp_i2l (k := 25) rfl ?_
      refine wp_ladd (k := 26) rfl ?_
      refine w_lc (k := 27) (x := lN 7) rfl (ol_lN 7) ?_
      refine wp_iload (k := 28) rfl rfl ?_
      refine wp_i2l (k := 29) rfl ?_
      refine wp_ladd (k := 30) rfl ?_
      refine w_Si (k := 31) [_, _, _] rfl rfl rfl (Nat.le_of_ble_eq_true rfl) (Or.inl ⟨rfl, rfl⟩) ?_
      refine (c_166 ?_)
      refine ⟨_, rfl, ?_⟩
      refine w_rz (k := 32) rfl rfl rfl ?_
      rw [nI_l (by omega), nI_l (by omega), l_add, l_add, show decide (lN (4 + nb A 2 2) ≤ lN A.length ∧ lN A.length ≤ lN (7 + nb A 2 2)) = chD A from decide_eq_decide.mpr (by rw [l_leN (by omega) (by omega), l_leN (by omega) (by omega)]; omega)]
      exact hq
    · have k2 := of_decide_eq_false k2
      unfold chD at hq
      rw [decide_eq_false (fun z => k2 z.2.1)] at hq
      refine w_ic (k := 13) (x := bI false) rfl rfl ?_
      refine w_rz (k := 14) rfl rfl rfl ?_
      exact hq
theorem c_106 {k : Nat} (hk : k < 8) {a : AL} (hc : ac I L (26 + 7 * k) a) (hA : cT I A) (hp : po_c I (clr s)) (hT : tl_c I T) {ip port : Int32} {i m : Nat} (hi : i + m ≤ A.length) (hq : ∀ I', po_c I' (rly a A s T ip port i m).1 → tl_c I' (rly a A s T ip port i m).2 → fc [82, 83, 84, 90] I I' → Q none (am_SH N, I', L, am_RR w)) : am_call (d + 3) 106 [.ref 91, .ref (26 + 7 * k), .int ip, .int port, .int (nI i), .int (nI m)] (am_SH N, I, L, am_RR w) Q := by
  have qa := aq_of N w hk
  have q0 := qa.1
  have hl := hA.1
  obtain ⟨a1, a2, a3, a4, a5, a6, a7, a8, a9, a10⟩ := id hc
  clear hc
  unfold rly at hq
  generalize 26 + 7 * k = q at *
  refine am_enter (ls := [some _, some _, some _, some _, some _, some _]) (cs := am_c106) rfl rfl (Nat.le_of_ble_eq_true rfl) rfl ?_
  refine wp_aload (k := 0) rfl rfl ?_
  refine wp_iload (k := 1) rfl rfl ?_
  refine w_Vi (k := 2) [_] rfl rfl rfl (Nat.le_of_ble_eq_true rfl) (by first | assumption | rfl) (Or.inl ⟨rfl, rfl⟩) ?_
  refine (c_8 qa a9 ?_)
  refine ⟨_, rfl, ?_⟩
  refine w_b_eq (k := 3) (t' := 23) rfl rfl (fun k1 => ?_) (fun k1 => ?_)
  · rw [if_neg (by rw [k1]; decide)] at hq
    refine w_rv (k := 23) rfl rfl rfl rfl ?_
    exact hq I hp hT (fun _ _ => rfl)
  · rw [if_pos k1] at hq
    refine wp_aload (k := 4) rfl rfl ?_
    refine w_gr (k := 5) (s := 4) rfl rfl (by first | assumption | rfl) (by first | assumption | rfl) ?_
    refine wp_iload (k := 6) rfl rfl ?_
    refine wp_iload (k := 7) rfl rfl ?_
    refine wp_aload (k := 8) rfl rfl ?_
    refine w_gi (k := 9) (s := 4) rfl rfl (by first | assumption | rfl) a5 ?_
    refine w_Vv (k := 10) [_, _, _] rfl rfl rfl (Nat.le_of_ble_eq_true rfl) (by first | assumption | rfl) (Or.inl ⟨rfl, rfl⟩) ?_
    refine (c_76 hp hT (fun I1 p1 t1 f1 => ⟨rfl, ?_⟩))
    refine wp_aload (k := 11) rfl rfl ?_
    refine w_gr (k := 12) (s := 4) rfl rfl (by first | assumption | rfl) (by first | assumption | rfl) ?_
    refine w_ic (k := 13) (x := nI 6) rfl (oi_nI 6) ?_
    refine w_Vv (k := 14) [_] rfl rfl rfl (Nat.le_of_ble_eq_true rfl) (by first | assumption | rfl) (Or.inl ⟨rfl, rfl⟩) ?_
    refine (c_78 (j := 2) (by decide) t1 (fun I2 t2 f2 => ⟨rfl, ?_⟩))
    have f2' : fc [90] I1 I2 := fc_1 (a := 90) f2 (by decide)
    have p2 := po_k p1 f2' (by decide) (by decide) (by decide)
    have A2 : cT I2 A := cT_k (cT_k hA f1 (by decide) (by decide)) f2' (by decide) (by decide)
    refine wp_aload (k := 15) rfl rfl ?_
    refine w_gr (k := 16) (s := 4) rfl rfl (by first | assumption | rfl) (by first | assumption | rfl) ?_
    refine w_Va (k := 17) [] rfl rfl rfl (Nat.le_of_ble_eq_true rfl) (by first | assumption | rfl) (Or.inl ⟨rfl, rfl⟩) ?_
    refine am_enter (ls := [some _]) (cs := am_c73) rfl rfl (Nat.le_of_ble_eq_true rfl) rfl ?_
    refine wp_aload (k := 0) rfl rfl ?_
    refine w_gr (k := 1) (s := 0) rfl rfl (by first | assumption | rfl) (by first | assumption | rfl) ?_
    refine w_ra (k := 2) rfl rfl rfl rfl ?_
    refine ⟨_, rfl, ?_⟩
    refine wp_aload (k := 18) rfl rfl ?_
    refine w_gr (k := 19) (s := 0) rfl rfl (by first | assumption | rfl) (by first | assumption | rfl) ?_
    refine wp_iload (k := 20) rfl rfl ?_
    refine wp_iload (k := 21) rfl rfl ?_
    refine w_Vv (k := 22) [_, _, _] rfl rfl rfl (Nat.le_of_ble_eq_true rfl) (by first | assumption | rfl) (Or.inl ⟨rfl, rfl⟩) ?_
    refine (c_89 (rwS N w) p2.2.2.2.2 (rwT N w) A2 hi (by show 0 + m ≤ 436; omega) (fun I3 k3 f3 => ⟨rfl, ?_⟩))
    refine w_rv (k := 23) rfl rfl rfl rfl ?_
    obtain ⟨z1, z2, z3, z4, -⟩ := p2
    refine hq I3 ⟨?_, ?_, ?_, ?_, k3⟩ (fun j hj => by rw [f3 90 (by decide) (by decide)]; exact t2 j hj) (fc_t (fc_mo f1 (by decide)) (fc_t (fc_mo f2' (by decide)) (fc_2 (a := 83) (b := 84) f3 (by decide) (by decide))))
    · rw [f3 82 (by decide) (by decide)]; exact z1
    · rw [f3 82 (by decide) (by decide)]; exact z2
    · rw [f3 82 (by decide) (by decide)]; exact z3
    · rw [f3 82 (by decide) (by decide)]; exact z4
end CDA
