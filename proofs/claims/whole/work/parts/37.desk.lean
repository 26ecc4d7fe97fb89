/-! ===== the desk: what each call makes of the tape, for the class and for the reference ===== -/
def rs (o : Option (List Nat)) : Int32 := match o with
  | none => -1
  | some A => nI A.length
def sp_feed (A : List Nat) (a b c d e : Int32) : Option (List Nat) := if A.length + 20 ≤ 400 then some (A ++ (be 4 (uI a) ++ (be 4 (uI b) ++ (be 4 (uI c) ++ (be 4 (uI d) ++ be 4 (uI e)))))) else none
def sp_end (A : List Nat) (n : Int32) : Option (List Nat) := if n < 0 ∨ nI A.length < n then none else some (A.take n.toNatClampNeg)
def sp_msg (t x y z : Int32) : Option (List Nat) := if t < 0 ∨ nI 16383 < t then none else some (hd20 (uI t) (uI x) (uI y) (uI z))
def sp_num (A : List Nat) (kd sz v : Int32) : Option (List Nat) := if sz < 0 ∨ nI 4 < sz then none else if tk A kd sz.toNatClampNeg 400 then some (at_ A (uI kd) (be sz.toNatClampNeg (uI v))) else none
def sp_text (A : List Nat) (kd : Int32) (a b : Int64) : Option (List Nat) := if tk A kd (nz 8 (uN a) ++ nz 8 (uN b)).length 400 then some (at_ A (uI kd) (nz 8 (uN a) ++ nz 8 (uN b))) else none
def sp_nonce (A : List Nat) (kd : Int32) (v : Int64) : Option (List Nat) := if tk A kd 8 400 then some (at_ A (uI kd) (be 8 (uN v))) else none
def sp_addr (A : List Nat) (kd ip port : Int32) : Option (List Nat) := if port < 0 ∨ nI 65535 < port then none else if tk A kd 8 400 then some (at_ A (uI kd) (adr ip port)) else none
theorem tk_room {A : List Nat} {kd : Int32} {m n : Nat} (h : tk A kd m n = true) : 20 ≤ A.length ∧ A.length + 4 + pad4 m ≤ n := by
  have := of_decide_eq_true h
  exact ⟨this.2.2.1, this.2.2.2.2⟩
/-- all else of the class is as it was -/
def fc (P : List Nat) (I I' : Nat → Nat → Int32) : Prop := ∀ x, x ∉ P → I' x = I x
theorem fc_rf {P : List Nat} {I : Nat → Nat → Int32} : fc P I I := fun _ _ => rfl
theorem fc_t {P : List Nat} {I I1 I2 : Nat → Nat → Int32} (h1 : fc P I I1) (h2 : fc P I1 I2) : fc P I I2 := fun x hx => by rw [h2 x hx, h1 x hx]
theorem fc_mo {P P' : List Nat} {I I1 : Nat → Nat → Int32} (h : fc P I I1) (hp : ∀ x ∈ P, x ∈ P') : fc P' I I1 := fun x hx => h x (fun q => hx (hp x q))
theorem fc_2 {P : List Nat} {I I' : Nat → Nat → Int32} {a b : Nat} (h : ∀ x, x ≠ a → x ≠ b → I' x = I x) (ha : a ∈ P) (hb : b ∈ P) : fc P I I' := fun x hx => h x (fun q => hx (q ▸ ha)) (fun q => hx (q ▸ hb))
theorem fc_1 {P : List Nat} {I I' : Nat → Nat → Int32} {a : Nat} (h : ∀ x, x ≠ a → I' x = I x) (ha : a ∈ P) : fc P I I' := fun x hx => h x (fun q => hx (q ▸ ha))
theorem fc_p {P : List Nat} {I : Nat → Nat → Int32} {p k : Nat} {v : Int32} (hp : p ∈ P) : fc P I (am_u I p k v) := fun x hx => am_uR (fun q => hx (q ▸ hp))
section DC
variable {d N : Nat} {I : Nat → Nat → Int32} {L : Nat → Nat → Int64} {w : Option Nat} {Q : am_Q} {A : List Nat}
theorem rwT (N : Nat) (w : Option Nat) : rw_at (am_SH N) (am_RR w) 5 6 400 := ⟨rfl, rfl, rfl, by decide, by decide⟩
theorem pnT (N : Nat) (w : Option Nat) : pn_at (am_SH N) (am_RR w) 17 5 := ⟨rfl, rfl, rfl⟩
def cT (I : Nat → Nat → Int32) (A : List Nat) : Prop := rw_B I 5 6 400 A
theorem cT_k {P : List Nat} {I I' : Nat → Nat → Int32} {A : List Nat} (h : cT I A) (f : fc P I I') (h5 : 5 ∉ P) (h6 : 6 ∉ P) : cT I' A := rw_keep h (f 5 h5) (f 6 h6)
theorem c_139 (hA : cT I A) {a b c d' e : Int32} (hq : ∀ I', cT I' ((sp_feed A a b c d' e).getD A) → fc [5, 6] I I' → Q (some (.int (rs (sp_feed A a b c d' e)))) (am_SH N, I', L, am_RR w)) : am_call (d + 2) 139 [.ref 4, .int a, .int b, .int c, .int d', .int e] (am_SH N, I, L, am_RR w) Q := by
  have hl := hA.1
  unfold sp_feed at hq
  refine am_enter (ls := [some _, some _, some _, some _, some _, some _]) (cs := am_c139) rfl rfl (Nat.le_of_ble_eq_true rfl) rfl ?_
  refine wp_aload (k := 0) rfl rfl ?_
  refine w_gr (k := 1) (s := 0) rfl rfl (by first | assumption | rfl) (by first | assumption | rfl) ?_
  refine w_Vi (k := 2) [] rfl rfl rfl (Nat.le_of_ble_eq_true rfl) (by first | assumption | rfl) (Or.inl ⟨rfl, rfl⟩) ?_
  refine (c_82 (rwT N w) hA ?_)
  refine ⟨_, rfl, ?_⟩
  refine w_ic (k := 3) (x := nI 20) rfl (oi_nI 20) ?_
  refine w_addN (k := 4) rfl ?_
  refine wp_aload (k := 5) rfl rfl ?_
  refine w_gr (k := 6) (s := 0) rfl rfl (by first | assumption | rfl) (by first | assumption | rfl) ?_
  refine w_Vi (k := 7) [] rfl rfl rfl (Nat.le_of_ble_eq_true rfl) (by first | assumption | rfl) (Or.inl ⟨rfl, rfl⟩) ?_
  refine (c_83 (rwT N w) ?_)
  refine ⟨_, rfl, ?_⟩
  refine w_n_le (k := 8) (t' := 11) rfl rfl (by omega) (fun k => ?_) (fun k => ?_)
  · rw [if_pos k] at hq
    refine wp_aload (k := 11) rfl rfl ?_
    refine w_gr (k := 12) (s := 0) rfl rfl (by first | assumption | rfl) (by first | assumption | rfl) ?_
    refine wp_iload (k := 13) rfl rfl ?_
    refine wp_i2l (k := 14) rfl ?_
    refine w_ic (k := 15) (x := nI 4) rfl (oi_nI 4) ?_
    refine w_Vv (k := 16) [_, _] rfl rfl rfl (Nat.le_of_ble_eq_true rfl) (by first | assumption | rfl) (Or.inl ⟨rfl, rfl⟩) ?_
    refine (c_87 (rwT N w) hA (by omega) (by decide) (fun I1 k1 f1 => ⟨rfl, ?_⟩))
    refine wp_aload (k := 17) rfl rfl ?_
    refine w_gr (k := 18) (s := 0) rfl rfl (by first | assumption | rfl) (by first | assumption | rfl) ?_
    refine wp_iload (k := 19) rfl rfl ?_
    refine wp_i2l (k := 20) rfl ?_
    refine w_ic (k := 21) (x := nI 4) rfl (oi_nI 4) ?_
    refine w_Vv (k := 22) [_, _] rfl rfl rfl (Nat.le_of_ble_eq_true rfl) (by first | assumption | rfl) (Or.inl ⟨rfl, rfl⟩) ?_
    refine (c_87 (rwT N w) k1 (by simp only [List.length_append, be_len]; omega) (by decide) (fun I2 k2 f2 => ⟨rfl, ?_⟩))
    refine wp_aload (k := 23) rfl rfl ?_
    refine w_gr (k := 24) (s := 0) rfl rfl (by first | assumption | rfl) (by first | assumption | rfl) ?_
    refine wp_iload (k := 25) rfl rfl ?_
    refine wp_i2l (k := 26) rfl ?_
    refine w_ic (k := 27) (x := nI 4) rfl (oi_nI 4) ?_
    refine w_Vv (k := 28) [_, _] rfl rfl rfl (Nat.le_of_ble_eq_true rfl) (by first | assumption | rfl) (Or.inl ⟨rfl, rfl⟩) ?_
    refine (c_87 (rwT N w) k2 (by simp only [List.length_append, be_len]; omega) (by decide) (fun I3 k3 f3 => ⟨rfl, ?_⟩))
    refine wp_aload (k := 29) rfl rfl ?_
    refine w_gr (k := 30) (s := 0) rfl rfl (by first | assumption | rfl) (by first | assumption | rfl) ?_
    refine wp_iload (k := 31) rfl rfl ?_
    refine wp_i2l (k := 32) rfl ?_
    refine w_ic (k := 33) (x := nI 4) rfl (oi_nI 4) ?_
    refine w_Vv (k := 34) [_, _] rfl rfl rfl (Nat.le_of_ble_eq_true rfl) (by first | assumption | rfl) (Or.inl ⟨rfl, rfl⟩) ?_
    refine (c_87 (rwT N w) k3 (by simp only [List.length_append, be_len]; omega) (by decide) (fun I4 k4 f4 => ⟨rfl, ?_⟩))
    refine wp_aload (k := 35) rfl rfl ?_
    refine w_gr (k := 36) (s := 0) rfl rfl (by first | assumption | rfl) (by first | assumption | rfl) ?_
    refine wp_iload (k := 37) rfl rfl ?_
    refine wp_i2l (k := 38) rfl ?_
    refine w_ic (k := 39) (x := nI 4) rfl (oi_nI 4) ?_
    refine w_Vv (k := 40) [_, _] rfl rfl rfl (Nat.le_of_ble_eq_true rfl) (by first | assumption | rfl) (Or.inl ⟨rfl, rfl⟩) ?_
    refine (c_87 (rwT N w) k4 (by simp only [List.length_append, be_len]; omega) (by decide) (fun I5 k5 f5 => ⟨rfl, ?_⟩))
    rw [be_i _ (by decide), be_i _ (by decide), be_i _ (by decide), be_i _ (by decide), be_i _ (by decide)] at k5
    simp only [List.append_assoc] at k5
    refine wp_aload (k := 41) rfl rfl ?_
    refine w_gr (k := 42) (s := 0) rfl rfl (by first | assumption | rfl) (by first | assumption | rfl) ?_
    refine w_Vi (k := 43) [] rfl rfl rfl (Nat.le_of_ble_eq_true rfl) (by first | assumption | rfl) (Or.inl ⟨rfl, rfl⟩) ?_
    refine (c_82 (rwT N w) k5 ?_)
    refine ⟨_, rfl, ?_⟩
    refine w_ri (k := 44) rfl rfl rfl rfl ?_
    exact hq I5 k5 (fc_2 (a := 5) (b := 6) (fun x h1 h2 => by rw [f5 x h1 h2, f4 x h1 h2, f3 x h1 h2, f2 x h1 h2, f1 x h1 h2]) (by decide) (by decide))
  · rw [if_neg (by omega)] at hq
    refine w_ic (k := 9) (x := (-1)) rfl (by decide) ?_
    refine w_ri (k := 10) rfl rfl rfl rfl ?_
    exact hq I hA fc_rf
theorem c_140 (hA : cT I A) {n : Int32} (hq : ∀ I', cT I' ((sp_end A n).getD A) → fc [5, 6] I I' → Q (some (.int (rs (sp_end A n)))) (am_SH N, I', L, am_RR w)) : am_call (d + 2) 140 [.ref 4, .int n] (am_SH N, I, L, am_RR w) Q := by
  have hl := hA.1
  have no : ∀ ls, n < 0 ∨ nI A.length < n → am_V 140 am_c140 (d + 1) (am_SH N) Q 7 ls [] (am_SH N, I, L, am_RR w) := by
    intro ls h
    unfold sp_end at hq
    rw [if_pos h] at hq
    refine w_ic (k := 7) (x := (-1)) rfl (by decide) ?_
    refine w_ri (k := 8) rfl rfl rfl rfl ?_
    exact hq I hA fc_rf
  refine am_enter (ls := [some _, some _]) (cs := am_c140) rfl rfl (Nat.le_of_ble_eq_true rfl) rfl ?_
  refine wp_iload (k := 0) rfl rfl ?_
  refine w_z_lt (k := 1) (t' := 7) rfl rfl (fun k1 => ?_) (fun k1 => ?_)
  · exact no _ (Or.inl k1)
  · refine wp_iload (k := 2) rfl rfl ?_
    refine wp_aload (k := 3) rfl rfl ?_
    refine w_gr (k := 4) (s := 0) rfl rfl (by first | assumption | rfl) (by first | assumption | rfl) ?_
    refine w_Vi (k := 5) [] rfl rfl rfl (Nat.le_of_ble_eq_true rfl) (by first | assumption | rfl) (Or.inl ⟨rfl, rfl⟩) ?_
    refine (c_82 (rwT N w) hA ?_)
    refine ⟨_, rfl, ?_⟩
    refine w_c_le (k := 6) (t' := 9) rfl rfl (fun k2 => ?_) (fun k2 => ?_)
    · obtain ⟨j, hj, rfl⟩ := nI_of k1
      have hj2 := (nI_leI (by omega) (by omega)).mp k2
      unfold sp_end at hq
      rw [if_neg (fun q => q.elim k1 (nI_nlt hj2 (by omega))), nI_clamp (by omega)] at hq
      refine wp_aload (k := 9) rfl rfl ?_
      refine w_gr (k := 10) (s := 0) rfl rfl (by first | assumption | rfl) (by first | assumption | rfl) ?_
      refine wp_iload (k := 11) rfl rfl ?_
      refine w_Vv (k := 12) [_] rfl rfl rfl (Nat.le_of_ble_eq_true rfl) (by first | assumption | rfl) (Or.inl ⟨rfl, rfl⟩) ?_
      refine (c_86 (rwT N w) hA hj2 (fun I1 k1 f1 => ⟨rfl, ?_⟩))
      refine wp_iload (k := 13) rfl rfl ?_
      refine w_ri (k := 14) rfl rfl rfl rfl ?_
      have := hq I1 k1 (fc_1 (a := 5) f1 (by decide))
      rw [show rs (some (A.take j)) = nI j by unfold rs; simp; rw [Nat.min_eq_left hj2]] at this
      exact this
    · exact no _ (Or.inr (Int32.not_le.mp k2))
theorem c_141 (hA : cT I A) {t x y z : Int32} (hq : ∀ I', cT I' ((sp_msg t x y z).getD A) → fc [5, 6] I I' → Q (some (.int (rs (sp_msg t x y z)))) (am_SH N, I', L, am_RR w)) : am_call (d + 3) 141 [.ref 4, .int t, .int x, .int y, .int z] (am_SH N, I, L, am_RR w) Q := by
  have no : ∀ ls, t < 0 ∨ nI 16383 < t → am_V 141 am_c141 (d + 2) (am_SH N) Q 5 ls [] (am_SH N, I, L, am_RR w) := by
    intro ls h
    unfold sp_msg at hq
    rw [if_pos h] at hq
    refine w_ic (k := 5) (x := (-1)) rfl (by decide) ?_
    refine w_ri (k := 6) rfl rfl rfl rfl ?_
    exact hq I hA fc_rf
  refine am_enter (ls := [some _, some _, some _, some _, some _]) (cs := am_c141) rfl rfl (Nat.le_of_ble_eq_true rfl) rfl ?_
  refine wp_iload (k := 0) rfl rfl ?_
  refine w_z_lt (k := 1) (t' := 5) rfl rfl (fun k1 => ?_) (fun k1 => ?_)
  · exact no _ (Or.inl k1)
  · refine wp_iload (k := 2) rfl rfl ?_
    refine w_ic (k := 3) (x := nI 16383) rfl (oi_nI 16383) ?_
    refine w_c_le (k := 4) (t' := 7) rfl rfl (fun k2 => ?_) (fun k2 => ?_)
    · unfold sp_msg at hq
      rw [if_neg (fun q => q.elim k1 (Int32.not_lt.mpr k2))] at hq
      refine wp_aload (k := 7) rfl rfl ?_
      refine w_gr (k := 8) (s := 2) rfl rfl (by first | assumption | rfl) (by first | assumption | rfl) ?_
      refine wp_iload (k := 9) rfl rfl ?_
      refine wp_iload (k := 10) rfl rfl ?_
      refine wp_iload (k := 11) rfl rfl ?_
      refine wp_iload (k := 12) rfl rfl ?_
      refine w_Vv (k := 13) [_, _, _, _] rfl rfl rfl (Nat.le_of_ble_eq_true rfl) (by first | assumption | rfl) (Or.inl ⟨rfl, rfl⟩) ?_
      refine (c_62 (pnT N w) (rwT N w) hA (by decide) (fun I1 k1 f1 => ⟨rfl, ?_⟩))
      refine wp_aload (k := 14) rfl rfl ?_
      refine w_gr (k := 15) (s := 0) rfl rfl (by first | assumption | rfl) (by first | assumption | rfl) ?_
      refine w_Vi (k := 16) [] rfl rfl rfl (Nat.le_of_ble_eq_true rfl) (by first | assumption | rfl) (Or.inl ⟨rfl, rfl⟩) ?_
      refine (c_82 (rwT N w) k1 ?_)
      refine ⟨_, rfl, ?_⟩
      refine w_ri (k := 17) rfl rfl rfl rfl ?_
      exact hq I1 k1 (fc_2 f1 (by decide) (by decide))
    · exact no _ (Or.inr (Int32.not_le.mp k2))
theorem c_142 (hA : cT I A) {kd sz v : Int32} (hq : ∀ I', cT I' ((sp_num A kd sz v).getD A) → fc [5, 6] I I' → Q (some (.int (rs (sp_num A kd sz v)))) (am_SH N, I', L, am_RR w)) : am_call (d + 4) 142 [.ref 4, .int kd, .int sz, .int v] (am_SH N, I, L, am_RR w) Q := by
  have no : ∀ ls, sp_num A kd sz v = none → am_V 142 am_c142 (d + 3) (am_SH N) Q 11 ls [] (am_SH N, I, L, am_RR w) := by
    intro ls h
    rw [h] at hq
    refine w_ic (k := 11) (x := (-1)) rfl (by decide) ?_
    refine w_ri (k := 12) rfl rfl rfl rfl ?_
    exact hq I hA fc_rf
  unfold sp_num at no hq
  refine am_enter (ls := [some _, some _, some _, some _]) (cs := am_c142) rfl rfl (Nat.le_of_ble_eq_true rfl) rfl ?_
  refine wp_iload (k := 0) rfl rfl ?_
  refine w_z_lt (k := 1) (t' := 11) rfl rfl (fun k1 => ?_) (fun k1 => ?_)
  · exact no _ (if_pos (Or.inl k1))
  · refine wp_iload (k := 2) rfl rfl ?_
    refine w_ic (k := 3) (x := nI 4) rfl (oi_nI 4) ?_
    refine w_c_gt (k := 4) (t' := 11) rfl rfl (fun k2 => ?_) (fun k2 => ?_)
    · exact no _ (if_pos (Or.inr k2))
    · obtain ⟨j, hj, rfl⟩ := nI_of k1
      have hj2 : j ≤ 4 := (nI_leI (by omega) (by decide)).mp (Int32.not_lt.mp k2)
      rw [if_neg (fun q => q.elim k1 k2), nI_clamp (by omega)] at hq no
      refine wp_aload (k := 5) rfl rfl ?_
      refine w_gr (k := 6) (s := 2) rfl rfl (by first | assumption | rfl) (by first | assumption | rfl) ?_
      refine wp_iload (k := 7) rfl rfl ?_
      refine wp_iload (k := 8) rfl rfl ?_
      refine w_Vi (k := 9) [_, _] rfl rfl rfl (Nat.le_of_ble_eq_true rfl) (by first | assumption | rfl) (Or.inl ⟨rfl, rfl⟩) ?_
      refine (c_61 (pnT N w) (rwT N w) hA (by omega) ?_)
      refine ⟨_, rfl, ?_⟩
      refine w_b_ne (k := 10) (t' := 13) rfl rfl (fun k3 => ?_) (fun k3 => ?_)
      · rw [if_pos k3] at hq
        obtain ⟨t1, t2⟩ := tk_room k3
        refine wp_aload (k := 13) rfl rfl ?_
        refine w_gr (k := 14) (s := 2) rfl rfl (by first | assumption | rfl) (by first | assumption | rfl) ?_
        refine wp_iload (k := 15) rfl rfl ?_
        refine wp_iload (k := 16) rfl rfl ?_
        refine wp_i2l (k := 17) rfl ?_
        refine wp_iload (k := 18) rfl rfl ?_
        refine w_Vv (k := 19) [_, _, _] rfl rfl rfl (Nat.le_of_ble_eq_true rfl) (by first | assumption | rfl) (Or.inl ⟨rfl, rfl⟩) ?_
        refine (c_65 (pnT N w) (rwT N w) hA t1 (by omega) t2 (fun I1 k1 f1 => ⟨rfl, ?_⟩))
        rw [be_i _ (by omega)] at k1
        refine wp_aload (k := 20) rfl rfl ?_
        refine w_gr (k := 21) (s := 0) rfl rfl (by first | assumption | rfl) (by first | assumption | rfl) ?_
        refine w_Vi (k := 22) [] rfl rfl rfl (Nat.le_of_ble_eq_true rfl) (by first | assumption | rfl) (Or.inl ⟨rfl, rfl⟩) ?_
        refine (c_82 (rwT N w) k1 ?_)
        refine ⟨_, rfl, ?_⟩
        refine w_ri (k := 23) rfl rfl rfl rfl ?_
        exact hq I1 k1 (fc_2 f1 (by decide) (by decide))
      · exact no _ (if_neg (by rw [k3]; decide))
theorem c_143 (hA : cT I A) {kd : Int32} {a b : Int64} (hq : ∀ I', cT I' ((sp_text A kd a b).getD A) → fc [5, 6] I I' → Q (some (.int (rs (sp_text A kd a b)))) (am_SH N, I', L, am_RR w)) : am_call (d + 5) 143 [.ref 4, .int kd, .long a, .long b] (am_SH N, I, L, am_RR w) Q := by
  have l1 := nz_len 8 (uN a)
  have l2 := nz_len 8 (uN b)
  have b1 : ∀ c ∈ nz 8 (uN a), 0 < c ∧ c < 256 := fun c hc => nz_mem hc
  have b2 : ∀ c ∈ nz 8 (uN b), 0 < c ∧ c < 256 := fun c hc => nz_mem hc
  unfold sp_text at hq
  rw [List.length_append] at hq
  refine am_enter (ls := [some _, some _, some _, none, some _, none, none, none, none, none]) (cs := am_c143) rfl rfl (Nat.le_of_ble_eq_true rfl) rfl ?_
  refine wp_lload (k := 0) rfl rfl ?_
  refine w_Sl (k := 1) [_] rfl rfl rfl (Nat.le_of_ble_eq_true rfl) (Or.inl ⟨rfl, rfl⟩) ?_
  refine (c_124 ?_)
  refine ⟨_, rfl, ?_⟩
  refine wp_lstore (k := 2) rfl rfl ?_
  refine wp_lload (k := 3) rfl rfl ?_
  refine w_Sl (k := 4) [_] rfl rfl rfl (Nat.le_of_ble_eq_true rfl) (Or.inl ⟨rfl, rfl⟩) ?_
  refine (c_124 ?_)
  refine ⟨_, rfl, ?_⟩
  refine wp_lstore (k := 5) rfl rfl ?_
  refine wp_aload (k := 6) rfl rfl ?_
  refine w_gr (k := 7) (s := 2) rfl rfl (by first | assumption | rfl) (by first | assumption | rfl) ?_
  refine wp_iload (k := 8) rfl rfl ?_
  refine wp_lload (k := 9) rfl rfl ?_
  refine w_Si (k := 10) [_] rfl rfl rfl (Nat.le_of_ble_eq_true rfl) (Or.inl ⟨rfl, rfl⟩) ?_
  refine (c_125 l1 b1 ?_)
  refine ⟨_, rfl, ?_⟩
  refine wp_lload (k := 11) rfl rfl ?_
  refine w_Si (k := 12) [_] rfl rfl rfl (Nat.le_of_ble_eq_true rfl) (Or.inl ⟨rfl, rfl⟩) ?_
  refine (c_125 l2 b2 ?_)
  refine ⟨_, rfl, ?_⟩
  refine w_addN (k := 13) rfl ?_
  refine w_Vi (k := 14) [_, _] rfl rfl rfl (Nat.le_of_ble_eq_true rfl) (by first | assumption | rfl) (Or.inl ⟨rfl, rfl⟩) ?_
  refine (c_61 (pnT N w) (rwT N w) hA (by omega) ?_)
  refine ⟨_, rfl, ?_⟩
  refine w_b_ne (k := 15) (t' := 18) rfl rfl (fun k3 => ?_) (fun k3 => ?_)
  · rw [if_pos k3] at hq
    obtain ⟨t1, t2⟩ := tk_room k3
    refine wp_aload (k := 18) rfl rfl ?_
    refine w_gr (k := 19) (s := 2) rfl rfl (by first | assumption | rfl) (by first | assumption | rfl) ?_
    refine wp_iload (k := 20) rfl rfl ?_
    refine wp_lload (k := 21) rfl rfl ?_
    refine wp_lload (k := 22) rfl rfl ?_
    refine w_Vv (k := 23) [_, _, _] rfl rfl rfl (Nat.le_of_ble_eq_true rfl) (by first | assumption | rfl) (Or.inl ⟨rfl, rfl⟩) ?_
    refine (c_66 (pnT N w) (rwT N w) hA t1 l1 l2 b1 b2 t2 (fun I1 k1 f1 => ⟨rfl, ?_⟩))
    refine wp_aload (k := 24) rfl rfl ?_
    refine w_gr (k := 25) (s := 0) rfl rfl (by first | assumption | rfl) (by first | assumption | rfl) ?_
    refine w_Vi (k := 26) [] rfl rfl rfl (Nat.le_of_ble_eq_true rfl) (by first | assumption | rfl) (Or.inl ⟨rfl, rfl⟩) ?_
    refine (c_82 (rwT N w) k1 ?_)
    refine ⟨_, rfl, ?_⟩
    refine w_ri (k := 27) rfl rfl rfl rfl ?_
    exact hq I1 k1 (fc_2 f1 (by decide) (by decide))
  · rw [if_neg (by rw [k3]; decide)] at hq
    refine w_ic (k := 16) (x := (-1)) rfl (by decide) ?_
    refine w_ri (k := 17) rfl rfl rfl rfl ?_
    exact hq I hA fc_rf
theorem c_144 (hA : cT I A) {kd : Int32} {v : Int64} (hq : ∀ I', cT I' ((sp_nonce A kd v).getD A) → fc [5, 6] I I' → Q (some (.int (rs (sp_nonce A kd v)))) (am_SH N, I', L, am_RR w)) : am_call (d + 4) 144 [.ref 4, .int kd, .long v] (am_SH N, I, L, am_RR w) Q := by
  unfold sp_nonce at hq
  refine am_enter (ls := [some _, some _, some _, none]) (cs := am_c144) rfl rfl (Nat.le_of_ble_eq_true rfl) rfl ?_
  refine wp_aload (k := 0) rfl rfl ?_
  refine w_gr (k := 1) (s := 2) rfl rfl (by first | assumption | rfl) (by first | assumption | rfl) ?_
  refine wp_iload (k := 2) rfl rfl ?_
  refine w_ic (k := 3) (x := nI 8) rfl (oi_nI 8) ?_
  refine w_Vi (k := 4) [_, _] rfl rfl rfl (Nat.le_of_ble_eq_true rfl) (by first | assumption | rfl) (Or.inl ⟨rfl, rfl⟩) ?_
  refine (c_61 (pnT N w) (rwT N w) hA (by decide) ?_)
  refine ⟨_, rfl, ?_⟩
  refine w_b_ne (k := 5) (t' := 8) rfl rfl (fun k3 => ?_) (fun k3 => ?_)
  · rw [if_pos k3] at hq
    obtain ⟨t1, t2⟩ := tk_room k3
    refine wp_aload (k := 8) rfl rfl ?_
    refine w_gr (k := 9) (s := 2) rfl rfl (by first | assumption | rfl) (by first | assumption | rfl) ?_
    refine wp_iload (k := 10) rfl rfl ?_
    refine wp_lload (k := 11) rfl rfl ?_
    refine w_ic (k := 12) (x := nI 8) rfl (oi_nI 8) ?_
    refine w_Vv (k := 13) [_, _, _] rfl rfl rfl (Nat.le_of_ble_eq_true rfl) (by first | assumption | rfl) (Or.inl ⟨rfl, rfl⟩) ?_
    refine (c_65 (pnT N w) (rwT N w) hA t1 (by decide) t2 (fun I1 k1 f1 => ⟨rfl, ?_⟩))
    refine wp_aload (k := 14) rfl rfl ?_
    refine w_gr (k := 15) (s := 0) rfl rfl (by first | assumption | rfl) (by first | assumption | rfl) ?_
    refine w_Vi (k := 16) [] rfl rfl rfl (Nat.le_of_ble_eq_true rfl) (by first | assumption | rfl) (Or.inl ⟨rfl, rfl⟩) ?_
    refine (c_82 (rwT N w) k1 ?_)
    refine ⟨_, rfl, ?_⟩
    refine w_ri (k := 17) rfl rfl rfl rfl ?_
    exact hq I1 k1 (fc_2 f1 (by decide) (by decide))
  · rw [if_neg (by rw [k3]; decide)] at hq
    refine w_ic (k := 6) (x := (-1)) rfl (by decide) ?_
    refine w_ri (k := 7) rfl rfl rfl rfl ?_
    exact hq I hA fc_rf
theorem c_145 (hA : cT I A) {kd ip port : Int32} (hq : ∀ I', cT I' ((sp_addr A kd ip port).getD A) → fc [5, 6] I I' → Q (some (.int (rs (sp_addr A kd ip port)))) (am_SH N, I', L, am_RR w)) : am_call (d + 4) 145 [.ref 4, .int kd, .int ip, .int port] (am_SH N, I, L, am_RR w) Q := by
  have no : ∀ ls, sp_addr A kd ip port = none → am_V 145 am_c145 (d + 3) (am_SH N) Q 11 ls [] (am_SH N, I, L, am_RR w) := by
    intro ls h
    rw [h] at hq
    refine w_ic (k := 11) (x := (-1)) rfl (by decide) ?_
    refine w_ri (k := 12) rfl rfl rfl rfl ?_
    exact hq I hA fc_rf
  unfold sp_addr at no hq
  refine am_enter (ls := [some _, some _, some _, some _]) (cs := am_c145) rfl rfl (Nat.le_of_ble_eq_true rfl) rfl ?_
  refine wp_iload (k := 0) rfl rfl ?_
  refine w_z_lt (k := 1) (t' := 11) rfl rfl (fun k1 => ?_) (fun k1 => ?_)
  · exact no _ (if_pos (Or.inl k1))
  · refine wp_iload (k := 2) rfl rfl ?_
    refine w_ic (k := 3) (x := nI 65535) rfl (oi_nI 65535) ?_
    refine w_c_gt (k := 4) (t' := 11) rfl rfl (fun k2 => ?_) (fun k2 => ?_)
    · exact no _ (if_pos (Or.inr k2))
    · rw [if_neg (fun q => q.elim k1 k2)] at hq no
      refine wp_aload (k := 5) rfl rfl ?_
      refine w_gr (k := 6) (s := 2) rfl rfl (by first | assumption | rfl) (by first | assumption | rfl) ?_
      refine wp_iload (k := 7) rfl rfl ?_
      refine w_ic (k := 8) (x := nI 8) rfl (oi_nI 8) ?_
      refine w_Vi (k := 9) [_, _] rfl rfl rfl (Nat.le_of_ble_eq_true rfl) (by first | assumption | rfl) (Or.inl ⟨rfl, rfl⟩) ?_
      refine (c_61 (pnT N w) (rwT N w) hA (by decide) ?_)
      refine ⟨_, rfl, ?_⟩
      refine w_b_ne (k := 10) (t' := 13) rfl rfl (fun k3 => ?_) (fun k3 => ?_)
      · rw [if_pos k3] at hq
        obtain ⟨t1, t2⟩ := tk_room k3
        refine wp_aload (k := 13) rfl rfl ?_
        refine w_gr (k := 14) (s := 2) rfl rfl (by first | assumption | rfl) (by first | assumption | rfl) ?_
        refine wp_iload (k := 15) rfl rfl ?_
        refine wp_iload (k := 16) rfl rfl ?_
        refine wp_iload (k := 17) rfl rfl ?_
        refine w_Vv (k := 18) [_, _, _] rfl rfl rfl (Nat.le_of_ble_eq_true rfl) (by first | assumption | rfl) (Or.inl ⟨rfl, rfl⟩) ?_
        refine (c_67 (pnT N w) (rwT N w) hA t1 t2 (fun I1 k1 f1 => ⟨rfl, ?_⟩))
        refine wp_aload (k := 19) rfl rfl ?_
        refine w_gr (k := 20) (s := 0) rfl rfl (by first | assumption | rfl) (by first | assumption | rfl) ?_
        refine w_Vi (k := 21) [] rfl rfl rfl (Nat.le_of_ble_eq_true rfl) (by first | assumption | rfl) (Or.inl ⟨rfl, rfl⟩) ?_
        refine (c_82 (rwT N w) k1 ?_)
        refine ⟨_, rfl, ?_⟩
        refine w_ri (k := 22) rfl rfl rfl rfl ?_
        exact hq I1 k1 (fc_2 f1 (by decide) (by decide))
      · exact no _ (if_neg (by rw [k3]; decide))
theorem c_148 (hA : cT I A) {i : Int32} (hq : Q (some (.int (byA A i))) (am_SH N, I, L, am_RR w)) : am_call (d + 2) 148 [.ref 4, .int i] (am_SH N, I, L, am_RR w) Q := by
  refine am_enter (ls := [some _, some _]) (cs := am_c148) rfl rfl (Nat.le_of_ble_eq_true rfl) rfl ?_
  refine wp_aload (k := 0) rfl rfl ?_
  refine w_gr (k := 1) (s := 0) rfl rfl (by first | assumption | rfl) (by first | assumption | rfl) ?_
  refine wp_iload (k := 2) rfl rfl ?_
  refine w_Vi (k := 3) [_] rfl rfl rfl (Nat.le_of_ble_eq_true rfl) (by first | assumption | rfl) (Or.inl ⟨rfl, rfl⟩) ?_
  refine (c_84 (rwT N w) hA ?_)
  refine ⟨_, rfl, ?_⟩
  refine w_ri (k := 4) rfl rfl rfl rfl ?_
  exact hq
def sp_alt (A : List Nat) (i m : Int32) : Option (List Nat) := if i < 0 ∨ nI A.length ≤ i ∨ m < nI 1 ∨ nI 255 < m then none else some (A.set i.toNatClampNeg (A.getD i.toNatClampNeg 0 ^^^ uI m))
def rs_alt (A : List Nat) (i m : Int32) : Int32 := match sp_alt A i m with
  | none => -1
  | some B => nI (B.getD i.toNatClampNeg 0)
theorem xor_lt {a b : Nat} (ha : a < 256) (hb : b < 256) : a ^^^ b < 256 := Nat.xor_lt_two_pow (n := 8) ha hb
theorem c_149 (hA : cT I A) {i m : Int32} (hq : ∀ I', cT I' ((sp_alt A i m).getD A) → fc [5, 6] I I' → Q (some (.int (rs_alt A i m))) (am_SH N, I', L, am_RR w)) : am_call (d + 2) 149 [.ref 4, .int i, .int m] (am_SH N, I, L, am_RR w) Q := by
  have hl := hA.1
  have no : ∀ ls, (i < 0 ∨ nI A.length ≤ i ∨ m < nI 1 ∨ nI 255 < m) → am_V 149 am_c149 (d + 1) (am_SH N) Q 13 ls [] (am_SH N, I, L, am_RR w) := by
    intro ls h
    unfold rs_alt sp_alt at hq
    rw [if_pos h] at hq
    refine w_ic (k := 13) (x := (-1)) rfl (by decide) ?_
    refine w_ri (k := 14) rfl rfl rfl rfl ?_
    exact hq I hA fc_rf
  refine am_enter (ls := [some _, some _, some _]) (cs := am_c149) rfl rfl (Nat.le_of_ble_eq_true rfl) rfl ?_
  refine wp_iload (k := 0) rfl rfl ?_
  refine w_z_lt (k := 1) (t' := 13) rfl rfl (fun k1 => ?_) (fun k1 => ?_)
  · exact no _ (Or.inl k1)
  · refine wp_iload (k := 2) rfl rfl ?_
    refine wp_aload (k := 3) rfl rfl ?_
    refine w_gr (k := 4) (s := 0) rfl rfl (by first | assumption | rfl) (by first | assumption | rfl) ?_
    refine w_Vi (k := 5) [] rfl rfl rfl (Nat.le_of_ble_eq_true rfl) (by first | assumption | rfl) (Or.inl ⟨rfl, rfl⟩) ?_
    refine (c_82 (rwT N w) hA ?_)
    refine ⟨_, rfl, ?_⟩
    refine w_c_ge (k := 6) (t' := 13) rfl rfl (fun k2 => ?_) (fun k2 => ?_)
    · exact no _ (Or.inr (Or.inl k2))
    · refine wp_iload (k := 7) rfl rfl ?_
      refine w_ic (k := 8) (x := nI 1) rfl (oi_nI 1) ?_
      refine w_c_lt (k := 9) (t' := 13) rfl rfl (fun k3 => ?_) (fun k3 => ?_)
      · exact no _ (Or.inr (Or.inr (Or.inl k3)))
      · refine wp_iload (k := 10) rfl rfl ?_
        refine w_ic (k := 11) (x := nI 255) rfl (oi_nI 255) ?_
        refine w_c_le (k := 12) (t' := 15) rfl rfl (fun k4 => ?_) (fun k4 => ?_)
        · obtain ⟨j, hj, rfl⟩ := nI_of k1
          have hj2 : j < A.length := by
            rcases Nat.lt_or_ge j A.length with q | q
            · exact q
            · exact absurd (nI_le q (by omega)) k2
          have hm0 : ¬ m < 0 := fun q => k3 (Int32.lt_trans q (by decide))
          obtain ⟨u, hu, rfl⟩ := nI_of hm0
          have hu2 : u ≤ 255 := (nI_leI (by omega) (by decide)).mp k4
          have hg := gd_lt hA.2.2.2 j
          have hx := xor_lt hg (show u < 256 by omega)
          unfold rs_alt sp_alt at hq
          rw [if_neg (fun q => q.elim k1 (fun q => q.elim k2 (fun q => q.elim k3 (Int32.not_lt.mpr k4)))), nI_clamp (by omega), uI_nI (by omega)] at hq
          refine wp_aload (k := 15) rfl rfl ?_
          refine w_gr (k := 16) (s := 0) rfl rfl (by first | assumption | rfl) (by first | assumption | rfl) ?_
          refine wp_iload (k := 17) rfl rfl ?_
          refine wp_aload (k := 18) rfl rfl ?_
          refine w_gr (k := 19) (s := 0) rfl rfl (by first | assumption | rfl) (by first | assumption | rfl) ?_
          refine wp_iload (k := 20) rfl rfl ?_
          refine w_Vi (k := 21) [_] rfl rfl rfl (Nat.le_of_ble_eq_true rfl) (by first | assumption | rfl) (Or.inl ⟨rfl, rfl⟩) ?_
          refine (c_84 (rwT N w) hA ?_)
          refine ⟨_, rfl, ?_⟩
          refine wp_iload (k := 22) rfl rfl ?_
          refine wp_ixor (k := 23) rfl ?_
          rw [byA_n hj2 (by omega), fb_xorI]
          refine w_Vv (k := 24) [_, _] rfl rfl rfl (Nat.le_of_ble_eq_true rfl) (by first | assumption | rfl) (Or.inl ⟨rfl, rfl⟩) ?_
          refine (c_85 (rwT N w) hA hj2 (fun I1 k1 f1 => ⟨rfl, ?_⟩))
          rw [show (nI (A.getD j 0 ^^^ u)).toBitVec.toNat % 256 = A.getD j 0 ^^^ u by show uI (nI _) % 256 = _; rw [uI_nI (by omega)]; omega] at k1
          refine wp_aload (k := 25) rfl rfl ?_
          refine w_gr (k := 26) (s := 0) rfl rfl (by first | assumption | rfl) (by first | assumption | rfl) ?_
          refine wp_iload (k := 27) rfl rfl ?_
          refine w_Vi (k := 28) [_] rfl rfl rfl (Nat.le_of_ble_eq_true rfl) (by first | assumption | rfl) (Or.inl ⟨rfl, rfl⟩) ?_
          refine (c_84 (rwT N w) k1 ?_)
          refine ⟨_, rfl, ?_⟩
          refine w_ri (k := 29) rfl rfl rfl rfl ?_
          rw [byA_n (by simpa using hj2) (by simp; omega)]
          exact hq I1 k1 (fc_1 (a := 6) f1 (by decide))
        · exact no _ (Or.inr (Or.inr (Or.inr (Int32.not_le.mp k4))))
end DC
