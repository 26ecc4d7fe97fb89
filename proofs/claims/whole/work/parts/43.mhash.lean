/-! ===== the reference's SHA-256 ===== -/
def mk (I : Nat → Nat → Int32) : Prop := (∀ i, i < 64 → I 101 i = kR i) ∧ ∀ i, i < 8 → I 102 i = kF i
theorem mk_k {I I' : Nat → Nat → Int32} (h : mk I) (h1 : I' 101 = I 101) (h2 : I' 102 = I 102) : mk I' := ⟨fun i hi => by rw [h1]; exact h.1 i hi, fun i hi => by rw [h2]; exact h.2 i hi⟩
def fl (S : List Nat) (L L' : Nat → Nat → Int64) : Prop := (∀ x, x ≠ 100 → L' x = L x) ∧ ∀ s, s ∉ S → L' 100 s = L 100 s
theorem fl_rf {S : List Nat} {L : Nat → Nat → Int64} : fl S L L := ⟨fun _ _ => rfl, fun _ _ => rfl⟩
theorem fl_t {S : List Nat} {L L1 L2 : Nat → Nat → Int64} (h1 : fl S L L1) (h2 : fl S L1 L2) : fl S L L2 := ⟨fun x h => by rw [h2.1 x h, h1.1 x h], fun s hs => by rw [h2.2 s hs, h1.2 s hs]⟩
theorem fl_s {S : List Nat} {L : Nat → Nat → Int64} {s : Nat} {v : Int64} (hs : s ∈ S) : fl S L (am_u L 100 s v) := ⟨fun x h => am_uR h, fun t ht => am_uw (fun (q : t = s) => ht (by rw [q]; exact hs)) rfl⟩
theorem nb_app {P X : List Nat} {s : Nat} : ∀ {v : Nat}, s + v ≤ P.length → nb (P ++ X) s v = nb P s v
  | 0, _ => rfl
  | v + 1, h => by rw [nb, nb, nb_app (v := v) (by omega), gd_app1 (by omega)]
theorem hh_app {P X : List Nat} : ∀ j, 64 * j ≤ P.length → ∀ i, i < 8 → hh (P ++ X) j i = hh P j i
  | 0, _, i, _ => rfl
  | j + 1, h, i, hi => comp_cong (hh_app j (by omega)) (fun t ht => by unfold mw; rw [nb_app (by omega)]) i hi
section MH
variable {d N : Nat} {I : Nat → Nat → Int32} {L : Nat → Nat → Int64} {w : Option Nat} {Q : am_Q}
theorem c_171 {x : Int32} {n : Nat} (hn : n ≤ 31) (hq : Q (some (.int (rr x n))) (am_SH N, I, L, am_RR w)) : am_call (d + 1) 171 [.int x, .int (nI n)] (am_SH N, I, L, am_RR w) Q := by
  refine am_enter (ls := [some _, some _]) (cs := am_c171) rfl rfl (Nat.le_of_ble_eq_true rfl) rfl ?_
  refine wp_iload (k := 0) rfl rfl ?_
  refine wp_iload (k := 1) rfl rfl ?_
  refine wp_iushr (k := 2) rfl ?_
  refine wp_iload (k := 3) rfl rfl ?_
  refine w_ic (k := 4) (x := nI 32) rfl (oi_nI 32) ?_
  refine wp_iload (k := 5) rfl rfl ?_
  refine w_subN (k := 6) rfl (by omega) ?_
  refine wp_ishl (k := 7) rfl ?_
  refine wp_ior (k := 8) rfl ?_
  refine w_ri (k := 9) rfl rfl rfl rfl ?_
  exact hq
theorem c_173 (hk : mk I) {s W : Nat → Int32} (hs : ∀ i, i < 8 → I 103 i = s i) (hW : ∀ i, i < 64 → I 104 i = W i) (hq : ∀ I', (∀ i, i < 8 → I' 103 i = s i + rd W s 64 i) → (∀ x, x ≠ 103 → x ≠ 108 → I' x = I x) → Q none (am_SH N, I', L, am_RR w)) : am_call (d + 2) 173 [.ref 100] (am_SH N, I, L, am_RR w) Q := by
  have fin : ∀ (r i : Nat) (I1 : Nat → Nat → Int32) (o2 o3 o4 o5 o6 : Option Value), i + r = 8 → (∀ j, j < 8 → I1 108 j = rd W s 64 j) → (∀ j, j < 8 → I1 103 j = if j < i then s j + rd W s 64 j else s j) → (∀ x, x ≠ 103 → x ≠ 108 → I1 x = I x) → am_V 173 am_c173 (d + 1) (am_SH N) Q 144 [some (.ref 100), some (.int (nI i)), o2, o3, o4, o5, o6] [] (am_SH N, I1, L, am_RR w) := by
    intro r
    induction r with
    | zero =>
      intro i I1 o2 o3 o4 o5 o6 hi h1 h2 f1
      refine wp_iload (k := 144) rfl rfl ?_
      refine w_ic (k := 145) (x := nI 8) rfl (oi_nI 8) ?_
      refine w_n_ge (k := 146) (t' := 160) rfl rfl (by omega) (fun q => ?_) (fun q => absurd q (by omega))
      refine w_rv (k := 160) rfl rfl rfl rfl ?_
      exact hq I1 (fun j hj => by rw [h2 j hj, if_pos (by omega)]) f1
    | succ r ih =>
      intro i I1 o2 o3 o4 o5 o6 hi h1 h2 f1
      have v1 : I1 103 i = s i := by rw [h2 i (by omega), if_neg (by omega)]
      refine wp_iload (k := 144) rfl rfl ?_
      refine w_ic (k := 145) (x := nI 8) rfl (oi_nI 8) ?_
      refine w_n_ge (k := 146) (t' := 160) rfl rfl (by omega) (fun q => absurd q (by omega)) (fun q => ?_)
      refine wp_aload (k := 147) rfl rfl ?_
      refine w_gr (k := 148) (s := 3) rfl rfl (by first | assumption | rfl) (by first | assumption | rfl) ?_
      refine wp_iload (k := 149) rfl rfl ?_
      refine wp_dup2 (k := 150) rfl rfl rfl ?_
      refine w_iald (k := 151) rfl rfl (by first | assumption | rfl) (by omega) v1 ?_
      refine wp_aload (k := 152) rfl rfl ?_
      refine w_gr (k := 153) (s := 10) rfl rfl (by first | assumption | rfl) (by first | assumption | rfl) ?_
      refine wp_iload (k := 154) rfl rfl ?_
      refine w_iald (k := 155) rfl rfl (by first | assumption | rfl) (by omega) (h1 i (by omega)) ?_
      refine wp_iadd (k := 156) rfl ?_
      refine w_iast (k := 157) rfl rfl (by omega) (by first | assumption | rfl) (by omega) ?_
      refine w_incN (k := 158) (m := 1) rfl (oi_nI 1) rfl ?_
      refine w_goto (k := 159) (t' := 144) rfl rfl ?_
      refine ih (i + 1) _ _ _ _ _ _ (by omega) (fun j hj => by rw [am_uR (by decide)]; exact h1 j hj) (fun j hj => ?_) (fun x a b => by rw [am_uR a, f1 x a b])
      rw [am_u_app]
      by_cases e : j = i
      · rw [if_pos ⟨rfl, e⟩, e, if_pos (by omega)]
      · rw [if_neg (fun q => e q.2), h2 j hj]
        by_cases hji : j < i
        · rw [if_pos hji, if_pos (by omega)]
        · rw [if_neg hji, if_neg (by omega)]
  have main : ∀ (r n : Nat) (I1 : Nat → Nat → Int32) (o2 o3 o4 o5 o6 : Option Value), n + r = 64 → (∀ j, j < 8 → I1 108 j = rd W s n j) → (∀ x, x ≠ 108 → I1 x = I x) → am_V 173 am_c173 (d + 1) (am_SH N) Q 17 [some (.ref 100), some (.int (nI n)), o2, o3, o4, o5, o6] [] (am_SH N, I1, L, am_RR w) := by
    intro r
    induction r with
    | zero =>
      intro n I1 o2 o3 o4 o5 o6 hn h1 f1
      obtain rfl : n = 64 := by omega
      refine wp_iload (k := 17) rfl rfl ?_
      refine w_ic (k := 18) (x := nI 64) rfl (oi_nI 64) ?_
      refine w_n_ge (k := 19) (t' := 142) rfl rfl (by omega) (fun q => ?_) (fun q => absurd q (by omega))
      refine w_ic (k := 142) (x := nI 0) rfl (oi_nI 0) ?_
      refine wp_istore (k := 143) rfl rfl ?_
      exact fin 8 0 I1 _ _ _ _ _ (by omega) h1 (fun j hj => by rw [f1 103 (by decide), if_neg (by omega)]; exact hs j hj) (fun x a b => f1 x b)
    | succ r ih =>
      intro n I1 o2 o3 o4 o5 o6 hn h1 f1
      have hc : I1 101 n = kR n := by rw [f1 101 (by decide)]; exact hk.1 n (by omega)
      have hw : I1 104 n = W n := by rw [f1 104 (by decide)]; exact hW n (by omega)
      have shift : ∀ (m : Nat) (I2 : Nat → Nat → Int32), m ≤ 7 → (∀ j, j < 8 → I2 108 j = if m < j then rd W s n (j - 1) else rd W s n j) → (∀ x, x ≠ 108 → I2 x = I x) → am_V 173 am_c173 (d + 1) (am_SH N) Q 111 [some (.ref 100), some (.int (nI n)), some (.int (rd W s n 4)), some (.int (rd W s n 0)), some (.int (sone (rd W s n) (kR n) (W n))), some (.int (stwo (rd W s n))), some (.int (nI m))] [] (am_SH N, I2, L, am_RR w) := by
        intro m
        induction m with
        | zero =>
          intro I2 _ h2 f2
          have v4 : I2 108 4 = rd W s n 3 := by rw [h2 4 (by decide), if_pos (by decide)]
          refine wp_iload (k := 111) rfl rfl ?_
          refine w_m_le (k := 112) (t' := 125) rfl rfl (by omega) (fun q => ?_) (fun q => absurd q (by omega))
          refine wp_aload (k := 125) rfl rfl ?_
          refine w_gr (k := 126) (s := 10) rfl rfl (by first | assumption | rfl) (by first | assumption | rfl) ?_
          refine w_ic (k := 127) (x := nI 4) rfl (oi_nI 4) ?_
          refine wp_dup2 (k := 128) rfl rfl rfl ?_
          refine w_iald (k := 129) rfl rfl (by first | assumption | rfl) (by omega) v4 ?_
          refine wp_iload (k := 130) rfl rfl ?_
          refine wp_iadd (k := 131) rfl ?_
          refine w_iast (k := 132) rfl rfl (by omega) (by first | assumption | rfl) (by omega) ?_
          refine wp_aload (k := 133) rfl rfl ?_
          refine w_gr (k := 134) (s := 10) rfl rfl (by first | assumption | rfl) (by first | assumption | rfl) ?_
          refine w_ic (k := 135) (x := nI 0) rfl (oi_nI 0) ?_
          refine wp_iload (k := 136) rfl rfl ?_
          refine wp_iload (k := 137) rfl rfl ?_
          refine wp_iadd (k := 138) rfl ?_
          refine w_iast (k := 139) rfl rfl (by omega) (by first | assumption | rfl) (by omega) ?_
          refine w_incN (k := 140) (m := 1) rfl (oi_nI 1) rfl ?_
          refine w_goto (k := 141) (t' := 17) rfl rfl ?_
          refine ih (n + 1) _ _ _ _ _ _ (by omega) (fun j hj => ?_) (fun x hx => by rw [am_uR hx, am_uR hx, f2 x hx])
          rw [am_u_app, am_u_app]
          match j, hj with
          | 0, _ => rw [if_pos ⟨rfl, rfl⟩]; rfl
          | 1, _ => rw [if_neg (by decide), if_neg (by decide), h2 1 (by decide), if_pos (by decide)]; rfl
          | 2, _ => rw [if_neg (by decide), if_neg (by decide), h2 2 (by decide), if_pos (by decide)]; rfl
          | 3, _ => rw [if_neg (by decide), if_neg (by decide), h2 3 (by decide), if_pos (by decide)]; rfl
          | 4, _ => rw [if_neg (by decide), if_pos ⟨rfl, rfl⟩]; rfl
          | 5, _ => rw [if_neg (by decide), if_neg (by decide), h2 5 (by decide), if_pos (by decide)]; rfl
          | 6, _ => rw [if_neg (by decide), if_neg (by decide), h2 6 (by decide), if_pos (by decide)]; rfl
          | 7, _ => rw [if_neg (by decide), if_neg (by decide), h2 7 (by decide), if_pos (by decide)]; rfl
          | i + 8, hi => omega
        | succ m ihm =>
          intro I2 hm h2 f2
          have v1 : I2 108 (m + 1 - 1) = rd W s n m := by rw [Nat.add_sub_cancel, h2 m (by omega), if_neg (by omega)]
          refine wp_iload (k := 111) rfl rfl ?_
          refine w_m_le (k := 112) (t' := 125) rfl rfl (by omega) (fun q => absurd q (by omega)) (fun q => ?_)
          refine wp_aload (k := 113) rfl rfl ?_
          refine w_gr (k := 114) (s := 10) rfl rfl (by first | assumption | rfl) (by first | assumption | rfl) ?_
          refine wp_iload (k := 115) rfl rfl ?_
          refine wp_aload (k := 116) rfl rfl ?_
          refine w_gr (k := 117) (s := 10) rfl rfl (by first | assumption | rfl) (by first | assumption | rfl) ?_
          refine wp_iload (k := 118) rfl rfl ?_
          refine w_ic (k := 119) (x := nI 1) rfl (oi_nI 1) ?_
          refine w_subN (k := 120) rfl (by omega) ?_
          refine w_iald (k := 121) rfl rfl (by first | assumption | rfl) (by omega) v1 ?_
          refine w_iast (k := 122) rfl rfl (by omega) (by first | assumption | rfl) (by omega) ?_
          refine w_decN (k := 123) rfl (by decide) rfl ?_
          refine w_goto (k := 124) (t' := 111) rfl rfl ?_
          refine ihm _ (by omega) (fun j hj => ?_) (fun x hx => by rw [am_uR hx, f2 x hx])
          rw [am_u_app]
          by_cases e : j = m + 1
          · rw [if_pos ⟨rfl, e⟩, e, if_pos (by omega), Nat.add_sub_cancel]
          · rw [if_neg (fun q => e q.2), h2 j hj]
            by_cases hjm : m < j
            · rw [if_pos (by omega), if_pos hjm]
            · rw [if_neg (by omega), if_neg hjm]
      refine wp_iload (k := 17) rfl rfl ?_
      refine w_ic (k := 18) (x := nI 64) rfl (oi_nI 64) ?_
      refine w_n_ge (k := 19) (t' := 142) rfl rfl (by omega) (fun q => absurd q (by omega)) (fun q => ?_)
      refine wp_aload (k := 20) rfl rfl ?_
      refine w_gr (k := 21) (s := 10) rfl rfl (by first | assumption | rfl) (by first | assumption | rfl) ?_
      refine w_ic (k := 22) (x := nI 4) rfl (oi_nI 4) ?_
      refine w_iald (k := 23) rfl rfl (by first | assumption | rfl) (by omega) (h1 4 (by decide)) ?_
      refine wp_istore (k := 24) (ls2 := [some _, some _, some _, _, _, _, _]) rfl rfl ?_
      refine wp_aload (k := 25) rfl rfl ?_
      refine w_gr (k := 26) (s := 10) rfl rfl (by first | assumption | rfl) (by first | assumption | rfl) ?_
      refine w_ic (k := 27) (x := nI 0) rfl (oi_nI 0) ?_
      refine w_iald (k := 28) rfl rfl (by first | assumption | rfl) (by omega) (h1 0 (by decide)) ?_
      refine wp_istore (k := 29) (ls2 := [some _, some _, some _, some _, _, _, _]) rfl rfl ?_
      refine wp_aload (k := 30) rfl rfl ?_
      refine w_gr (k := 31) (s := 10) rfl rfl (by first | assumption | rfl) (by first | assumption | rfl) ?_
      refine w_ic (k := 32) (x := nI 7) rfl (oi_nI 7) ?_
      refine w_iald (k := 33) rfl rfl (by first | assumption | rfl) (by omega) (h1 7 (by decide)) ?_
      refine wp_iload (k := 34) rfl rfl ?_
      refine w_ic (k := 35) (x := nI 6) rfl (oi_nI 6) ?_
      refine w_Si (k := 36) [_, _] rfl rfl rfl (Nat.le_of_ble_eq_true rfl) (Or.inl ⟨rfl, rfl⟩) ?_
      refine (c_171 (by decide) ?_)
      refine ⟨_, rfl, ?_⟩
      refine wp_iload (k := 37) rfl rfl ?_
      refine w_ic (k := 38) (x := nI 11) rfl (oi_nI 11) ?_
      refine w_Si (k := 39) [_, _] rfl rfl rfl (Nat.le_of_ble_eq_true rfl) (Or.inl ⟨rfl, rfl⟩) ?_
      refine (c_171 (by decide) ?_)
      refine ⟨_, rfl, ?_⟩
      refine wp_ixor (k := 40) rfl ?_
      refine wp_iload (k := 41) rfl rfl ?_
      refine w_ic (k := 42) (x := nI 25) rfl (oi_nI 25) ?_
      refine w_Si (k := 43) [_, _] rfl rfl rfl (Nat.le_of_ble_eq_true rfl) (Or.inl ⟨rfl, rfl⟩) ?_
      refine (c_171 (by decide) ?_)
      refine ⟨_, rfl, ?_⟩
      refine wp_ixor (k := 44) rfl ?_
      refine wp_iadd (k := 45) rfl ?_
      refine wp_iload (k := 46) rfl rfl ?_
      refine wp_aload (k := 47) rfl rfl ?_
      refine w_gr (k := 48) (s := 10) rfl rfl (by first | assumption | rfl) (by first | assumption | rfl) ?_
      refine w_ic (k := 49) (x := nI 5) rfl (oi_nI 5) ?_
      refine w_iald (k := 50) rfl rfl (by first | assumption | rfl) (by omega) (h1 5 (by decide)) ?_
      refine wp_iand (k := 51) rfl ?_
      refine wp_iload (k := 52) rfl rfl ?_
      refine w_ic (k := 53) (x := (-1)) rfl (by decide) ?_
      refine wp_ixor (k := 54) rfl ?_
      refine wp_aload (k := 55) rfl rfl ?_
      refine w_gr (k := 56) (s := 10) rfl rfl (by first | assumption | rfl) (by first | assumption | rfl) ?_
      refine w_ic (k := 57) (x := nI 6) rfl (oi_nI 6) ?_
      refine w_iald (k := 58) rfl rfl (by first | assumption | rfl) (by omega) (h1 6 (by decide)) ?_
      refine wp_iand (k := 59) rfl ?_
      refine wp_ixor (k := 60) rfl ?_
      refine wp_iadd (k := 61) rfl ?_
      refine wp_aload (k := 62) rfl rfl ?_
      refine w_gr (k := 63) (s := 1) rfl rfl (by first | assumption | rfl) (by first | assumption | rfl) ?_
      refine wp_iload (k := 64) rfl rfl ?_
      refine w_iald (k := 65) rfl rfl (by first | assumption | rfl) (by omega) hc ?_
      refine wp_iadd (k := 66) rfl ?_
      refine wp_aload (k := 67) rfl rfl ?_
      refine w_gr (k := 68) (s := 4) rfl rfl (by first | assumption | rfl) (by first | assumption | rfl) ?_
      refine wp_iload (k := 69) rfl rfl ?_
      refine w_iald (k := 70) rfl rfl (by first | assumption | rfl) (by omega) hw ?_
      refine wp_iadd (k := 71) rfl ?_
      refine w_eqi (y := (sone (rd W s n) (kR n) (W n))) rfl ?_
      refine wp_istore (k := 72) (ls2 := [some _, some _, some _, some _, some _, _, _]) rfl rfl ?_
      refine wp_iload (k := 73) rfl rfl ?_
      refine w_ic (k := 74) (x := nI 2) rfl (oi_nI 2) ?_
      refine w_Si (k := 75) [_, _] rfl rfl rfl (Nat.le_of_ble_eq_true rfl) (Or.inl ⟨rfl, rfl⟩) ?_
      refine (c_171 (by decide) ?_)
      refine ⟨_, rfl, ?_⟩
      refine wp_iload (k := 76) rfl rfl ?_
      refine w_ic (k := 77) (x := nI 13) rfl (oi_nI 13) ?_
      refine w_Si (k := 78) [_, _] rfl rfl rfl (Nat.le_of_ble_eq_true rfl) (Or.inl ⟨rfl, rfl⟩) ?_
      refine (c_171 (by decide) ?_)
      refine ⟨_, rfl, ?_⟩
      refine wp_ixor (k := 79) rfl ?_
      refine wp_iload (k := 80) rfl rfl ?_
      refine w_ic (k := 81) (x := nI 22) rfl (oi_nI 22) ?_
      refine w_Si (k := 82) [_, _] rfl rfl rfl (Nat.le_of_ble_eq_true rfl) (Or.inl ⟨rfl, rfl⟩) ?_
      refine (c_171 (by decide) ?_)
      refine ⟨_, rfl, ?_⟩
      refine wp_ixor (k := 83) rfl ?_
      refine wp_iload (k := 84) rfl rfl ?_
      refine wp_aload (k := 85) rfl rfl ?_
      refine w_gr (k := 86) (s := 10) rfl rfl (by first | assumption | rfl) (by first | assumption | rfl) ?_
      refine w_ic (k := 87) (x := nI 1) rfl (oi_nI 1) ?_
      refine w_iald (k := 88) rfl rfl (by first | assumption | rfl) (by omega) (h1 1 (by decide)) ?_
      refine wp_iand (k := 89) rfl ?_
      refine wp_iload (k := 90) rfl rfl ?_
      refine wp_aload (k := 91) rfl rfl ?_
      refine w_gr (k := 92) (s := 10) rfl rfl (by first | assumption | rfl) (by first | assumption | rfl) ?_
      refine w_ic (k := 93) (x := nI 2) rfl (oi_nI 2) ?_
      refine w_iald (k := 94) rfl rfl (by first | assumption | rfl) (by omega) (h1 2 (by decide)) ?_
      refine wp_iand (k := 95) rfl ?_
      refine wp_ixor (k := 96) rfl ?_
      refine wp_aload (k := 97) rfl rfl ?_
      refine w_gr (k := 98) (s := 10) rfl rfl (by first | assumption | rfl) (by first | assumption | rfl) ?_
      refine w_ic (k := 99) (x := nI 1) rfl (oi_nI 1) ?_
      refine w_iald (k := 100) rfl rfl (by first | assumption | rfl) (by omega) (h1 1 (by decide)) ?_
      refine wp_aload (k := 101) rfl rfl ?_
      refine w_gr (k := 102) (s := 10) rfl rfl (by first | assumption | rfl) (by first | assumption | rfl) ?_
      refine w_ic (k := 103) (x := nI 2) rfl (oi_nI 2) ?_
      refine w_iald (k := 104) rfl rfl (by first | assumption | rfl) (by omega) (h1 2 (by decide)) ?_
      refine wp_iand (k := 105) rfl ?_
      refine wp_ixor (k := 106) rfl ?_
      refine wp_iadd (k := 107) rfl ?_
      refine w_eqi (y := (stwo (rd W s n))) rfl ?_
      refine wp_istore (k := 108) (ls2 := [some _, some _, some _, some _, some _, some _, _]) rfl rfl ?_
      refine w_ic (k := 109) (x := nI 7) rfl (oi_nI 7) ?_
      refine wp_istore (k := 110) (ls2 := [some _, some _, some _, some _, some _, some _, some _]) rfl rfl ?_
      exact shift 7 I1 (by decide) (fun j hj => by rw [h1 j hj, if_neg (by omega)]) f1
  have cpy : ∀ (r i : Nat) (I1 : Nat → Nat → Int32), i + r = 8 → (∀ j, j < i → I1 108 j = s j) → (∀ x, x ≠ 108 → I1 x = I x) → am_V 173 am_c173 (d + 1) (am_SH N) Q 2 [some (.ref 100), some (.int (nI i)), none, none, none, none, none] [] (am_SH N, I1, L, am_RR w) := by
    intro r
    induction r with
    | zero =>
      intro i I1 hi h1 f1
      obtain rfl : i = 8 := by omega
      refine wp_iload (k := 2) rfl rfl ?_
      refine w_ic (k := 3) (x := nI 8) rfl (oi_nI 8) ?_
      refine w_n_ge (k := 4) (t' := 15) rfl rfl (by omega) (fun q => ?_) (fun q => absurd q (by omega))
      refine w_ic (k := 15) (x := nI 0) rfl (oi_nI 0) ?_
      refine wp_istore (k := 16) rfl rfl ?_
      exact main 64 0 I1 _ _ _ _ _ (by omega) h1 f1
    | succ r ih =>
      intro i I1 hi h1 f1
      have v1 : I1 103 i = s i := by rw [f1 103 (by decide)]; exact hs i (by omega)
      refine wp_iload (k := 2) rfl rfl ?_
      refine w_ic (k := 3) (x := nI 8) rfl (oi_nI 8) ?_
      refine w_n_ge (k := 4) (t' := 15) rfl rfl (by omega) (fun q => absurd q (by omega)) (fun q => ?_)
      refine wp_aload (k := 5) rfl rfl ?_
      refine w_gr (k := 6) (s := 10) rfl rfl (by first | assumption | rfl) (by first | assumption | rfl) ?_
      refine wp_iload (k := 7) rfl rfl ?_
      refine wp_aload (k := 8) rfl rfl ?_
      refine w_gr (k := 9) (s := 3) rfl rfl (by first | assumption | rfl) (by first | assumption | rfl) ?_
      refine wp_iload (k := 10) rfl rfl ?_
      refine w_iald (k := 11) rfl rfl (by first | assumption | rfl) (by omega) v1 ?_
      refine w_iast (k := 12) rfl rfl (by omega) (by first | assumption | rfl) (by omega) ?_
      refine w_incN (k := 13) (m := 1) rfl (oi_nI 1) rfl ?_
      refine w_goto (k := 14) (t' := 2) rfl rfl ?_
      refine ih (i + 1) _ (by omega) (fun j hj => ?_) (fun x hx => by rw [am_uR hx, f1 x hx])
      rw [am_u_app]
      by_cases e : j = i
      · rw [if_pos ⟨rfl, e⟩, e]
      · rw [if_neg (fun q => e q.2)]
        exact h1 j (by omega)
  refine am_enter (ls := [some _, none, none, none, none, none, none]) (cs := am_c173) rfl rfl (Nat.le_of_ble_eq_true rfl) rfl ?_
  refine w_ic (k := 0) (x := nI 0) rfl (oi_nI 0) ?_
  refine wp_istore (k := 1) rfl rfl ?_
  exact cpy 8 0 I (by omega) (fun j hj => absurd hj (Nat.not_lt_zero j)) (fun _ _ => rfl)
/-- what has been hashed: P -/
def hs_ (I : Nat → Nat → Int32) (L : Nat → Nat → Int64) (P : List Nat) : Prop := I 100 6 = nI (P.length % 64) ∧ L 100 7 = lN P.length ∧ (∀ i, i < 8 → I 103 i = hh P (P.length / 64) i) ∧ (∀ i, i < P.length % 64 → I 105 i = nI (P.getD (64 * (P.length / 64) + i) 0)) ∧ (∀ c ∈ P, c < 256) ∧ mk I
theorem hs_k {S T : List Nat} {I I' : Nat → Nat → Int32} {P : List Nat} (h : hs_ I L P) (f : fx S T I I') (hS : 101 ∉ S ∧ 102 ∉ S ∧ 103 ∉ S ∧ 105 ∉ S) (h6 : 6 ∉ T) : hs_ I' L P := by
  obtain ⟨a1, a2, a3, a4, a5, a6⟩ := h
  refine ⟨by rw [f.2 6 h6]; exact a1, a2, fun i hi => by rw [f.1 103 (by decide) hS.2.2.1]; exact a3 i hi, fun i hi => by rw [f.1 105 (by decide) hS.2.2.2]; exact a4 i hi, a5, mk_k a6 (f.1 101 (by decide) hS.1) (f.1 102 (by decide) hS.2.1)⟩
theorem c_172 {P : List Nat} (h : hs_ I L P) (hl : P.length < 100000) {b : Int32} (hq : ∀ I' L', hs_ I' L' (P ++ [uI b % 256]) → fx [103, 104, 105, 108] [6] I I' → fl [7] L L' → Q none (am_SH N, I', L', am_RR w)) : am_call (d + 3) 172 [.ref 100, .int b] (am_SH N, I, L, am_RR w) Q := by
  obtain ⟨a1, a2, a3, a4, a5, a6⟩ := h
  have hm : P.length % 64 < 64 := Nat.mod_lt _ (by decide)
  have hc : uI b % 256 < 256 := Nat.mod_lt _ (by decide)
  have hP' : ∀ c ∈ P ++ [uI b % 256], c < 256 := by
    intro c hc'
    rcases List.mem_append.mp hc' with q | q
    · exact a5 c q
    · simp at q; omega
  have hlen : (P ++ [uI b % 256]).length = P.length + 1 := by simp
  refine am_enter (ls := [some _, some _, none, none, none]) (cs := am_c172) rfl rfl (Nat.le_of_ble_eq_true rfl) rfl ?_
  refine wp_aload (k := 0) rfl rfl ?_
  refine w_gr (k := 1) (s := 5) rfl rfl (by first | assumption | rfl) (by first | assumption | rfl) ?_
  refine wp_aload (k := 2) rfl rfl ?_
  refine w_gi (k := 3) (s := 6) rfl rfl (by first | assumption | rfl) (by first | assumption | rfl) ?_
  refine wp_iload (k := 4) rfl rfl ?_
  refine w_ic (k := 5) (x := nI 255) rfl (oi_nI 255) ?_
  refine wp_iand (k := 6) rfl ?_
  rw [i_b0]
  refine w_iast (k := 7) rfl rfl (by omega) (by first | assumption | rfl) (by omega) ?_
  refine wp_aload (k := 8) rfl rfl ?_
  refine wp_dup (k := 9) rfl rfl ?_
  refine w_gi (k := 10) (s := 6) rfl rfl (by first | assumption | rfl) (am_uv (by decide) a1) ?_
  refine w_ic (k := 11) (x := nI 1) rfl (oi_nI 1) ?_
  refine w_addN (k := 12) rfl ?_
  refine w_pi (k := 13) (s := 6) rfl rfl (by first | assumption | rfl) ?_
  refine wp_aload (k := 14) rfl rfl ?_
  refine wp_dup (k := 15) rfl rfl ?_
  refine w_gl (k := 16) (s := 7) rfl rfl (by first | assumption | rfl) (by first | assumption | rfl) ?_
  refine w_lc (k := 17) (x := lN 1) rfl (ol_lN 1) ?_
  refine w_laddN (k := 18) rfl ?_
  refine w_pl (k := 19) (s := 7) rfl rfl (by first | assumption | rfl) ?_
  refine wp_aload (k := 20) rfl rfl ?_
  refine w_gi (k := 21) (s := 6) rfl rfl (by first | assumption | rfl) am_us ?_
  refine w_ic (k := 22) (x := nI 64) rfl (oi_nI 64) ?_
  generalize hI2 : am_u (am_u I 105 (P.length % 64) (nI (uI b % 256))) 100 6 (nI (P.length % 64 + 1)) = I2
  generalize hL2 : am_u L 100 7 (lN (P.length + 1)) = L2
  have f2 : fx [103, 104, 105, 108] [6] I I2 := by rw [← hI2]; exact fx_t (fx_p (by decide) (by decide)) (fx_s (by decide))
  have g2 : fl [7] L L2 := by rw [← hL2]; exact fl_s (by decide)
  have v2 : L2 100 7 = lN (P.length + 1) := by rw [← hL2, am_us]
  have b2 : ∀ i, i < P.length % 64 + 1 → I2 105 i = nI ((P ++ [uI b % 256]).getD (64 * (P.length / 64) + i) 0) := by
    intro i hi
    rw [← hI2, am_uR (by decide), am_u_app]
    by_cases e : i = P.length % 64
    · rw [if_pos ⟨rfl, e⟩, e, gd_app2 (by omega), show 64 * (P.length / 64) + P.length % 64 - P.length = 0 by omega]
      rfl
    · rw [if_neg (fun q => e q.2), gd_app1 (by omega)]
      exact a4 i (by omega)
  have mk2 : mk I2 := mk_k a6 (f2.1 101 (by decide) (by decide)) (f2.1 102 (by decide) (by decide))
  have s2 : ∀ i, i < 8 → I2 103 i = hh P (P.length / 64) i := by
    intro i hi
    rw [← hI2, am_uR (by decide), am_uR (by decide)]
    exact a3 i hi
  refine w_n_ge (k := 23) (t' := 25) rfl rfl (by omega) (fun k => ?_) (fun k => ?_)
  · have hdiv : (P.length + 1) / 64 = P.length / 64 + 1 := by omega
    have hmod : (P.length + 1) % 64 = 0 := by omega
    have h64 : 64 * (P.length / 64) + 64 = P.length + 1 := by omega
    -- the words out of the block
    have wds : ∀ (r i : Nat) (I3 : Nat → Nat → Int32) (o3 o4 : Option Value), i + r = 16 → (∀ t, t < i → I3 104 t = mw (P ++ [uI b % 256]) (P.length / 64) t) → fx [104] [6] I2 I3 → I3 100 6 = nI 0 → am_V 172 am_c172 (d + 2) (am_SH N) Q 30 [some (.ref 100), some (.int b), some (.int (nI i)), o3, o4] [] (am_SH N, I3, L2, am_RR w) := by
      intro r
      induction r with
      | zero =>
        intro i I3 o3 o4 hi m3 f3 z3
        obtain rfl : i = 16 := by omega
        have ext : ∀ (r j : Nat) (I4 : Nat → Nat → Int32) (o3 o4 : Option Value), j + r = 48 → (∀ t, t < 16 + j → I4 104 t = wx (mw (P ++ [uI b % 256]) (P.length / 64)) j t) → fx [104] [6] I2 I4 → I4 100 6 = nI 0 → am_V 172 am_c172 (d + 2) (am_SH N) Q 80 [some (.ref 100), some (.int b), some (.int (nI (16 + j))), o3, o4] [] (am_SH N, I4, L2, am_RR w) := by
          intro r
          induction r with
          | zero =>
            intro j I4 o3 o4 hj m4 f4 z4
            obtain rfl : j = 48 := by omega
            refine wp_iload (k := 80) rfl rfl ?_
            refine w_ic (k := 81) (x := nI 64) rfl (oi_nI 64) ?_
            refine w_n_ge (k := 82) (t' := 140) rfl rfl (by omega) (fun q => ?_) (fun q => absurd q (by omega))
            refine wp_aload (k := 140) rfl rfl ?_
            refine w_Vv (k := 141) [] rfl rfl rfl (Nat.le_of_ble_eq_true rfl) (by first | assumption | rfl) (Or.inl ⟨rfl, rfl⟩) ?_
            refine (c_173 (mk_k mk2 (f4.1 101 (by decide) (by decide)) (f4.1 102 (by decide) (by decide))) (s := hh P (P.length / 64)) (fun i hi => by rw [f4.1 103 (by decide) (by decide)]; exact s2 i hi) m4 (fun I5 s5 f5 => ⟨rfl, ?_⟩))
            refine w_rv (k := 142) rfl rfl rfl rfl ?_
            have f5' : fx [103, 104, 105, 108] [6] I I5 := fx_t f2 (fx_t (fx_mo f4 (by decide) (by decide)) ⟨fun x _ hx => f5 x (fun q => hx (by rw [q]; decide)) (fun q => hx (by rw [q]; decide)), fun s _ => by rw [f5 100 (by decide) (by decide)]⟩)
            refine hq I5 L2 ⟨?_, ?_, fun i hi => ?_, fun i hi => ?_, hP', ?_⟩ f5' g2
            · rw [f5 100 (by decide) (by decide), hlen, hmod]; exact z4
            · rw [hlen]; exact v2
            · rw [s5 i hi, hlen, hdiv]
              show _ = comp (hh (P ++ [uI b % 256]) (P.length / 64)) (mw (P ++ [uI b % 256]) (P.length / 64)) i
              exact comp_cong (fun i hi => (hh_app _ (by omega) i hi).symm) (fun _ _ => rfl) i hi
            · rw [hlen, hmod] at hi; exact absurd hi (Nat.not_lt_zero i)
            · exact mk_k a6 (f5'.1 101 (by decide) (by decide)) (f5'.1 102 (by decide) (by decide))
          | succ r ih =>
            intro j I4 o3 o4 hj m4 f4 z4
            have e1 : 16 + j - 15 = j + 1 := by omega
            have e2 : 16 + j - 2 = j + 14 := by omega
            have e3 : 16 + j - 16 = j := by omega
            have e4 : 16 + j - 7 = j + 9 := by omega
            refine wp_iload (k := 80) rfl rfl ?_
            refine w_ic (k := 81) (x := nI 64) rfl (oi_nI 64) ?_
            refine w_n_ge (k := 82) (t' := 140) rfl rfl (by omega) (fun q => absurd q (by omega)) (fun q => ?_)
            refine wp_aload (k := 83) rfl rfl ?_
            refine w_gr (k := 84) (s := 4) rfl rfl (by first | assumption | rfl) (by first | assumption | rfl) ?_
            refine wp_iload (k := 85) rfl rfl ?_
            refine w_ic (k := 86) (x := nI 15) rfl (oi_nI 15) ?_
            refine w_subN (k := 87) rfl (by omega) ?_
            refine w_iald (k := 88) rfl rfl (by first | assumption | rfl) (by omega) (vx (f := I4 104) e1 (m4 (j + 1) (by omega))) ?_
            refine wp_istore (k := 89) (ls2 := [some _, some _, some _, some _, _]) rfl rfl ?_
            refine wp_aload (k := 90) rfl rfl ?_
            refine w_gr (k := 91) (s := 4) rfl rfl (by first | assumption | rfl) (by first | assumption | rfl) ?_
            refine wp_iload (k := 92) rfl rfl ?_
            refine w_ic (k := 93) (x := nI 2) rfl (oi_nI 2) ?_
            refine w_subN (k := 94) rfl (by omega) ?_
            refine w_iald (k := 95) rfl rfl (by first | assumption | rfl) (by omega) (vx (f := I4 104) e2 (m4 (j + 14) (by omega))) ?_
            refine wp_istore (k := 96) (ls2 := [some _, some _, some _, some _, some _]) rfl rfl ?_
            refine wp_aload (k := 97) rfl rfl ?_
            refine w_gr (k := 98) (s := 4) rfl rfl (by first | assumption | rfl) (by first | assumption | rfl) ?_
            refine wp_iload (k := 99) rfl rfl ?_
            refine wp_aload (k := 100) rfl rfl ?_
            refine w_gr (k := 101) (s := 4) rfl rfl (by first | assumption | rfl) (by first | assumption | rfl) ?_
            refine wp_iload (k := 102) rfl rfl ?_
            refine w_ic (k := 103) (x := nI 16) rfl (oi_nI 16) ?_
            refine w_subN (k := 104) rfl (by omega) ?_
            refine w_iald (k := 105) rfl rfl (by first | assumption | rfl) (by omega) (vx (f := I4 104) e3 (m4 j (by omega))) ?_
            refine wp_iload (k := 106) rfl rfl ?_
            refine w_ic (k := 107) (x := nI 7) rfl (oi_nI 7) ?_
            refine w_Si (k := 108) [_, _] rfl rfl rfl (Nat.le_of_ble_eq_true rfl) (Or.inl ⟨rfl, rfl⟩) ?_
            refine (c_171 (by decide) ?_)
            refine ⟨_, rfl, ?_⟩
            refine wp_iload (k := 109) rfl rfl ?_
            refine w_ic (k := 110) (x := nI 18) rfl (oi_nI 18) ?_
            refine w_Si (k := 111) [_, _] rfl rfl rfl (Nat.le_of_ble_eq_true rfl) (Or.inl ⟨rfl, rfl⟩) ?_
            refine (c_171 (by decide) ?_)
            refine ⟨_, rfl, ?_⟩
            refine wp_ixor (k := 112) rfl ?_
            refine wp_iload (k := 113) rfl rfl ?_
            refine w_ic (k := 114) (x := nI 3) rfl (oi_nI 3) ?_
            refine wp_iushr (k := 115) rfl ?_
            refine wp_ixor (k := 116) rfl ?_
            refine wp_iadd (k := 117) rfl ?_
            refine wp_aload (k := 118) rfl rfl ?_
            refine w_gr (k := 119) (s := 4) rfl rfl (by first | assumption | rfl) (by first | assumption | rfl) ?_
            refine wp_iload (k := 120) rfl rfl ?_
            refine w_ic (k := 121) (x := nI 7) rfl (oi_nI 7) ?_
            refine w_subN (k := 122) rfl (by omega) ?_
            refine w_iald (k := 123) rfl rfl (by first | assumption | rfl) (by omega) (vx (f := I4 104) e4 (m4 (j + 9) (by omega))) ?_
            refine wp_iadd (k := 124) rfl ?_
            refine wp_iload (k := 125) rfl rfl ?_
            refine w_ic (k := 126) (x := nI 17) rfl (oi_nI 17) ?_
            refine w_Si (k := 127) [_, _] rfl rfl rfl (Nat.le_of_ble_eq_true rfl) (Or.inl ⟨rfl, rfl⟩) ?_
            refine (c_171 (by decide) ?_)
            refine ⟨_, rfl, ?_⟩
            refine wp_iload (k := 128) rfl rfl ?_
            refine w_ic (k := 129) (x := nI 19) rfl (oi_nI 19) ?_
            refine w_Si (k := 130) [_, _] rfl rfl rfl (Nat.le_of_ble_eq_true rfl) (Or.inl ⟨rfl, rfl⟩) ?_
            refine (c_171 (by decide) ?_)
            refine ⟨_, rfl, ?_⟩
            refine wp_ixor (k := 131) rfl ?_
            refine wp_iload (k := 132) rfl rfl ?_
            refine w_ic (k := 133) (x := nI 10) rfl (oi_nI 10) ?_
            refine wp_iushr (k := 134) rfl ?_
            refine wp_ixor (k := 135) rfl ?_
            refine wp_iadd (k := 136) rfl ?_
            refine w_iast (k := 137) rfl rfl (by omega) (by first | assumption | rfl) (by omega) ?_
            refine w_incN (k := 138) (m := 1) rfl (oi_nI 1) rfl ?_
            refine w_ls (ls2 := [some _, some _, some _, some _, some _]) rfl ?_
            refine w_goto (k := 139) (t' := 80) rfl rfl ?_
            refine ih (j + 1) _ _ _ (by omega) (fun t ht => ?_) (fx_t f4 (fx_p (by decide) (by decide))) (by rw [am_uR (by decide)]; exact z4)
            rw [am_u_app, wx_s]
            by_cases e : t = 16 + j
            · rw [if_pos ⟨rfl, e⟩, if_pos e]
              rfl
            · rw [if_neg (fun q => e q.2), if_neg e]
              exact m4 t (by omega)
        refine wp_iload (k := 30) rfl rfl ?_
        refine w_ic (k := 31) (x := nI 16) rfl (oi_nI 16) ?_
        refine w_n_ge (k := 32) (t' := 78) rfl rfl (by omega) (fun q => ?_) (fun q => absurd q (by omega))
        refine w_ic (k := 78) (x := nI 16) rfl (oi_nI 16) ?_
        refine wp_istore (k := 79) rfl rfl ?_
        exact ext 48 0 I3 _ _ (by omega) m3 f3 z3
      | succ r ih =>
        intro i I3 o3 o4 hi m3 f3 z3
        have bb : ∀ j, j < 64 → I3 105 j = nI ((P ++ [uI b % 256]).getD (64 * (P.length / 64) + j) 0) := fun j hj => by rw [f3.1 105 (by decide) (by decide)]; exact b2 j (by omega)
        have c0 := gd_lt hP' (64 * (P.length / 64) + 4 * i)
        have c1 := gd_lt hP' (64 * (P.length / 64) + (4 * i + 1))
        have c2 := gd_lt hP' (64 * (P.length / 64) + (4 * i + 2))
        have c3 := gd_lt hP' (64 * (P.length / 64) + (4 * i + 3))
        refine wp_iload (k := 30) rfl rfl ?_
        refine w_ic (k := 31) (x := nI 16) rfl (oi_nI 16) ?_
        refine w_n_ge (k := 32) (t' := 78) rfl rfl (by omega) (fun q => absurd q (by omega)) (fun q => ?_)
        refine wp_aload (k := 33) rfl rfl ?_
        refine w_gr (k := 34) (s := 4) rfl rfl (by first | assumption | rfl) (by first | assumption | rfl) ?_
        refine wp_iload (k := 35) rfl rfl ?_
        refine wp_aload (k := 36) rfl rfl ?_
        refine w_gr (k := 37) (s := 5) rfl rfl (by first | assumption | rfl) (by first | assumption | rfl) ?_
        refine w_ic (k := 38) (x := nI 4) rfl (oi_nI 4) ?_
        refine wp_iload (k := 39) rfl rfl ?_
        refine w_mulN (k := 40) rfl ?_
        refine w_iald (k := 41) rfl rfl (by first | assumption | rfl) (by omega) (bb (4 * i) (by omega)) ?_
        refine w_ic (k := 42) (x := nI 24) rfl (oi_nI 24) ?_
        refine wp_ishl (k := 43) rfl ?_
        refine wp_aload (k := 44) rfl rfl ?_
        refine w_gr (k := 45) (s := 5) rfl rfl (by first | assumption | rfl) (by first | assumption | rfl) ?_
        refine w_ic (k := 46) (x := nI 4) rfl (oi_nI 4) ?_
        refine wp_iload (k := 47) rfl rfl ?_
        refine w_mulN (k := 48) rfl ?_
        refine w_ic (k := 49) (x := nI 1) rfl (oi_nI 1) ?_
        refine w_addN (k := 50) rfl ?_
        refine w_iald (k := 51) rfl rfl (by first | assumption | rfl) (by omega) (bb (4 * i + 1) (by omega)) ?_
        refine w_ic (k := 52) (x := nI 16) rfl (oi_nI 16) ?_
        refine wp_ishl (k := 53) rfl ?_
        refine wp_ior (k := 54) rfl ?_
        refine wp_aload (k := 55) rfl rfl ?_
        refine w_gr (k := 56) (s := 5) rfl rfl (by first | assumption | rfl) (by first | assumption | rfl) ?_
        refine w_ic (k := 57) (x := nI 4) rfl (oi_nI 4) ?_
        refine wp_iload (k := 58) rfl rfl ?_
        refine w_mulN (k := 59) rfl ?_
        refine w_ic (k := 60) (x := nI 2) rfl (oi_nI 2) ?_
        refine w_addN (k := 61) rfl ?_
        refine w_iald (k := 62) rfl rfl (by first | assumption | rfl) (by omega) (bb (4 * i + 2) (by omega)) ?_
        refine w_ic (k := 63) (x := nI 8) rfl (oi_nI 8) ?_
        refine wp_ishl (k := 64) rfl ?_
        refine wp_ior (k := 65) rfl ?_
        refine wp_aload (k := 66) rfl rfl ?_
        refine w_gr (k := 67) (s := 5) rfl rfl (by first | assumption | rfl) (by first | assumption | rfl) ?_
        refine w_ic (k := 68) (x := nI 4) rfl (oi_nI 4) ?_
        refine wp_iload (k := 69) rfl rfl ?_
        refine w_mulN (k := 70) rfl ?_
        refine w_ic (k := 71) (x := nI 3) rfl (oi_nI 3) ?_
        refine w_addN (k := 72) rfl ?_
        refine w_iald (k := 73) rfl rfl (by first | assumption | rfl) (by omega) (bb (4 * i + 3) (by omega)) ?_
        refine wp_ior (k := 74) rfl ?_
        have e : nI ((P ++ [uI b % 256]).getD (64 * (P.length / 64) + 4 * i) 0) <<< (nI 24 &&& 31) ||| nI ((P ++ [uI b % 256]).getD (64 * (P.length / 64) + (4 * i + 1)) 0) <<< (nI 16 &&& 31) ||| nI ((P ++ [uI b % 256]).getD (64 * (P.length / 64) + (4 * i + 2)) 0) <<< (nI 8 &&& 31) ||| nI ((P ++ [uI b % 256]).getD (64 * (P.length / 64) + (4 * i + 3)) 0) = mw (P ++ [uI b % 256]) (P.length / 64) i := by
          unfold mw
          simp only [nb, Nat.add_zero, Nat.zero_mul, Nat.zero_add, Nat.add_assoc]
          generalize (P ++ [uI b % 256]).getD (64 * (P.length / 64) + 4 * i) 0 = x0 at *
          generalize (P ++ [uI b % 256]).getD (64 * (P.length / 64) + (4 * i + 1)) 0 = x1 at *
          generalize (P ++ [uI b % 256]).getD (64 * (P.length / 64) + (4 * i + 2)) 0 = x2 at *
          generalize (P ++ [uI b % 256]).getD (64 * (P.length / 64) + (4 * i + 3)) 0 = x3 at *
          rw [i_shl (by decide) (by omega), i_shl (by decide) (by omega), i_shl (by decide) (by omega), i_or (by omega), show x0 * 2 ^ 24 + x1 * 2 ^ 16 = (x0 * 256 + x1) * 2 ^ 16 by omega, i_or (by omega), show (x0 * 256 + x1) * 2 ^ 16 + x2 * 2 ^ 8 = ((x0 * 256 + x1) * 256 + x2) * 2 ^ 8 by omega, i_or (by omega)]
        rw [e]
        refine w_iast (k := 75) rfl rfl (by omega) (by first | assumption | rfl) (by omega) ?_
        refine w_incN (k := 76) (m := 1) rfl (oi_nI 1) rfl ?_
        refine w_goto (k := 77) (t' := 30) rfl rfl ?_
        refine ih (i + 1) _ _ _ (by omega) (fun t ht => ?_) (fx_t f3 (fx_p (by decide) (by decide))) (by rw [am_uR (by decide)]; exact z3)
        rw [am_u_app]
        by_cases e : t = i
        · rw [if_pos ⟨rfl, e⟩, e]
        · rw [if_neg (fun q => e q.2)]
          exact m3 t (by omega)
    refine wp_aload (k := 25) rfl rfl ?_
    refine w_ic (k := 26) (x := nI 0) rfl (oi_nI 0) ?_
    refine w_pi (k := 27) (s := 6) rfl rfl (by first | assumption | rfl) ?_
    refine w_ic (k := 28) (x := nI 0) rfl (oi_nI 0) ?_
    refine wp_istore (k := 29) rfl rfl ?_
    exact wds 16 0 _ _ _ (by omega) (fun t ht => absurd ht (Nat.not_lt_zero t)) (fx_s (by decide)) am_us
  · have hdiv : (P.length + 1) / 64 = P.length / 64 := by omega
    have hmod : (P.length + 1) % 64 = P.length % 64 + 1 := by omega
    refine w_rv (k := 24) rfl rfl rfl rfl ?_
    refine hq I2 L2 ⟨?_, ?_, fun i hi => ?_, fun i hi => ?_, hP', mk2⟩ f2 g2
    · rw [hlen, hmod, ← hI2, am_us]
    · rw [hlen]; exact v2
    · rw [s2 i hi, hlen, hdiv]
      exact (hh_app _ (by omega) i hi).symm
    · rw [hlen, hmod] at hi
      rw [hlen, hdiv]
      exact b2 i hi
end MH
