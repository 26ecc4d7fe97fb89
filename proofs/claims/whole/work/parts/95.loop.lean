/-! ===== the law's cases ===== -/
def lZ : am_Q := fun r _ => r = some (.int 1)
def lW (N pc i : Nat) (h : am_H) : Prop := am_WP am_rc am_na am_mc am_ms (4 + 600000) (am_sl (sT N 4) + 7302249) am_c271 (am_call 12) lZ pc [some (.ref 3), some (.ref 4), some (.ref 100), some (.int (nI i))] [] h
def INV (I : Nat → Nat → Int32) (L : Nat → Nat → Int64) (A : List Nat) (U : UR) (rl : List Nat) (fr : Int64) (n : Int32) (F : FR) (al : Nat → Option AL) (t : Int64) (s : SN) (T : Nat → Int32) : Prop := INVc I L A U rl fr n F al t s T ∧ INVm I L A U rl fr n F al t s T ∧ OKs U rl F al s
def NXT (N i : Nat) (xs : Nat → Int32) : Prop := ∀ I' L' w' A' U' rl' fr' n' F' al' t' s' T', I' 3 = xs → INV I' L' A' U' rl' fr' n' F' al' t' s' T' → lW N 920 i (am_SH N, I', L', am_RR w')
section LC
variable {N : Nat} {I : Nat → Nat → Int32} {L : Nat → Nat → Int64} {w : Option Nat} {xs : Nat → Int32} {i : Nat} {A : List Nat} {U : UR} {rl : List Nat} {fr : Int64} {n : Int32} {F : FR} {al : Nat → Option AL} {t : Int64} {s : SN} {T : Nat → Int32}
set_option maxRecDepth 8192 in
theorem lc_0 (h3 : I 3 = xs) (hi : i + 6 ≤ N) (hN : N ≤ 3072) (h : INV I L A U rl fr n F al t s T) (nx : NXT N i xs) : lW N 22 i (am_SH N, I, L, am_RR w) := by
  obtain ⟨hc, hm, ok⟩ := h
  have e1 : ∀ k, I 3 (i + k) = xs (i + k) := fun k => by rw [h3]
  unfold lW
  refine wp_aload (k := 22) rfl rfl ?_
  refine wp_aload (k := 23) rfl rfl ?_
  refine wp_iload (k := 24) rfl rfl ?_
  refine w_ic (k := 25) (x := nI 1) rfl (oi_nI 1) ?_
  refine w_addN (k := 26) rfl ?_
  refine w_iald (k := 27) rfl rfl (by first | assumption | rfl) (by omega) (e1 1) ?_
  refine wp_aload (k := 28) rfl rfl ?_
  refine wp_iload (k := 29) rfl rfl ?_
  refine w_ic (k := 30) (x := nI 2) rfl (oi_nI 2) ?_
  refine w_addN (k := 31) rfl ?_
  refine w_iald (k := 32) rfl rfl (by first | assumption | rfl) (by omega) (e1 2) ?_
  refine wp_aload (k := 33) rfl rfl ?_
  refine wp_iload (k := 34) rfl rfl ?_
  refine w_ic (k := 35) (x := nI 3) rfl (oi_nI 3) ?_
  refine w_addN (k := 36) rfl ?_
  refine w_iald (k := 37) rfl rfl (by first | assumption | rfl) (by omega) (e1 3) ?_
  refine wp_aload (k := 38) rfl rfl ?_
  refine wp_iload (k := 39) rfl rfl ?_
  refine w_ic (k := 40) (x := nI 4) rfl (oi_nI 4) ?_
  refine w_addN (k := 41) rfl ?_
  refine w_iald (k := 42) rfl rfl (by first | assumption | rfl) (by omega) (e1 4) ?_
  refine wp_aload (k := 43) rfl rfl ?_
  refine wp_iload (k := 44) rfl rfl ?_
  refine w_ic (k := 45) (x := nI 5) rfl (oi_nI 5) ?_
  refine w_addN (k := 46) rfl ?_
  refine w_iald (k := 47) rfl rfl (by first | assumption | rfl) (by omega) (e1 5) ?_
  refine w_Vi (k := 48) [_, _, _, _, _] rfl rfl rfl (Nat.le_of_ble_eq_true rfl) (by first | assumption | rfl) (Or.inl ⟨rfl, rfl⟩) ?_
  refine (cs_0 hc ok (fun I1 L1 w1 c1 f1 g1 => ⟨_, rfl, ?_⟩))
  have m1 := invm_k hm (fun x hx => f1 x (by omega)) (fun x hx => g1 x (by omega))
  have e2 : ∀ k, I1 3 (i + k) = xs (i + k) := fun k => by rw [f1 3 (by decide), h3]
  refine wp_aload (k := 49) rfl rfl ?_
  refine wp_aload (k := 50) rfl rfl ?_
  refine wp_iload (k := 51) rfl rfl ?_
  refine w_ic (k := 52) (x := nI 1) rfl (oi_nI 1) ?_
  refine w_addN (k := 53) rfl ?_
  refine w_iald (k := 54) rfl rfl (by first | assumption | rfl) (by omega) (e2 1) ?_
  refine wp_aload (k := 55) rfl rfl ?_
  refine wp_iload (k := 56) rfl rfl ?_
  refine w_ic (k := 57) (x := nI 2) rfl (oi_nI 2) ?_
  refine w_addN (k := 58) rfl ?_
  refine w_iald (k := 59) rfl rfl (by first | assumption | rfl) (by omega) (e2 2) ?_
  refine wp_aload (k := 60) rfl rfl ?_
  refine wp_iload (k := 61) rfl rfl ?_
  refine w_ic (k := 62) (x := nI 3) rfl (oi_nI 3) ?_
  refine w_addN (k := 63) rfl ?_
  refine w_iald (k := 64) rfl rfl (by first | assumption | rfl) (by omega) (e2 3) ?_
  refine wp_aload (k := 65) rfl rfl ?_
  refine wp_iload (k := 66) rfl rfl ?_
  refine w_ic (k := 67) (x := nI 4) rfl (oi_nI 4) ?_
  refine w_addN (k := 68) rfl ?_
  refine w_iald (k := 69) rfl rfl (by first | assumption | rfl) (by omega) (e2 4) ?_
  refine wp_aload (k := 70) rfl rfl ?_
  refine wp_iload (k := 71) rfl rfl ?_
  refine w_ic (k := 72) (x := nI 5) rfl (oi_nI 5) ?_
  refine w_addN (k := 73) rfl ?_
  refine w_iald (k := 74) rfl rfl (by first | assumption | rfl) (by omega) (e2 5) ?_
  refine w_Vi (k := 75) [_, _, _, _, _] rfl rfl rfl (Nat.le_of_ble_eq_true rfl) (by first | assumption | rfl) (Or.inl ⟨rfl, rfl⟩) ?_
  refine (ms_0 m1 ok (fun I2 L2 m2 f2 g2 => ⟨_, rfl, ?_⟩))
  refine w_c_eq (k := 76) (t' := 920) rfl rfl (fun zq => ?_) (fun zq => absurd rfl zq)
  refine nx I2 L2 w1 _ _ _ _ _ _ _ _ _ _ (by rw [f2 3 (by decide), f1 3 (by decide), h3]) ⟨invc_k c1 f2 g2, m2, ok⟩
set_option maxRecDepth 8192 in
theorem lc_1 (h3 : I 3 = xs) (hi : i + 6 ≤ N) (hN : N ≤ 3072) (h : INV I L A U rl fr n F al t s T) (nx : NXT N i xs) : lW N 79 i (am_SH N, I, L, am_RR w) := by
  obtain ⟨hc, hm, ok⟩ := h
  have e1 : ∀ k, I 3 (i + k) = xs (i + k) := fun k => by rw [h3]
  unfold lW
  refine wp_aload (k := 79) rfl rfl ?_
  refine wp_aload (k := 80) rfl rfl ?_
  refine wp_iload (k := 81) rfl rfl ?_
  refine w_ic (k := 82) (x := nI 1) rfl (oi_nI 1) ?_
  refine w_addN (k := 83) rfl ?_
  refine w_iald (k := 84) rfl rfl (by first | assumption | rfl) (by omega) (e1 1) ?_
  refine w_Vi (k := 85) [_] rfl rfl rfl (Nat.le_of_ble_eq_true rfl) (by first | assumption | rfl) (Or.inl ⟨rfl, rfl⟩) ?_
  refine (cs_1 hc ok (fun I1 L1 w1 c1 f1 g1 => ⟨_, rfl, ?_⟩))
  have m1 := invm_k hm (fun x hx => f1 x (by omega)) (fun x hx => g1 x (by omega))
  have e2 : ∀ k, I1 3 (i + k) = xs (i + k) := fun k => by rw [f1 3 (by decide), h3]
  refine wp_aload (k := 86) rfl rfl ?_
  refine wp_aload (k := 87) rfl rfl ?_
  refine wp_iload (k := 88) rfl rfl ?_
  refine w_ic (k := 89) (x := nI 1) rfl (oi_nI 1) ?_
  refine w_addN (k := 90) rfl ?_
  refine w_iald (k := 91) rfl rfl (by first | assumption | rfl) (by omega) (e2 1) ?_
  refine w_Vi (k := 92) [_] rfl rfl rfl (Nat.le_of_ble_eq_true rfl) (by first | assumption | rfl) (Or.inl ⟨rfl, rfl⟩) ?_
  refine (ms_1 m1 ok (fun I2 L2 m2 f2 g2 => ⟨_, rfl, ?_⟩))
  refine w_c_eq (k := 93) (t' := 920) rfl rfl (fun zq => ?_) (fun zq => absurd rfl zq)
  refine nx I2 L2 w1 _ _ _ _ _ _ _ _ _ _ (by rw [f2 3 (by decide), f1 3 (by decide), h3]) ⟨invc_k c1 f2 g2, m2, ok⟩
set_option maxRecDepth 8192 in
theorem lc_2 (h3 : I 3 = xs) (hi : i + 6 ≤ N) (hN : N ≤ 3072) (h : INV I L A U rl fr n F al t s T) (nx : NXT N i xs) : lW N 96 i (am_SH N, I, L, am_RR w) := by
  obtain ⟨hc, hm, ok⟩ := h
  have e1 : ∀ k, I 3 (i + k) = xs (i + k) := fun k => by rw [h3]
  unfold lW
  refine wp_aload (k := 96) rfl rfl ?_
  refine wp_aload (k := 97) rfl rfl ?_
  refine wp_iload (k := 98) rfl rfl ?_
  refine w_ic (k := 99) (x := nI 1) rfl (oi_nI 1) ?_
  refine w_addN (k := 100) rfl ?_
  refine w_iald (k := 101) rfl rfl (by first | assumption | rfl) (by omega) (e1 1) ?_
  refine wp_aload (k := 102) rfl rfl ?_
  refine wp_iload (k := 103) rfl rfl ?_
  refine w_ic (k := 104) (x := nI 2) rfl (oi_nI 2) ?_
  refine w_addN (k := 105) rfl ?_
  refine w_iald (k := 106) rfl rfl (by first | assumption | rfl) (by omega) (e1 2) ?_
  refine wp_aload (k := 107) rfl rfl ?_
  refine wp_iload (k := 108) rfl rfl ?_
  refine w_ic (k := 109) (x := nI 3) rfl (oi_nI 3) ?_
  refine w_addN (k := 110) rfl ?_
  refine w_iald (k := 111) rfl rfl (by first | assumption | rfl) (by omega) (e1 3) ?_
  refine wp_aload (k := 112) rfl rfl ?_
  refine wp_iload (k := 113) rfl rfl ?_
  refine w_ic (k := 114) (x := nI 4) rfl (oi_nI 4) ?_
  refine w_addN (k := 115) rfl ?_
  refine w_iald (k := 116) rfl rfl (by first | assumption | rfl) (by omega) (e1 4) ?_
  refine w_Vi (k := 117) [_, _, _, _] rfl rfl rfl (Nat.le_of_ble_eq_true rfl) (by first | assumption | rfl) (Or.inl ⟨rfl, rfl⟩) ?_
  refine (cs_2 hc ok (fun I1 L1 w1 c1 f1 g1 => ⟨_, rfl, ?_⟩))
  have m1 := invm_k hm (fun x hx => f1 x (by omega)) (fun x hx => g1 x (by omega))
  have e2 : ∀ k, I1 3 (i + k) = xs (i + k) := fun k => by rw [f1 3 (by decide), h3]
  refine wp_aload (k := 118) rfl rfl ?_
  refine wp_aload (k := 119) rfl rfl ?_
  refine wp_iload (k := 120) rfl rfl ?_
  refine w_ic (k := 121) (x := nI 1) rfl (oi_nI 1) ?_
  refine w_addN (k := 122) rfl ?_
  refine w_iald (k := 123) rfl rfl (by first | assumption | rfl) (by omega) (e2 1) ?_
  refine wp_aload (k := 124) rfl rfl ?_
  refine wp_iload (k := 125) rfl rfl ?_
  refine w_ic (k := 126) (x := nI 2) rfl (oi_nI 2) ?_
  refine w_addN (k := 127) rfl ?_
  refine w_iald (k := 128) rfl rfl (by first | assumption | rfl) (by omega) (e2 2) ?_
  refine wp_aload (k := 129) rfl rfl ?_
  refine wp_iload (k := 130) rfl rfl ?_
  refine w_ic (k := 131) (x := nI 3) rfl (oi_nI 3) ?_
  refine w_addN (k := 132) rfl ?_
  refine w_iald (k := 133) rfl rfl (by first | assumption | rfl) (by omega) (e2 3) ?_
  refine wp_aload (k := 134) rfl rfl ?_
  refine wp_iload (k := 135) rfl rfl ?_
  refine w_ic (k := 136) (x := nI 4) rfl (oi_nI 4) ?_
  refine w_addN (k := 137) rfl ?_
  refine w_iald (k := 138) rfl rfl (by first | assumption | rfl) (by omega) (e2 4) ?_
  refine w_Vi (k := 139) [_, _, _, _] rfl rfl rfl (Nat.le_of_ble_eq_true rfl) (by first | assumption | rfl) (Or.inl ⟨rfl, rfl⟩) ?_
  refine (ms_2 m1 ok (fun I2 L2 m2 f2 g2 => ⟨_, rfl, ?_⟩))
  refine w_c_eq (k := 140) (t' := 920) rfl rfl (fun zq => ?_) (fun zq => absurd rfl zq)
  refine nx I2 L2 w1 _ _ _ _ _ _ _ _ _ _ (by rw [f2 3 (by decide), f1 3 (by decide), h3]) ⟨invc_k c1 f2 g2, m2, ok⟩
set_option maxRecDepth 8192 in
theorem lc_3 (h3 : I 3 = xs) (hi : i + 6 ≤ N) (hN : N ≤ 3072) (h : INV I L A U rl fr n F al t s T) (nx : NXT N i xs) : lW N 143 i (am_SH N, I, L, am_RR w) := by
  obtain ⟨hc, hm, ok⟩ := h
  have e1 : ∀ k, I 3 (i + k) = xs (i + k) := fun k => by rw [h3]
  unfold lW
  refine wp_aload (k := 143) rfl rfl ?_
  refine wp_aload (k := 144) rfl rfl ?_
  refine wp_iload (k := 145) rfl rfl ?_
  refine w_ic (k := 146) (x := nI 1) rfl (oi_nI 1) ?_
  refine w_addN (k := 147) rfl ?_
  refine w_iald (k := 148) rfl rfl (by first | assumption | rfl) (by omega) (e1 1) ?_
  refine wp_aload (k := 149) rfl rfl ?_
  refine wp_iload (k := 150) rfl rfl ?_
  refine w_ic (k := 151) (x := nI 2) rfl (oi_nI 2) ?_
  refine w_addN (k := 152) rfl ?_
  refine w_iald (k := 153) rfl rfl (by first | assumption | rfl) (by omega) (e1 2) ?_
  refine wp_aload (k := 154) rfl rfl ?_
  refine wp_iload (k := 155) rfl rfl ?_
  refine w_ic (k := 156) (x := nI 3) rfl (oi_nI 3) ?_
  refine w_addN (k := 157) rfl ?_
  refine w_iald (k := 158) rfl rfl (by first | assumption | rfl) (by omega) (e1 3) ?_
  refine w_Vi (k := 159) [_, _, _] rfl rfl rfl (Nat.le_of_ble_eq_true rfl) (by first | assumption | rfl) (Or.inl ⟨rfl, rfl⟩) ?_
  refine (cs_3 hc ok (fun I1 L1 w1 c1 f1 g1 => ⟨_, rfl, ?_⟩))
  have m1 := invm_k hm (fun x hx => f1 x (by omega)) (fun x hx => g1 x (by omega))
  have e2 : ∀ k, I1 3 (i + k) = xs (i + k) := fun k => by rw [f1 3 (by decide), h3]
  refine wp_aload (k := 160) rfl rfl ?_
  refine wp_aload (k := 161) rfl rfl ?_
  refine wp_iload (k := 162) rfl rfl ?_
  refine w_ic (k := 163) (x := nI 1) rfl (oi_nI 1) ?_
  refine w_addN (k := 164) rfl ?_
  refine w_iald (k := 165) rfl rfl (by first | assumption | rfl) (by omega) (e2 1) ?_
  refine wp_aload (k := 166) rfl rfl ?_
  refine wp_iload (k := 167) rfl rfl ?_
  refine w_ic (k := 168) (x := nI 2) rfl (oi_nI 2) ?_
  refine w_addN (k := 169) rfl ?_
  refine w_iald (k := 170) rfl rfl (by first | assumption | rfl) (by omega) (e2 2) ?_
  refine wp_aload (k := 171) rfl rfl ?_
  refine wp_iload (k := 172) rfl rfl ?_
  refine w_ic (k := 173) (x := nI 3) rfl (oi_nI 3) ?_
  refine w_addN (k := 174) rfl ?_
  refine w_iald (k := 175) rfl rfl (by first | assumption | rfl) (by omega) (e2 3) ?_
  refine w_Vi (k := 176) [_, _, _] rfl rfl rfl (Nat.le_of_ble_eq_true rfl) (by first | assumption | rfl) (Or.inl ⟨rfl, rfl⟩) ?_
  refine (ms_3 m1 ok (fun I2 L2 m2 f2 g2 => ⟨_, rfl, ?_⟩))
  refine w_c_eq (k := 177) (t' := 920) rfl rfl (fun zq => ?_) (fun zq => absurd rfl zq)
  refine nx I2 L2 w1 _ _ _ _ _ _ _ _ _ _ (by rw [f2 3 (by decide), f1 3 (by decide), h3]) ⟨invc_k c1 f2 g2, m2, ok⟩
set_option maxRecDepth 8192 in
theorem lc_4 (h3 : I 3 = xs) (hi : i + 6 ≤ N) (hN : N ≤ 3072) (h : INV I L A U rl fr n F al t s T) (nx : NXT N i xs) : lW N 180 i (am_SH N, I, L, am_RR w) := by
  obtain ⟨hc, hm, ok⟩ := h
  have e1 : ∀ k, I 3 (i + k) = xs (i + k) := fun k => by rw [h3]
  unfold lW
  refine wp_aload (k := 180) rfl rfl ?_
  refine wp_aload (k := 181) rfl rfl ?_
  refine wp_iload (k := 182) rfl rfl ?_
  refine w_ic (k := 183) (x := nI 1) rfl (oi_nI 1) ?_
  refine w_addN (k := 184) rfl ?_
  refine w_iald (k := 185) rfl rfl (by first | assumption | rfl) (by omega) (e1 1) ?_
  refine wp_aload (k := 186) rfl rfl ?_
  refine wp_iload (k := 187) rfl rfl ?_
  refine w_ic (k := 188) (x := nI 2) rfl (oi_nI 2) ?_
  refine w_addN (k := 189) rfl ?_
  refine w_iald (k := 190) rfl rfl (by first | assumption | rfl) (by omega) (e1 2) ?_
  refine wp_i2l (k := 191) rfl ?_
  refine w_ic (k := 192) (x := nI 32) rfl (oi_nI 32) ?_
  refine wp_lshl (k := 193) rfl ?_
  refine wp_aload (k := 194) rfl rfl ?_
  refine wp_iload (k := 195) rfl rfl ?_
  refine w_ic (k := 196) (x := nI 3) rfl (oi_nI 3) ?_
  refine w_addN (k := 197) rfl ?_
  refine w_iald (k := 198) rfl rfl (by first | assumption | rfl) (by omega) (e1 3) ?_
  refine wp_i2l (k := 199) rfl ?_
  refine w_lc (k := 200) (x := lN 4294967295) rfl (ol_lN 4294967295) ?_
  refine wp_land (k := 201) rfl ?_
  refine wp_lor (k := 202) rfl ?_
  refine wp_aload (k := 203) rfl rfl ?_
  refine wp_iload (k := 204) rfl rfl ?_
  refine w_ic (k := 205) (x := nI 4) rfl (oi_nI 4) ?_
  refine w_addN (k := 206) rfl ?_
  refine w_iald (k := 207) rfl rfl (by first | assumption | rfl) (by omega) (e1 4) ?_
  refine wp_i2l (k := 208) rfl ?_
  refine w_ic (k := 209) (x := nI 32) rfl (oi_nI 32) ?_
  refine wp_lshl (k := 210) rfl ?_
  refine wp_aload (k := 211) rfl rfl ?_
  refine wp_iload (k := 212) rfl rfl ?_
  refine w_ic (k := 213) (x := nI 5) rfl (oi_nI 5) ?_
  refine w_addN (k := 214) rfl ?_
  refine w_iald (k := 215) rfl rfl (by first | assumption | rfl) (by omega) (e1 5) ?_
  refine wp_i2l (k := 216) rfl ?_
  refine w_lc (k := 217) (x := lN 4294967295) rfl (ol_lN 4294967295) ?_
  refine wp_land (k := 218) rfl ?_
  refine wp_lor (k := 219) rfl ?_
  refine w_Vi (k := 220) [_, _, _] rfl rfl rfl (Nat.le_of_ble_eq_true rfl) (by first | assumption | rfl) (Or.inl ⟨rfl, rfl⟩) ?_
  refine (cs_4 hc ok (fun I1 L1 w1 c1 f1 g1 => ⟨_, rfl, ?_⟩))
  have m1 := invm_k hm (fun x hx => f1 x (by omega)) (fun x hx => g1 x (by omega))
  have e2 : ∀ k, I1 3 (i + k) = xs (i + k) := fun k => by rw [f1 3 (by decide), h3]
  refine wp_aload (k := 221) rfl rfl ?_
  refine wp_aload (k := 222) rfl rfl ?_
  refine wp_iload (k := 223) rfl rfl ?_
  refine w_ic (k := 224) (x := nI 1) rfl (oi_nI 1) ?_
  refine w_addN (k := 225) rfl ?_
  refine w_iald (k := 226) rfl rfl (by first | assumption | rfl) (by omega) (e2 1) ?_
  refine wp_aload (k := 227) rfl rfl ?_
  refine wp_iload (k := 228) rfl rfl ?_
  refine w_ic (k := 229) (x := nI 2) rfl (oi_nI 2) ?_
  refine w_addN (k := 230) rfl ?_
  refine w_iald (k := 231) rfl rfl (by first | assumption | rfl) (by omega) (e2 2) ?_
  refine wp_i2l (k := 232) rfl ?_
  refine w_ic (k := 233) (x := nI 32) rfl (oi_nI 32) ?_
  refine wp_lshl (k := 234) rfl ?_
  refine wp_aload (k := 235) rfl rfl ?_
  refine wp_iload (k := 236) rfl rfl ?_
  refine w_ic (k := 237) (x := nI 3) rfl (oi_nI 3) ?_
  refine w_addN (k := 238) rfl ?_
  refine w_iald (k := 239) rfl rfl (by first | assumption | rfl) (by omega) (e2 3) ?_
  refine wp_i2l (k := 240) rfl ?_
  refine w_lc (k := 241) (x := lN 4294967295) rfl (ol_lN 4294967295) ?_
  refine wp_land (k := 242) rfl ?_
  refine wp_lor (k := 243) rfl ?_
  refine wp_aload (k := 244) rfl rfl ?_
  refine wp_iload (k := 245) rfl rfl ?_
  refine w_ic (k := 246) (x := nI 4) rfl (oi_nI 4) ?_
  refine w_addN (k := 247) rfl ?_
  refine w_iald (k := 248) rfl rfl (by first | assumption | rfl) (by omega) (e2 4) ?_
  refine wp_i2l (k := 249) rfl ?_
  refine w_ic (k := 250) (x := nI 32) rfl (oi_nI 32) ?_
  refine wp_lshl (k := 251) rfl ?_
  refine wp_aload (k := 252) rfl rfl ?_
  refine wp_iload (k := 253) rfl rfl ?_
  refine w_ic (k := 254) (x := nI 5) rfl (oi_nI 5) ?_
  refine w_addN (k := 255) rfl ?_
  refine w_iald (k := 256) rfl rfl (by first | assumption | rfl) (by omega) (e2 5) ?_
  refine wp_i2l (k := 257) rfl ?_
  refine w_lc (k := 258) (x := lN 4294967295) rfl (ol_lN 4294967295) ?_
  refine wp_land (k := 259) rfl ?_
  refine wp_lor (k := 260) rfl ?_
  refine w_Vi (k := 261) [_, _, _] rfl rfl rfl (Nat.le_of_ble_eq_true rfl) (by first | assumption | rfl) (Or.inl ⟨rfl, rfl⟩) ?_
  refine (ms_4 m1 ok (fun I2 L2 m2 f2 g2 => ⟨_, rfl, ?_⟩))
  refine w_c_eq (k := 262) (t' := 920) rfl rfl (fun zq => ?_) (fun zq => absurd rfl zq)
  refine nx I2 L2 w1 _ _ _ _ _ _ _ _ _ _ (by rw [f2 3 (by decide), f1 3 (by decide), h3]) ⟨invc_k c1 f2 g2, m2, ok⟩
set_option maxRecDepth 8192 in
theorem lc_5 (h3 : I 3 = xs) (hi : i + 6 ≤ N) (hN : N ≤ 3072) (h : INV I L A U rl fr n F al t s T) (nx : NXT N i xs) : lW N 265 i (am_SH N, I, L, am_RR w) := by
  obtain ⟨hc, hm, ok⟩ := h
  have e1 : ∀ k, I 3 (i + k) = xs (i + k) := fun k => by rw [h3]
  unfold lW
  refine wp_aload (k := 265) rfl rfl ?_
  refine wp_aload (k := 266) rfl rfl ?_
  refine wp_iload (k := 267) rfl rfl ?_
  refine w_ic (k := 268) (x := nI 1) rfl (oi_nI 1) ?_
  refine w_addN (k := 269) rfl ?_
  refine w_iald (k := 270) rfl rfl (by first | assumption | rfl) (by omega) (e1 1) ?_
  refine wp_aload (k := 271) rfl rfl ?_
  refine wp_iload (k := 272) rfl rfl ?_
  refine w_ic (k := 273) (x := nI 2) rfl (oi_nI 2) ?_
  refine w_addN (k := 274) rfl ?_
  refine w_iald (k := 275) rfl rfl (by first | assumption | rfl) (by omega) (e1 2) ?_
  refine wp_i2l (k := 276) rfl ?_
  refine w_ic (k := 277) (x := nI 32) rfl (oi_nI 32) ?_
  refine wp_lshl (k := 278) rfl ?_
  refine wp_aload (k := 279) rfl rfl ?_
  refine wp_iload (k := 280) rfl rfl ?_
  refine w_ic (k := 281) (x := nI 3) rfl (oi_nI 3) ?_
  refine w_addN (k := 282) rfl ?_
  refine w_iald (k := 283) rfl rfl (by first | assumption | rfl) (by omega) (e1 3) ?_
  refine wp_i2l (k := 284) rfl ?_
  refine w_lc (k := 285) (x := lN 4294967295) rfl (ol_lN 4294967295) ?_
  refine wp_land (k := 286) rfl ?_
  refine wp_lor (k := 287) rfl ?_
  refine w_Vi (k := 288) [_, _] rfl rfl rfl (Nat.le_of_ble_eq_true rfl) (by first | assumption | rfl) (Or.inl ⟨rfl, rfl⟩) ?_
  refine (cs_5 hc ok (fun I1 L1 w1 c1 f1 g1 => ⟨_, rfl, ?_⟩))
  have m1 := invm_k hm (fun x hx => f1 x (by omega)) (fun x hx => g1 x (by omega))
  have e2 : ∀ k, I1 3 (i + k) = xs (i + k) := fun k => by rw [f1 3 (by decide), h3]
  refine wp_aload (k := 289) rfl rfl ?_
  refine wp_aload (k := 290) rfl rfl ?_
  refine wp_iload (k := 291) rfl rfl ?_
  refine w_ic (k := 292) (x := nI 1) rfl (oi_nI 1) ?_
  refine w_addN (k := 293) rfl ?_
  refine w_iald (k := 294) rfl rfl (by first | assumption | rfl) (by omega) (e2 1) ?_
  refine wp_aload (k := 295) rfl rfl ?_
  refine wp_iload (k := 296) rfl rfl ?_
  refine w_ic (k := 297) (x := nI 2) rfl (oi_nI 2) ?_
  refine w_addN (k := 298) rfl ?_
  refine w_iald (k := 299) rfl rfl (by first | assumption | rfl) (by omega) (e2 2) ?_
  refine wp_i2l (k := 300) rfl ?_
  refine w_ic (k := 301) (x := nI 32) rfl (oi_nI 32) ?_
  refine wp_lshl (k := 302) rfl ?_
  refine wp_aload (k := 303) rfl rfl ?_
  refine wp_iload (k := 304) rfl rfl ?_
  refine w_ic (k := 305) (x := nI 3) rfl (oi_nI 3) ?_
  refine w_addN (k := 306) rfl ?_
  refine w_iald (k := 307) rfl rfl (by first | assumption | rfl) (by omega) (e2 3) ?_
  refine wp_i2l (k := 308) rfl ?_
  refine w_lc (k := 309) (x := lN 4294967295) rfl (ol_lN 4294967295) ?_
  refine wp_land (k := 310) rfl ?_
  refine wp_lor (k := 311) rfl ?_
  refine w_Vi (k := 312) [_, _] rfl rfl rfl (Nat.le_of_ble_eq_true rfl) (by first | assumption | rfl) (Or.inl ⟨rfl, rfl⟩) ?_
  refine (ms_5 m1 ok (fun I2 L2 m2 f2 g2 => ⟨_, rfl, ?_⟩))
  refine w_c_eq (k := 313) (t' := 920) rfl rfl (fun zq => ?_) (fun zq => absurd rfl zq)
  refine nx I2 L2 w1 _ _ _ _ _ _ _ _ _ _ (by rw [f2 3 (by decide), f1 3 (by decide), h3]) ⟨invc_k c1 f2 g2, m2, ok⟩
set_option maxRecDepth 8192 in
theorem lc_6 (h3 : I 3 = xs) (hi : i + 6 ≤ N) (hN : N ≤ 3072) (h : INV I L A U rl fr n F al t s T) (nx : NXT N i xs) : lW N 316 i (am_SH N, I, L, am_RR w) := by
  obtain ⟨hc, hm, ok⟩ := h
  have e1 : ∀ k, I 3 (i + k) = xs (i + k) := fun k => by rw [h3]
  unfold lW
  refine wp_aload (k := 316) rfl rfl ?_
  refine wp_aload (k := 317) rfl rfl ?_
  refine wp_iload (k := 318) rfl rfl ?_
  refine w_ic (k := 319) (x := nI 1) rfl (oi_nI 1) ?_
  refine w_addN (k := 320) rfl ?_
  refine w_iald (k := 321) rfl rfl (by first | assumption | rfl) (by omega) (e1 1) ?_
  refine wp_aload (k := 322) rfl rfl ?_
  refine wp_iload (k := 323) rfl rfl ?_
  refine w_ic (k := 324) (x := nI 2) rfl (oi_nI 2) ?_
  refine w_addN (k := 325) rfl ?_
  refine w_iald (k := 326) rfl rfl (by first | assumption | rfl) (by omega) (e1 2) ?_
  refine wp_aload (k := 327) rfl rfl ?_
  refine wp_iload (k := 328) rfl rfl ?_
  refine w_ic (k := 329) (x := nI 3) rfl (oi_nI 3) ?_
  refine w_addN (k := 330) rfl ?_
  refine w_iald (k := 331) rfl rfl (by first | assumption | rfl) (by omega) (e1 3) ?_
  refine w_Vi (k := 332) [_, _, _] rfl rfl rfl (Nat.le_of_ble_eq_true rfl) (by first | assumption | rfl) (Or.inl ⟨rfl, rfl⟩) ?_
  refine (cs_6 hc ok (fun I1 L1 w1 c1 f1 g1 => ⟨_, rfl, ?_⟩))
  have m1 := invm_k hm (fun x hx => f1 x (by omega)) (fun x hx => g1 x (by omega))
  have e2 : ∀ k, I1 3 (i + k) = xs (i + k) := fun k => by rw [f1 3 (by decide), h3]
  refine wp_aload (k := 333) rfl rfl ?_
  refine wp_aload (k := 334) rfl rfl ?_
  refine wp_iload (k := 335) rfl rfl ?_
  refine w_ic (k := 336) (x := nI 1) rfl (oi_nI 1) ?_
  refine w_addN (k := 337) rfl ?_
  refine w_iald (k := 338) rfl rfl (by first | assumption | rfl) (by omega) (e2 1) ?_
  refine wp_aload (k := 339) rfl rfl ?_
  refine wp_iload (k := 340) rfl rfl ?_
  refine w_ic (k := 341) (x := nI 2) rfl (oi_nI 2) ?_
  refine w_addN (k := 342) rfl ?_
  refine w_iald (k := 343) rfl rfl (by first | assumption | rfl) (by omega) (e2 2) ?_
  refine wp_aload (k := 344) rfl rfl ?_
  refine wp_iload (k := 345) rfl rfl ?_
  refine w_ic (k := 346) (x := nI 3) rfl (oi_nI 3) ?_
  refine w_addN (k := 347) rfl ?_
  refine w_iald (k := 348) rfl rfl (by first | assumption | rfl) (by omega) (e2 3) ?_
  refine w_Vi (k := 349) [_, _, _] rfl rfl rfl (Nat.le_of_ble_eq_true rfl) (by first | assumption | rfl) (Or.inl ⟨rfl, rfl⟩) ?_
  refine (ms_6 m1 ok (fun I2 L2 m2 f2 g2 => ⟨_, rfl, ?_⟩))
  refine w_c_eq (k := 350) (t' := 920) rfl rfl (fun zq => ?_) (fun zq => absurd rfl zq)
  refine nx I2 L2 w1 _ _ _ _ _ _ _ _ _ _ (by rw [f2 3 (by decide), f1 3 (by decide), h3]) ⟨invc_k c1 f2 g2, m2, ok⟩
set_option maxRecDepth 8192 in
theorem lc_7 (h3 : I 3 = xs) (hi : i + 6 ≤ N) (hN : N ≤ 3072) (h : INV I L A U rl fr n F al t s T) (nx : NXT N i xs) : lW N 353 i (am_SH N, I, L, am_RR w) := by
  obtain ⟨hc, hm, ok⟩ := h
  have e1 : ∀ k, I 3 (i + k) = xs (i + k) := fun k => by rw [h3]
  unfold lW
  refine wp_aload (k := 353) rfl rfl ?_
  refine wp_aload (k := 354) rfl rfl ?_
  refine wp_iload (k := 355) rfl rfl ?_
  refine w_ic (k := 356) (x := nI 1) rfl (oi_nI 1) ?_
  refine w_addN (k := 357) rfl ?_
  refine w_iald (k := 358) rfl rfl (by first | assumption | rfl) (by omega) (e1 1) ?_
  refine wp_i2l (k := 359) rfl ?_
  refine w_ic (k := 360) (x := nI 32) rfl (oi_nI 32) ?_
  refine wp_lshl (k := 361) rfl ?_
  refine wp_aload (k := 362) rfl rfl ?_
  refine wp_iload (k := 363) rfl rfl ?_
  refine w_ic (k := 364) (x := nI 2) rfl (oi_nI 2) ?_
  refine w_addN (k := 365) rfl ?_
  refine w_iald (k := 366) rfl rfl (by first | assumption | rfl) (by omega) (e1 2) ?_
  refine wp_i2l (k := 367) rfl ?_
  refine w_lc (k := 368) (x := lN 4294967295) rfl (ol_lN 4294967295) ?_
  refine wp_land (k := 369) rfl ?_
  refine wp_lor (k := 370) rfl ?_
  refine wp_aload (k := 371) rfl rfl ?_
  refine wp_iload (k := 372) rfl rfl ?_
  refine w_ic (k := 373) (x := nI 3) rfl (oi_nI 3) ?_
  refine w_addN (k := 374) rfl ?_
  refine w_iald (k := 375) rfl rfl (by first | assumption | rfl) (by omega) (e1 3) ?_
  refine wp_i2l (k := 376) rfl ?_
  refine w_ic (k := 377) (x := nI 32) rfl (oi_nI 32) ?_
  refine wp_lshl (k := 378) rfl ?_
  refine wp_aload (k := 379) rfl rfl ?_
  refine wp_iload (k := 380) rfl rfl ?_
  refine w_ic (k := 381) (x := nI 4) rfl (oi_nI 4) ?_
  refine w_addN (k := 382) rfl ?_
  refine w_iald (k := 383) rfl rfl (by first | assumption | rfl) (by omega) (e1 4) ?_
  refine wp_i2l (k := 384) rfl ?_
  refine w_lc (k := 385) (x := lN 4294967295) rfl (ol_lN 4294967295) ?_
  refine wp_land (k := 386) rfl ?_
  refine wp_lor (k := 387) rfl ?_
  refine w_Vi (k := 388) [_, _] rfl rfl rfl (Nat.le_of_ble_eq_true rfl) (by first | assumption | rfl) (Or.inl ⟨rfl, rfl⟩) ?_
  refine (cs_7 hc ok (fun I1 L1 w1 c1 f1 g1 => ⟨_, rfl, ?_⟩))
  have m1 := invm_k hm (fun x hx => f1 x (by omega)) (fun x hx => g1 x (by omega))
  have e2 : ∀ k, I1 3 (i + k) = xs (i + k) := fun k => by rw [f1 3 (by decide), h3]
  refine wp_aload (k := 389) rfl rfl ?_
  refine wp_aload (k := 390) rfl rfl ?_
  refine wp_iload (k := 391) rfl rfl ?_
  refine w_ic (k := 392) (x := nI 1) rfl (oi_nI 1) ?_
  refine w_addN (k := 393) rfl ?_
  refine w_iald (k := 394) rfl rfl (by first | assumption | rfl) (by omega) (e2 1) ?_
  refine wp_i2l (k := 395) rfl ?_
  refine w_ic (k := 396) (x := nI 32) rfl (oi_nI 32) ?_
  refine wp_lshl (k := 397) rfl ?_
  refine wp_aload (k := 398) rfl rfl ?_
  refine wp_iload (k := 399) rfl rfl ?_
  refine w_ic (k := 400) (x := nI 2) rfl (oi_nI 2) ?_
  refine w_addN (k := 401) rfl ?_
  refine w_iald (k := 402) rfl rfl (by first | assumption | rfl) (by omega) (e2 2) ?_
  refine wp_i2l (k := 403) rfl ?_
  refine w_lc (k := 404) (x := lN 4294967295) rfl (ol_lN 4294967295) ?_
  refine wp_land (k := 405) rfl ?_
  refine wp_lor (k := 406) rfl ?_
  refine wp_aload (k := 407) rfl rfl ?_
  refine wp_iload (k := 408) rfl rfl ?_
  refine w_ic (k := 409) (x := nI 3) rfl (oi_nI 3) ?_
  refine w_addN (k := 410) rfl ?_
  refine w_iald (k := 411) rfl rfl (by first | assumption | rfl) (by omega) (e2 3) ?_
  refine wp_i2l (k := 412) rfl ?_
  refine w_ic (k := 413) (x := nI 32) rfl (oi_nI 32) ?_
  refine wp_lshl (k := 414) rfl ?_
  refine wp_aload (k := 415) rfl rfl ?_
  refine wp_iload (k := 416) rfl rfl ?_
  refine w_ic (k := 417) (x := nI 4) rfl (oi_nI 4) ?_
  refine w_addN (k := 418) rfl ?_
  refine w_iald (k := 419) rfl rfl (by first | assumption | rfl) (by omega) (e2 4) ?_
  refine wp_i2l (k := 420) rfl ?_
  refine w_lc (k := 421) (x := lN 4294967295) rfl (ol_lN 4294967295) ?_
  refine wp_land (k := 422) rfl ?_
  refine wp_lor (k := 423) rfl ?_
  refine w_Vi (k := 424) [_, _] rfl rfl rfl (Nat.le_of_ble_eq_true rfl) (by first | assumption | rfl) (Or.inl ⟨rfl, rfl⟩) ?_
  refine (ms_7 m1 ok (fun I2 L2 m2 f2 g2 => ⟨_, rfl, ?_⟩))
  refine w_c_eq (k := 425) (t' := 920) rfl rfl (fun zq => ?_) (fun zq => absurd rfl zq)
  refine nx I2 L2 w1 _ _ _ _ _ _ _ _ _ _ (by rw [f2 3 (by decide), f1 3 (by decide), h3]) ⟨invc_k c1 f2 g2, m2, ok⟩
set_option maxRecDepth 8192 in
theorem lc_8 (h3 : I 3 = xs) (hi : i + 6 ≤ N) (hN : N ≤ 3072) (h : INV I L A U rl fr n F al t s T) (nx : NXT N i xs) : lW N 428 i (am_SH N, I, L, am_RR w) := by
  obtain ⟨hc, hm, ok⟩ := h
  have e1 : ∀ k, I 3 (i + k) = xs (i + k) := fun k => by rw [h3]
  unfold lW
  refine wp_aload (k := 428) rfl rfl ?_
  refine w_Vi (k := 429) [] rfl rfl rfl (Nat.le_of_ble_eq_true rfl) (by first | assumption | rfl) (Or.inl ⟨rfl, rfl⟩) ?_
  refine (cs_8 hc ok (fun I1 L1 w1 c1 f1 g1 => ⟨_, rfl, ?_⟩))
  have m1 := invm_k hm (fun x hx => f1 x (by omega)) (fun x hx => g1 x (by omega))
  have e2 : ∀ k, I1 3 (i + k) = xs (i + k) := fun k => by rw [f1 3 (by decide), h3]
  refine wp_aload (k := 430) rfl rfl ?_
  refine w_Vi (k := 431) [] rfl rfl rfl (Nat.le_of_ble_eq_true rfl) (by first | assumption | rfl) (Or.inl ⟨rfl, rfl⟩) ?_
  refine (ms_8 m1 ok (fun I2 L2 m2 f2 g2 => ⟨_, rfl, ?_⟩))
  refine w_c_eq (k := 432) (t' := 920) rfl rfl (fun zq => ?_) (fun zq => absurd rfl zq)
  refine nx I2 L2 w1 _ _ _ _ _ _ _ _ _ _ (by rw [f2 3 (by decide), f1 3 (by decide), h3]) ⟨invc_k c1 f2 g2, m2, ok⟩
set_option maxRecDepth 8192 in
theorem lc_9 (h3 : I 3 = xs) (hi : i + 6 ≤ N) (hN : N ≤ 3072) (h : INV I L A U rl fr n F al t s T) (nx : NXT N i xs) : lW N 435 i (am_SH N, I, L, am_RR w) := by
  obtain ⟨hc, hm, ok⟩ := h
  have e1 : ∀ k, I 3 (i + k) = xs (i + k) := fun k => by rw [h3]
  unfold lW
  refine wp_aload (k := 435) rfl rfl ?_
  refine wp_aload (k := 436) rfl rfl ?_
  refine wp_iload (k := 437) rfl rfl ?_
  refine w_ic (k := 438) (x := nI 1) rfl (oi_nI 1) ?_
  refine w_addN (k := 439) rfl ?_
  refine w_iald (k := 440) rfl rfl (by first | assumption | rfl) (by omega) (e1 1) ?_
  refine w_Vi (k := 441) [_] rfl rfl rfl (Nat.le_of_ble_eq_true rfl) (by first | assumption | rfl) (Or.inl ⟨rfl, rfl⟩) ?_
  refine (cs_9 hc ok (fun I1 L1 w1 c1 f1 g1 => ⟨_, rfl, ?_⟩))
  have m1 := invm_k hm (fun x hx => f1 x (by omega)) (fun x hx => g1 x (by omega))
  have e2 : ∀ k, I1 3 (i + k) = xs (i + k) := fun k => by rw [f1 3 (by decide), h3]
  refine wp_aload (k := 442) rfl rfl ?_
  refine wp_aload (k := 443) rfl rfl ?_
  refine wp_iload (k := 444) rfl rfl ?_
  refine w_ic (k := 445) (x := nI 1) rfl (oi_nI 1) ?_
  refine w_addN (k := 446) rfl ?_
  refine w_iald (k := 447) rfl rfl (by first | assumption | rfl) (by omega) (e2 1) ?_
  refine w_Vi (k := 448) [_] rfl rfl rfl (Nat.le_of_ble_eq_true rfl) (by first | assumption | rfl) (Or.inl ⟨rfl, rfl⟩) ?_
  refine (ms_9 m1 ok (fun I2 L2 m2 f2 g2 => ⟨_, rfl, ?_⟩))
  refine w_c_eq (k := 449) (t' := 920) rfl rfl (fun zq => ?_) (fun zq => absurd rfl zq)
  refine nx I2 L2 w1 _ _ _ _ _ _ _ _ _ _ (by rw [f2 3 (by decide), f1 3 (by decide), h3]) ⟨invc_k c1 f2 g2, m2, ok⟩
set_option maxRecDepth 8192 in
theorem lc_10 (h3 : I 3 = xs) (hi : i + 6 ≤ N) (hN : N ≤ 3072) (h : INV I L A U rl fr n F al t s T) (nx : NXT N i xs) : lW N 452 i (am_SH N, I, L, am_RR w) := by
  obtain ⟨hc, hm, ok⟩ := h
  have e1 : ∀ k, I 3 (i + k) = xs (i + k) := fun k => by rw [h3]
  unfold lW
  refine wp_aload (k := 452) rfl rfl ?_
  refine wp_aload (k := 453) rfl rfl ?_
  refine wp_iload (k := 454) rfl rfl ?_
  refine w_ic (k := 455) (x := nI 1) rfl (oi_nI 1) ?_
  refine w_addN (k := 456) rfl ?_
  refine w_iald (k := 457) rfl rfl (by first | assumption | rfl) (by omega) (e1 1) ?_
  refine wp_aload (k := 458) rfl rfl ?_
  refine wp_iload (k := 459) rfl rfl ?_
  refine w_ic (k := 460) (x := nI 2) rfl (oi_nI 2) ?_
  refine w_addN (k := 461) rfl ?_
  refine w_iald (k := 462) rfl rfl (by first | assumption | rfl) (by omega) (e1 2) ?_
  refine w_Vi (k := 463) [_, _] rfl rfl rfl (Nat.le_of_ble_eq_true rfl) (by first | assumption | rfl) (Or.inl ⟨rfl, rfl⟩) ?_
  refine (cs_10 hc ok (fun I1 L1 w1 c1 f1 g1 => ⟨_, rfl, ?_⟩))
  have m1 := invm_k hm (fun x hx => f1 x (by omega)) (fun x hx => g1 x (by omega))
  have e2 : ∀ k, I1 3 (i + k) = xs (i + k) := fun k => by rw [f1 3 (by decide), h3]
  refine wp_aload (k := 464) rfl rfl ?_
  refine wp_aload (k := 465) rfl rfl ?_
  refine wp_iload (k := 466) rfl rfl ?_
  refine w_ic (k := 467) (x := nI 1) rfl (oi_nI 1) ?_
  refine w_addN (k := 468) rfl ?_
  refine w_iald (k := 469) rfl rfl (by first | assumption | rfl) (by omega) (e2 1) ?_
  refine wp_aload (k := 470) rfl rfl ?_
  refine wp_iload (k := 471) rfl rfl ?_
  refine w_ic (k := 472) (x := nI 2) rfl (oi_nI 2) ?_
  refine w_addN (k := 473) rfl ?_
  refine w_iald (k := 474) rfl rfl (by first | assumption | rfl) (by omega) (e2 2) ?_
  refine w_Vi (k := 475) [_, _] rfl rfl rfl (Nat.le_of_ble_eq_true rfl) (by first | assumption | rfl) (Or.inl ⟨rfl, rfl⟩) ?_
  refine (ms_10 m1 ok (fun I2 L2 m2 f2 g2 => ⟨_, rfl, ?_⟩))
  refine w_c_eq (k := 476) (t' := 920) rfl rfl (fun zq => ?_) (fun zq => absurd rfl zq)
  refine nx I2 L2 w1 _ _ _ _ _ _ _ _ _ _ (by rw [f2 3 (by decide), f1 3 (by decide), h3]) ⟨invc_k c1 f2 g2, m2, ok⟩
set_option maxRecDepth 8192 in
theorem lc_11 (h3 : I 3 = xs) (hi : i + 6 ≤ N) (hN : N ≤ 3072) (h : INV I L A U rl fr n F al t s T) (nx : NXT N i xs) : lW N 479 i (am_SH N, I, L, am_RR w) := by
  obtain ⟨hc, hm, ok⟩ := h
  have e1 : ∀ k, I 3 (i + k) = xs (i + k) := fun k => by rw [h3]
  unfold lW
  refine wp_aload (k := 479) rfl rfl ?_
  refine wp_aload (k := 480) rfl rfl ?_
  refine wp_iload (k := 481) rfl rfl ?_
  refine w_ic (k := 482) (x := nI 1) rfl (oi_nI 1) ?_
  refine w_addN (k := 483) rfl ?_
  refine w_iald (k := 484) rfl rfl (by first | assumption | rfl) (by omega) (e1 1) ?_
  refine wp_i2l (k := 485) rfl ?_
  refine w_ic (k := 486) (x := nI 32) rfl (oi_nI 32) ?_
  refine wp_lshl (k := 487) rfl ?_
  refine wp_aload (k := 488) rfl rfl ?_
  refine wp_iload (k := 489) rfl rfl ?_
  refine w_ic (k := 490) (x := nI 2) rfl (oi_nI 2) ?_
  refine w_addN (k := 491) rfl ?_
  refine w_iald (k := 492) rfl rfl (by first | assumption | rfl) (by omega) (e1 2) ?_
  refine wp_i2l (k := 493) rfl ?_
  refine w_lc (k := 494) (x := lN 4294967295) rfl (ol_lN 4294967295) ?_
  refine wp_land (k := 495) rfl ?_
  refine wp_lor (k := 496) rfl ?_
  refine wp_aload (k := 497) rfl rfl ?_
  refine wp_iload (k := 498) rfl rfl ?_
  refine w_ic (k := 499) (x := nI 3) rfl (oi_nI 3) ?_
  refine w_addN (k := 500) rfl ?_
  refine w_iald (k := 501) rfl rfl (by first | assumption | rfl) (by omega) (e1 3) ?_
  refine wp_i2l (k := 502) rfl ?_
  refine w_ic (k := 503) (x := nI 32) rfl (oi_nI 32) ?_
  refine wp_lshl (k := 504) rfl ?_
  refine wp_aload (k := 505) rfl rfl ?_
  refine wp_iload (k := 506) rfl rfl ?_
  refine w_ic (k := 507) (x := nI 4) rfl (oi_nI 4) ?_
  refine w_addN (k := 508) rfl ?_
  refine w_iald (k := 509) rfl rfl (by first | assumption | rfl) (by omega) (e1 4) ?_
  refine wp_i2l (k := 510) rfl ?_
  refine w_lc (k := 511) (x := lN 4294967295) rfl (ol_lN 4294967295) ?_
  refine wp_land (k := 512) rfl ?_
  refine wp_lor (k := 513) rfl ?_
  refine w_Vi (k := 514) [_, _] rfl rfl rfl (Nat.le_of_ble_eq_true rfl) (by first | assumption | rfl) (Or.inl ⟨rfl, rfl⟩) ?_
  refine (cs_11 hc ok (fun I1 L1 w1 c1 f1 g1 => ⟨_, rfl, ?_⟩))
  have m1 := invm_k hm (fun x hx => f1 x (by omega)) (fun x hx => g1 x (by omega))
  have e2 : ∀ k, I1 3 (i + k) = xs (i + k) := fun k => by rw [f1 3 (by decide), h3]
  refine wp_aload (k := 515) rfl rfl ?_
  refine wp_aload (k := 516) rfl rfl ?_
  refine wp_iload (k := 517) rfl rfl ?_
  refine w_ic (k := 518) (x := nI 1) rfl (oi_nI 1) ?_
  refine w_addN (k := 519) rfl ?_
  refine w_iald (k := 520) rfl rfl (by first | assumption | rfl) (by omega) (e2 1) ?_
  refine wp_i2l (k := 521) rfl ?_
  refine w_ic (k := 522) (x := nI 32) rfl (oi_nI 32) ?_
  refine wp_lshl (k := 523) rfl ?_
  refine wp_aload (k := 524) rfl rfl ?_
  refine wp_iload (k := 525) rfl rfl ?_
  refine w_ic (k := 526) (x := nI 2) rfl (oi_nI 2) ?_
  refine w_addN (k := 527) rfl ?_
  refine w_iald (k := 528) rfl rfl (by first | assumption | rfl) (by omega) (e2 2) ?_
  refine wp_i2l (k := 529) rfl ?_
  refine w_lc (k := 530) (x := lN 4294967295) rfl (ol_lN 4294967295) ?_
  refine wp_land (k := 531) rfl ?_
  refine wp_lor (k := 532) rfl ?_
  refine wp_aload (k := 533) rfl rfl ?_
  refine wp_iload (k := 534) rfl rfl ?_
  refine w_ic (k := 535) (x := nI 3) rfl (oi_nI 3) ?_
  refine w_addN (k := 536) rfl ?_
  refine w_iald (k := 537) rfl rfl (by first | assumption | rfl) (by omega) (e2 3) ?_
  refine wp_i2l (k := 538) rfl ?_
  refine w_ic (k := 539) (x := nI 32) rfl (oi_nI 32) ?_
  refine wp_lshl (k := 540) rfl ?_
  refine wp_aload (k := 541) rfl rfl ?_
  refine wp_iload (k := 542) rfl rfl ?_
  refine w_ic (k := 543) (x := nI 4) rfl (oi_nI 4) ?_
  refine w_addN (k := 544) rfl ?_
  refine w_iald (k := 545) rfl rfl (by first | assumption | rfl) (by omega) (e2 4) ?_
  refine wp_i2l (k := 546) rfl ?_
  refine w_lc (k := 547) (x := lN 4294967295) rfl (ol_lN 4294967295) ?_
  refine wp_land (k := 548) rfl ?_
  refine wp_lor (k := 549) rfl ?_
  refine w_Vi (k := 550) [_, _] rfl rfl rfl (Nat.le_of_ble_eq_true rfl) (by first | assumption | rfl) (Or.inl ⟨rfl, rfl⟩) ?_
  refine (ms_11 m1 ok (fun I2 L2 m2 f2 g2 => ⟨_, rfl, ?_⟩))
  refine w_c_eq (k := 551) (t' := 920) rfl rfl (fun zq => ?_) (fun zq => absurd rfl zq)
  refine nx I2 L2 w1 _ _ _ _ _ _ _ _ _ _ (by rw [f2 3 (by decide), f1 3 (by decide), h3]) ⟨invc_k c1 f2 g2, m2, ⟨ok.1, sp_us_ok ok.2.1, ok.2.2⟩⟩
set_option maxRecDepth 8192 in
theorem lc_12 (h3 : I 3 = xs) (hi : i + 6 ≤ N) (hN : N ≤ 3072) (h : INV I L A U rl fr n F al t s T) (nx : NXT N i xs) : lW N 554 i (am_SH N, I, L, am_RR w) := by
  obtain ⟨hc, hm, ok⟩ := h
  have e1 : ∀ k, I 3 (i + k) = xs (i + k) := fun k => by rw [h3]
  unfold lW
  refine wp_aload (k := 554) rfl rfl ?_
  refine wp_aload (k := 555) rfl rfl ?_
  refine wp_iload (k := 556) rfl rfl ?_
  refine w_ic (k := 557) (x := nI 1) rfl (oi_nI 1) ?_
  refine w_addN (k := 558) rfl ?_
  refine w_iald (k := 559) rfl rfl (by first | assumption | rfl) (by omega) (e1 1) ?_
  refine wp_i2l (k := 560) rfl ?_
  refine w_ic (k := 561) (x := nI 32) rfl (oi_nI 32) ?_
  refine wp_lshl (k := 562) rfl ?_
  refine wp_aload (k := 563) rfl rfl ?_
  refine wp_iload (k := 564) rfl rfl ?_
  refine w_ic (k := 565) (x := nI 2) rfl (oi_nI 2) ?_
  refine w_addN (k := 566) rfl ?_
  refine w_iald (k := 567) rfl rfl (by first | assumption | rfl) (by omega) (e1 2) ?_
  refine wp_i2l (k := 568) rfl ?_
  refine w_lc (k := 569) (x := lN 4294967295) rfl (ol_lN 4294967295) ?_
  refine wp_land (k := 570) rfl ?_
  refine wp_lor (k := 571) rfl ?_
  refine w_Vi (k := 572) [_] rfl rfl rfl (Nat.le_of_ble_eq_true rfl) (by first | assumption | rfl) (Or.inl ⟨rfl, rfl⟩) ?_
  refine (cs_12 hc ok (fun I1 L1 w1 c1 f1 g1 => ⟨_, rfl, ?_⟩))
  have m1 := invm_k hm (fun x hx => f1 x (by omega)) (fun x hx => g1 x (by omega))
  have e2 : ∀ k, I1 3 (i + k) = xs (i + k) := fun k => by rw [f1 3 (by decide), h3]
  refine wp_aload (k := 573) rfl rfl ?_
  refine wp_aload (k := 574) rfl rfl ?_
  refine wp_iload (k := 575) rfl rfl ?_
  refine w_ic (k := 576) (x := nI 1) rfl (oi_nI 1) ?_
  refine w_addN (k := 577) rfl ?_
  refine w_iald (k := 578) rfl rfl (by first | assumption | rfl) (by omega) (e2 1) ?_
  refine wp_i2l (k := 579) rfl ?_
  refine w_ic (k := 580) (x := nI 32) rfl (oi_nI 32) ?_
  refine wp_lshl (k := 581) rfl ?_
  refine wp_aload (k := 582) rfl rfl ?_
  refine wp_iload (k := 583) rfl rfl ?_
  refine w_ic (k := 584) (x := nI 2) rfl (oi_nI 2) ?_
  refine w_addN (k := 585) rfl ?_
  refine w_iald (k := 586) rfl rfl (by first | assumption | rfl) (by omega) (e2 2) ?_
  refine wp_i2l (k := 587) rfl ?_
  refine w_lc (k := 588) (x := lN 4294967295) rfl (ol_lN 4294967295) ?_
  refine wp_land (k := 589) rfl ?_
  refine wp_lor (k := 590) rfl ?_
  refine w_Vi (k := 591) [_] rfl rfl rfl (Nat.le_of_ble_eq_true rfl) (by first | assumption | rfl) (Or.inl ⟨rfl, rfl⟩) ?_
  refine (ms_12 m1 ok (fun I2 L2 m2 f2 g2 => ⟨_, rfl, ?_⟩))
  refine w_c_eq (k := 592) (t' := 920) rfl rfl (fun zq => ?_) (fun zq => absurd rfl zq)
  refine nx I2 L2 w1 _ _ _ _ _ _ _ _ _ _ (by rw [f2 3 (by decide), f1 3 (by decide), h3]) ⟨invc_k c1 f2 g2, m2, ⟨sp_rl_ok ok.1, ok.2⟩⟩
set_option maxRecDepth 8192 in
theorem lc_13 (h3 : I 3 = xs) (hi : i + 6 ≤ N) (hN : N ≤ 3072) (h : INV I L A U rl fr n F al t s T) (nx : NXT N i xs) : lW N 595 i (am_SH N, I, L, am_RR w) := by
  obtain ⟨hc, hm, ok⟩ := h
  have e1 : ∀ k, I 3 (i + k) = xs (i + k) := fun k => by rw [h3]
  unfold lW
  refine wp_aload (k := 595) rfl rfl ?_
  refine wp_aload (k := 596) rfl rfl ?_
  refine wp_iload (k := 597) rfl rfl ?_
  refine w_ic (k := 598) (x := nI 1) rfl (oi_nI 1) ?_
  refine w_addN (k := 599) rfl ?_
  refine w_iald (k := 600) rfl rfl (by first | assumption | rfl) (by omega) (e1 1) ?_
  refine wp_i2l (k := 601) rfl ?_
  refine w_ic (k := 602) (x := nI 32) rfl (oi_nI 32) ?_
  refine wp_lshl (k := 603) rfl ?_
  refine wp_aload (k := 604) rfl rfl ?_
  refine wp_iload (k := 605) rfl rfl ?_
  refine w_ic (k := 606) (x := nI 2) rfl (oi_nI 2) ?_
  refine w_addN (k := 607) rfl ?_
  refine w_iald (k := 608) rfl rfl (by first | assumption | rfl) (by omega) (e1 2) ?_
  refine wp_i2l (k := 609) rfl ?_
  refine w_lc (k := 610) (x := lN 4294967295) rfl (ol_lN 4294967295) ?_
  refine wp_land (k := 611) rfl ?_
  refine wp_lor (k := 612) rfl ?_
  refine w_Vi (k := 613) [_] rfl rfl rfl (Nat.le_of_ble_eq_true rfl) (by first | assumption | rfl) (Or.inl ⟨rfl, rfl⟩) ?_
  refine (cs_13 hc ok (fun I1 L1 w1 c1 f1 g1 => ⟨_, rfl, ?_⟩))
  have m1 := invm_k hm (fun x hx => f1 x (by omega)) (fun x hx => g1 x (by omega))
  have e2 : ∀ k, I1 3 (i + k) = xs (i + k) := fun k => by rw [f1 3 (by decide), h3]
  refine wp_aload (k := 614) rfl rfl ?_
  refine wp_aload (k := 615) rfl rfl ?_
  refine wp_iload (k := 616) rfl rfl ?_
  refine w_ic (k := 617) (x := nI 1) rfl (oi_nI 1) ?_
  refine w_addN (k := 618) rfl ?_
  refine w_iald (k := 619) rfl rfl (by first | assumption | rfl) (by omega) (e2 1) ?_
  refine wp_i2l (k := 620) rfl ?_
  refine w_ic (k := 621) (x := nI 32) rfl (oi_nI 32) ?_
  refine wp_lshl (k := 622) rfl ?_
  refine wp_aload (k := 623) rfl rfl ?_
  refine wp_iload (k := 624) rfl rfl ?_
  refine w_ic (k := 625) (x := nI 2) rfl (oi_nI 2) ?_
  refine w_addN (k := 626) rfl ?_
  refine w_iald (k := 627) rfl rfl (by first | assumption | rfl) (by omega) (e2 2) ?_
  refine wp_i2l (k := 628) rfl ?_
  refine w_lc (k := 629) (x := lN 4294967295) rfl (ol_lN 4294967295) ?_
  refine wp_land (k := 630) rfl ?_
  refine wp_lor (k := 631) rfl ?_
  refine w_Vi (k := 632) [_] rfl rfl rfl (Nat.le_of_ble_eq_true rfl) (by first | assumption | rfl) (Or.inl ⟨rfl, rfl⟩) ?_
  refine (ms_13 m1 ok (fun I2 L2 m2 f2 g2 => ⟨_, rfl, ?_⟩))
  refine w_c_eq (k := 633) (t' := 920) rfl rfl (fun zq => ?_) (fun zq => absurd rfl zq)
  refine nx I2 L2 w1 _ _ _ _ _ _ _ _ _ _ (by rw [f2 3 (by decide), f1 3 (by decide), h3]) ⟨invc_k c1 f2 g2, m2, ok⟩
set_option maxRecDepth 8192 in
theorem lc_14 (h3 : I 3 = xs) (hi : i + 6 ≤ N) (hN : N ≤ 3072) (h : INV I L A U rl fr n F al t s T) (nx : NXT N i xs) : lW N 636 i (am_SH N, I, L, am_RR w) := by
  obtain ⟨hc, hm, ok⟩ := h
  have e1 : ∀ k, I 3 (i + k) = xs (i + k) := fun k => by rw [h3]
  unfold lW
  refine wp_aload (k := 636) rfl rfl ?_
  refine wp_aload (k := 637) rfl rfl ?_
  refine wp_iload (k := 638) rfl rfl ?_
  refine w_ic (k := 639) (x := nI 1) rfl (oi_nI 1) ?_
  refine w_addN (k := 640) rfl ?_
  refine w_iald (k := 641) rfl rfl (by first | assumption | rfl) (by omega) (e1 1) ?_
  refine w_Vi (k := 642) [_] rfl rfl rfl (Nat.le_of_ble_eq_true rfl) (by first | assumption | rfl) (Or.inl ⟨rfl, rfl⟩) ?_
  refine (cs_14 hc ok (fun I1 L1 w1 c1 f1 g1 => ⟨_, rfl, ?_⟩))
  have m1 := invm_k hm (fun x hx => f1 x (by omega)) (fun x hx => g1 x (by omega))
  have e2 : ∀ k, I1 3 (i + k) = xs (i + k) := fun k => by rw [f1 3 (by decide), h3]
  refine wp_aload (k := 643) rfl rfl ?_
  refine wp_aload (k := 644) rfl rfl ?_
  refine wp_iload (k := 645) rfl rfl ?_
  refine w_ic (k := 646) (x := nI 1) rfl (oi_nI 1) ?_
  refine w_addN (k := 647) rfl ?_
  refine w_iald (k := 648) rfl rfl (by first | assumption | rfl) (by omega) (e2 1) ?_
  refine w_Vi (k := 649) [_] rfl rfl rfl (Nat.le_of_ble_eq_true rfl) (by first | assumption | rfl) (Or.inl ⟨rfl, rfl⟩) ?_
  refine (ms_14 m1 ok (fun I2 L2 m2 f2 g2 => ⟨_, rfl, ?_⟩))
  refine w_c_eq (k := 650) (t' := 920) rfl rfl (fun zq => ?_) (fun zq => absurd rfl zq)
  refine nx I2 L2 w1 _ _ _ _ _ _ _ _ _ _ (by rw [f2 3 (by decide), f1 3 (by decide), h3]) ⟨invc_k c1 f2 g2, m2, ok⟩
set_option maxRecDepth 8192 in
theorem lc_15 (h3 : I 3 = xs) (hi : i + 6 ≤ N) (hN : N ≤ 3072) (h : INV I L A U rl fr n F al t s T) (nx : NXT N i xs) : lW N 653 i (am_SH N, I, L, am_RR w) := by
  obtain ⟨hc, hm, ok⟩ := h
  have e1 : ∀ k, I 3 (i + k) = xs (i + k) := fun k => by rw [h3]
  unfold lW
  refine wp_aload (k := 653) rfl rfl ?_
  refine wp_aload (k := 654) rfl rfl ?_
  refine wp_iload (k := 655) rfl rfl ?_
  refine w_ic (k := 656) (x := nI 1) rfl (oi_nI 1) ?_
  refine w_addN (k := 657) rfl ?_
  refine w_iald (k := 658) rfl rfl (by first | assumption | rfl) (by omega) (e1 1) ?_
  refine wp_aload (k := 659) rfl rfl ?_
  refine wp_iload (k := 660) rfl rfl ?_
  refine w_ic (k := 661) (x := nI 2) rfl (oi_nI 2) ?_
  refine w_addN (k := 662) rfl ?_
  refine w_iald (k := 663) rfl rfl (by first | assumption | rfl) (by omega) (e1 2) ?_
  refine w_Vi (k := 664) [_, _] rfl rfl rfl (Nat.le_of_ble_eq_true rfl) (by first | assumption | rfl) (Or.inl ⟨rfl, rfl⟩) ?_
  refine (cs_15 hc ok (fun I1 L1 w1 c1 f1 g1 => ⟨_, rfl, ?_⟩))
  have m1 := invm_k hm (fun x hx => f1 x (by omega)) (fun x hx => g1 x (by omega))
  have e2 : ∀ k, I1 3 (i + k) = xs (i + k) := fun k => by rw [f1 3 (by decide), h3]
  refine wp_aload (k := 665) rfl rfl ?_
  refine wp_aload (k := 666) rfl rfl ?_
  refine wp_iload (k := 667) rfl rfl ?_
  refine w_ic (k := 668) (x := nI 1) rfl (oi_nI 1) ?_
  refine w_addN (k := 669) rfl ?_
  refine w_iald (k := 670) rfl rfl (by first | assumption | rfl) (by omega) (e2 1) ?_
  refine wp_aload (k := 671) rfl rfl ?_
  refine wp_iload (k := 672) rfl rfl ?_
  refine w_ic (k := 673) (x := nI 2) rfl (oi_nI 2) ?_
  refine w_addN (k := 674) rfl ?_
  refine w_iald (k := 675) rfl rfl (by first | assumption | rfl) (by omega) (e2 2) ?_
  refine w_Vi (k := 676) [_, _] rfl rfl rfl (Nat.le_of_ble_eq_true rfl) (by first | assumption | rfl) (Or.inl ⟨rfl, rfl⟩) ?_
  refine (ms_15 m1 ok (fun I2 L2 m2 f2 g2 => ⟨_, rfl, ?_⟩))
  refine w_c_eq (k := 677) (t' := 920) rfl rfl (fun zq => ?_) (fun zq => absurd rfl zq)
  refine nx I2 L2 w1 _ _ _ _ _ _ _ _ _ _ (by rw [f2 3 (by decide), f1 3 (by decide), h3]) ⟨invc_k c1 f2 g2, m2, ⟨ok.1, ok.2.1, sp_fb_ok ok.2.2.1, ok.2.2.2⟩⟩
set_option maxRecDepth 8192 in
theorem lc_16 (h3 : I 3 = xs) (hi : i + 6 ≤ N) (hN : N ≤ 3072) (h : INV I L A U rl fr n F al t s T) (nx : NXT N i xs) : lW N 680 i (am_SH N, I, L, am_RR w) := by
  obtain ⟨hc, hm, ok⟩ := h
  have e1 : ∀ k, I 3 (i + k) = xs (i + k) := fun k => by rw [h3]
  unfold lW
  refine wp_aload (k := 680) rfl rfl ?_
  refine wp_aload (k := 681) rfl rfl ?_
  refine wp_iload (k := 682) rfl rfl ?_
  refine w_ic (k := 683) (x := nI 1) rfl (oi_nI 1) ?_
  refine w_addN (k := 684) rfl ?_
  refine w_iald (k := 685) rfl rfl (by first | assumption | rfl) (by omega) (e1 1) ?_
  refine w_Vi (k := 686) [_] rfl rfl rfl (Nat.le_of_ble_eq_true rfl) (by first | assumption | rfl) (Or.inl ⟨rfl, rfl⟩) ?_
  refine (cs_16 hc ok (fun I1 L1 w1 c1 f1 g1 => ⟨_, rfl, ?_⟩))
  have m1 := invm_k hm (fun x hx => f1 x (by omega)) (fun x hx => g1 x (by omega))
  have e2 : ∀ k, I1 3 (i + k) = xs (i + k) := fun k => by rw [f1 3 (by decide), h3]
  refine wp_aload (k := 687) rfl rfl ?_
  refine wp_aload (k := 688) rfl rfl ?_
  refine wp_iload (k := 689) rfl rfl ?_
  refine w_ic (k := 690) (x := nI 1) rfl (oi_nI 1) ?_
  refine w_addN (k := 691) rfl ?_
  refine w_iald (k := 692) rfl rfl (by first | assumption | rfl) (by omega) (e2 1) ?_
  refine w_Vi (k := 693) [_] rfl rfl rfl (Nat.le_of_ble_eq_true rfl) (by first | assumption | rfl) (Or.inl ⟨rfl, rfl⟩) ?_
  refine (ms_16 m1 ok (fun I2 L2 m2 f2 g2 => ⟨_, rfl, ?_⟩))
  refine w_c_eq (k := 694) (t' := 920) rfl rfl (fun zq => ?_) (fun zq => absurd rfl zq)
  refine nx I2 L2 w1 _ _ _ _ _ _ _ _ _ _ (by rw [f2 3 (by decide), f1 3 (by decide), h3]) ⟨invc_k c1 f2 g2, m2, ⟨ok.1, ok.2.1, ok.2.2.1, tok_alt ok.2.2.2.1 _ _, ok.2.2.2.2⟩⟩
set_option maxRecDepth 8192 in
theorem lc_17 (h3 : I 3 = xs) (hi : i + 6 ≤ N) (hN : N ≤ 3072) (h : INV I L A U rl fr n F al t s T) (nx : NXT N i xs) : lW N 697 i (am_SH N, I, L, am_RR w) := by
  obtain ⟨hc, hm, ok⟩ := h
  have e1 : ∀ k, I 3 (i + k) = xs (i + k) := fun k => by rw [h3]
  unfold lW
  refine wp_aload (k := 697) rfl rfl ?_
  refine wp_aload (k := 698) rfl rfl ?_
  refine wp_iload (k := 699) rfl rfl ?_
  refine w_ic (k := 700) (x := nI 1) rfl (oi_nI 1) ?_
  refine w_addN (k := 701) rfl ?_
  refine w_iald (k := 702) rfl rfl (by first | assumption | rfl) (by omega) (e1 1) ?_
  refine wp_aload (k := 703) rfl rfl ?_
  refine wp_iload (k := 704) rfl rfl ?_
  refine w_ic (k := 705) (x := nI 2) rfl (oi_nI 2) ?_
  refine w_addN (k := 706) rfl ?_
  refine w_iald (k := 707) rfl rfl (by first | assumption | rfl) (by omega) (e1 2) ?_
  refine w_Vi (k := 708) [_, _] rfl rfl rfl (Nat.le_of_ble_eq_true rfl) (by first | assumption | rfl) (Or.inl ⟨rfl, rfl⟩) ?_
  refine (cs_17 hc ok (fun z I1 L1 w1 c1 f1 g1 => ⟨_, rfl, ?_⟩) (fun z I1 L1 w1 c1 f1 g1 => ⟨_, rfl, ?_⟩))
  · have m1 := invm_k hm (fun x hx => f1 x (by omega)) (fun x hx => g1 x (by omega))
    have e2 : ∀ k, I1 3 (i + k) = xs (i + k) := fun k => by rw [f1 3 (by decide), h3]
    refine wp_aload (k := 709) rfl rfl ?_
    refine wp_aload (k := 710) rfl rfl ?_
    refine wp_iload (k := 711) rfl rfl ?_
    refine w_ic (k := 712) (x := nI 1) rfl (oi_nI 1) ?_
    refine w_addN (k := 713) rfl ?_
    refine w_iald (k := 714) rfl rfl (by first | assumption | rfl) (by omega) (e2 1) ?_
    refine wp_aload (k := 715) rfl rfl ?_
    refine wp_iload (k := 716) rfl rfl ?_
    refine w_ic (k := 717) (x := nI 2) rfl (oi_nI 2) ?_
    refine w_addN (k := 718) rfl ?_
    refine w_iald (k := 719) rfl rfl (by first | assumption | rfl) (by omega) (e2 2) ?_
    refine w_Vi (k := 720) [_, _] rfl rfl rfl (Nat.le_of_ble_eq_true rfl) (by first | assumption | rfl) (Or.inl ⟨rfl, rfl⟩) ?_
    refine (ms_17 m1 ok (fun _ I2 L2 m2 f2 g2 => ⟨_, rfl, ?_⟩) (fun z' => absurd z z'))
    refine w_c_eq (k := 721) (t' := 920) rfl rfl (fun zq => ?_) (fun zq => absurd rfl zq)
    refine nx I2 L2 w1 _ _ _ _ _ _ _ _ _ _ (by rw [f2 3 (by decide), f1 3 (by decide), h3]) ⟨invc_k c1 f2 g2, m2, ok⟩
  · have m1 := invm_k hm (fun x hx => f1 x (by omega)) (fun x hx => g1 x (by omega))
    have e2 : ∀ k, I1 3 (i + k) = xs (i + k) := fun k => by rw [f1 3 (by decide), h3]
    refine wp_aload (k := 709) rfl rfl ?_
    refine wp_aload (k := 710) rfl rfl ?_
    refine wp_iload (k := 711) rfl rfl ?_
    refine w_ic (k := 712) (x := nI 1) rfl (oi_nI 1) ?_
    refine w_addN (k := 713) rfl ?_
    refine w_iald (k := 714) rfl rfl (by first | assumption | rfl) (by omega) (e2 1) ?_
    refine wp_aload (k := 715) rfl rfl ?_
    refine wp_iload (k := 716) rfl rfl ?_
    refine w_ic (k := 717) (x := nI 2) rfl (oi_nI 2) ?_
    refine w_addN (k := 718) rfl ?_
    refine w_iald (k := 719) rfl rfl (by first | assumption | rfl) (by omega) (e2 2) ?_
    refine w_Vi (k := 720) [_, _] rfl rfl rfl (Nat.le_of_ble_eq_true rfl) (by first | assumption | rfl) (Or.inl ⟨rfl, rfl⟩) ?_
    refine (ms_17 m1 ok (fun z' => absurd z' z) (fun _ I2 L2 m2 f2 g2 => ⟨_, rfl, ?_⟩))
    refine w_c_eq (k := 721) (t' := 920) rfl rfl (fun zq => ?_) (fun zq => absurd rfl zq)
    refine nx I2 L2 w1 _ _ _ _ _ _ _ _ _ _ (by rw [f2 3 (by decide), f1 3 (by decide), h3]) ⟨invc_k c1 f2 g2, m2, ⟨ok.1, ok.2.1, ok.2.2.1, tok_dgr ok.2.2.2.1, sn_dgr ok.1 hc.1.1.1⟩⟩
set_option maxRecDepth 8192 in
theorem lc_18 (h3 : I 3 = xs) (hi : i + 6 ≤ N) (hN : N ≤ 3072) (h : INV I L A U rl fr n F al t s T) (nx : NXT N i xs) : lW N 724 i (am_SH N, I, L, am_RR w) := by
  obtain ⟨hc, hm, ok⟩ := h
  have e1 : ∀ k, I 3 (i + k) = xs (i + k) := fun k => by rw [h3]
  unfold lW
  refine wp_aload (k := 724) rfl rfl ?_
  refine wp_aload (k := 725) rfl rfl ?_
  refine wp_iload (k := 726) rfl rfl ?_
  refine w_ic (k := 727) (x := nI 1) rfl (oi_nI 1) ?_
  refine w_addN (k := 728) rfl ?_
  refine w_iald (k := 729) rfl rfl (by first | assumption | rfl) (by omega) (e1 1) ?_
  refine wp_aload (k := 730) rfl rfl ?_
  refine wp_iload (k := 731) rfl rfl ?_
  refine w_ic (k := 732) (x := nI 2) rfl (oi_nI 2) ?_
  refine w_addN (k := 733) rfl ?_
  refine w_iald (k := 734) rfl rfl (by first | assumption | rfl) (by omega) (e1 2) ?_
  refine wp_aload (k := 735) rfl rfl ?_
  refine wp_iload (k := 736) rfl rfl ?_
  refine w_ic (k := 737) (x := nI 3) rfl (oi_nI 3) ?_
  refine w_addN (k := 738) rfl ?_
  refine w_iald (k := 739) rfl rfl (by first | assumption | rfl) (by omega) (e1 3) ?_
  refine w_Vi (k := 740) [_, _, _] rfl rfl rfl (Nat.le_of_ble_eq_true rfl) (by first | assumption | rfl) (Or.inl ⟨rfl, rfl⟩) ?_
  refine (cs_18 hc ok (fun z I1 L1 w1 c1 f1 g1 => ⟨_, rfl, ?_⟩) (fun z I1 L1 w1 c1 f1 g1 => ⟨_, rfl, ?_⟩))
  · have m1 := invm_k hm (fun x hx => f1 x (by omega)) (fun x hx => g1 x (by omega))
    have e2 : ∀ k, I1 3 (i + k) = xs (i + k) := fun k => by rw [f1 3 (by decide), h3]
    refine wp_aload (k := 741) rfl rfl ?_
    refine wp_aload (k := 742) rfl rfl ?_
    refine wp_iload (k := 743) rfl rfl ?_
    refine w_ic (k := 744) (x := nI 1) rfl (oi_nI 1) ?_
    refine w_addN (k := 745) rfl ?_
    refine w_iald (k := 746) rfl rfl (by first | assumption | rfl) (by omega) (e2 1) ?_
    refine wp_aload (k := 747) rfl rfl ?_
    refine wp_iload (k := 748) rfl rfl ?_
    refine w_ic (k := 749) (x := nI 2) rfl (oi_nI 2) ?_
    refine w_addN (k := 750) rfl ?_
    refine w_iald (k := 751) rfl rfl (by first | assumption | rfl) (by omega) (e2 2) ?_
    refine wp_aload (k := 752) rfl rfl ?_
    refine wp_iload (k := 753) rfl rfl ?_
    refine w_ic (k := 754) (x := nI 3) rfl (oi_nI 3) ?_
    refine w_addN (k := 755) rfl ?_
    refine w_iald (k := 756) rfl rfl (by first | assumption | rfl) (by omega) (e2 3) ?_
    refine w_Vi (k := 757) [_, _, _] rfl rfl rfl (Nat.le_of_ble_eq_true rfl) (by first | assumption | rfl) (Or.inl ⟨rfl, rfl⟩) ?_
    refine (ms_18 m1 ok (fun _ I2 L2 m2 f2 g2 => ⟨_, rfl, ?_⟩) (fun z' => absurd z z'))
    refine w_c_eq (k := 758) (t' := 920) rfl rfl (fun zq => ?_) (fun zq => absurd rfl zq)
    refine nx I2 L2 w1 _ _ _ _ _ _ _ _ _ _ (by rw [f2 3 (by decide), f1 3 (by decide), h3]) ⟨invc_k c1 f2 g2, m2, ok⟩
  · have m1 := invm_k hm (fun x hx => f1 x (by omega)) (fun x hx => g1 x (by omega))
    have e2 : ∀ k, I1 3 (i + k) = xs (i + k) := fun k => by rw [f1 3 (by decide), h3]
    refine wp_aload (k := 741) rfl rfl ?_
    refine wp_aload (k := 742) rfl rfl ?_
    refine wp_iload (k := 743) rfl rfl ?_
    refine w_ic (k := 744) (x := nI 1) rfl (oi_nI 1) ?_
    refine w_addN (k := 745) rfl ?_
    refine w_iald (k := 746) rfl rfl (by first | assumption | rfl) (by omega) (e2 1) ?_
    refine wp_aload (k := 747) rfl rfl ?_
    refine wp_iload (k := 748) rfl rfl ?_
    refine w_ic (k := 749) (x := nI 2) rfl (oi_nI 2) ?_
    refine w_addN (k := 750) rfl ?_
    refine w_iald (k := 751) rfl rfl (by first | assumption | rfl) (by omega) (e2 2) ?_
    refine wp_aload (k := 752) rfl rfl ?_
    refine wp_iload (k := 753) rfl rfl ?_
    refine w_ic (k := 754) (x := nI 3) rfl (oi_nI 3) ?_
    refine w_addN (k := 755) rfl ?_
    refine w_iald (k := 756) rfl rfl (by first | assumption | rfl) (by omega) (e2 3) ?_
    refine w_Vi (k := 757) [_, _, _] rfl rfl rfl (Nat.le_of_ble_eq_true rfl) (by first | assumption | rfl) (Or.inl ⟨rfl, rfl⟩) ?_
    refine (ms_18 m1 ok (fun z' => absurd z' z) (fun _ I2 L2 m2 f2 g2 => ⟨_, rfl, ?_⟩))
    refine w_c_eq (k := 758) (t' := 920) rfl rfl (fun zq => ?_) (fun zq => absurd rfl zq)
    refine nx I2 L2 w1 _ _ _ _ _ _ _ _ _ _ (by rw [f2 3 (by decide), f1 3 (by decide), h3]) ⟨invc_k c1 f2 g2, m2, ⟨ok.1, ok.2.1, ok.2.2.1, ok.2.2.2.1, sn_pr hc.1.1.1⟩⟩
set_option maxRecDepth 8192 in
theorem lc_19 (h3 : I 3 = xs) (hi : i + 6 ≤ N) (hN : N ≤ 3072) (h : INV I L A U rl fr n F al t s T) (nx : NXT N i xs) : lW N 761 i (am_SH N, I, L, am_RR w) := by
  obtain ⟨hc, hm, ok⟩ := h
  have e1 : ∀ k, I 3 (i + k) = xs (i + k) := fun k => by rw [h3]
  unfold lW
  refine wp_aload (k := 761) rfl rfl ?_
  refine wp_aload (k := 762) rfl rfl ?_
  refine wp_iload (k := 763) rfl rfl ?_
  refine w_ic (k := 764) (x := nI 1) rfl (oi_nI 1) ?_
  refine w_addN (k := 765) rfl ?_
  refine w_iald (k := 766) rfl rfl (by first | assumption | rfl) (by omega) (e1 1) ?_
  refine w_Vi (k := 767) [_] rfl rfl rfl (Nat.le_of_ble_eq_true rfl) (by first | assumption | rfl) (Or.inl ⟨rfl, rfl⟩) ?_
  refine (cs_19 hc ok (fun I1 L1 w1 c1 f1 g1 => ⟨_, rfl, ?_⟩))
  have m1 := invm_k hm (fun x hx => f1 x (by omega)) (fun x hx => g1 x (by omega))
  have e2 : ∀ k, I1 3 (i + k) = xs (i + k) := fun k => by rw [f1 3 (by decide), h3]
  refine wp_aload (k := 768) rfl rfl ?_
  refine wp_aload (k := 769) rfl rfl ?_
  refine wp_iload (k := 770) rfl rfl ?_
  refine w_ic (k := 771) (x := nI 1) rfl (oi_nI 1) ?_
  refine w_addN (k := 772) rfl ?_
  refine w_iald (k := 773) rfl rfl (by first | assumption | rfl) (by omega) (e2 1) ?_
  refine w_Vi (k := 774) [_] rfl rfl rfl (Nat.le_of_ble_eq_true rfl) (by first | assumption | rfl) (Or.inl ⟨rfl, rfl⟩) ?_
  refine (ms_19 m1 ok (fun I2 L2 m2 f2 g2 => ⟨_, rfl, ?_⟩))
  refine w_c_eq (k := 775) (t' := 920) rfl rfl (fun zq => ?_) (fun zq => absurd rfl zq)
  refine nx I2 L2 w1 _ _ _ _ _ _ _ _ _ _ (by rw [f2 3 (by decide), f1 3 (by decide), h3]) ⟨invc_k c1 f2 g2, m2, ok⟩
set_option maxRecDepth 8192 in
theorem lc_20 (h3 : I 3 = xs) (hi : i + 6 ≤ N) (hN : N ≤ 3072) (h : INV I L A U rl fr n F al t s T) (nx : NXT N i xs) : lW N 778 i (am_SH N, I, L, am_RR w) := by
  obtain ⟨hc, hm, ok⟩ := h
  have e1 : ∀ k, I 3 (i + k) = xs (i + k) := fun k => by rw [h3]
  unfold lW
  refine wp_aload (k := 778) rfl rfl ?_
  refine wp_aload (k := 779) rfl rfl ?_
  refine wp_iload (k := 780) rfl rfl ?_
  refine w_ic (k := 781) (x := nI 1) rfl (oi_nI 1) ?_
  refine w_addN (k := 782) rfl ?_
  refine w_iald (k := 783) rfl rfl (by first | assumption | rfl) (by omega) (e1 1) ?_
  refine w_Vi (k := 784) [_] rfl rfl rfl (Nat.le_of_ble_eq_true rfl) (by first | assumption | rfl) (Or.inl ⟨rfl, rfl⟩) ?_
  refine (cs_20 hc ok (fun I1 L1 w1 c1 f1 g1 => ⟨_, rfl, ?_⟩))
  have m1 := invm_k hm (fun x hx => f1 x (by omega)) (fun x hx => g1 x (by omega))
  have e2 : ∀ k, I1 3 (i + k) = xs (i + k) := fun k => by rw [f1 3 (by decide), h3]
  refine wp_aload (k := 785) rfl rfl ?_
  refine wp_aload (k := 786) rfl rfl ?_
  refine wp_iload (k := 787) rfl rfl ?_
  refine w_ic (k := 788) (x := nI 1) rfl (oi_nI 1) ?_
  refine w_addN (k := 789) rfl ?_
  refine w_iald (k := 790) rfl rfl (by first | assumption | rfl) (by omega) (e2 1) ?_
  refine w_Vi (k := 791) [_] rfl rfl rfl (Nat.le_of_ble_eq_true rfl) (by first | assumption | rfl) (Or.inl ⟨rfl, rfl⟩) ?_
  refine (ms_20 m1 ok (fun I2 L2 m2 f2 g2 => ⟨_, rfl, ?_⟩))
  refine w_c_eq (k := 792) (t' := 920) rfl rfl (fun zq => ?_) (fun zq => absurd rfl zq)
  refine nx I2 L2 w1 _ _ _ _ _ _ _ _ _ _ (by rw [f2 3 (by decide), f1 3 (by decide), h3]) ⟨invc_k c1 f2 g2, m2, ok⟩
set_option maxRecDepth 8192 in
theorem lc_21 (h3 : I 3 = xs) (hi : i + 6 ≤ N) (hN : N ≤ 3072) (h : INV I L A U rl fr n F al t s T) (nx : NXT N i xs) : lW N 795 i (am_SH N, I, L, am_RR w) := by
  obtain ⟨hc, hm, ok⟩ := h
  have e1 : ∀ k, I 3 (i + k) = xs (i + k) := fun k => by rw [h3]
  unfold lW
  refine wp_aload (k := 795) rfl rfl ?_
  refine wp_aload (k := 796) rfl rfl ?_
  refine wp_iload (k := 797) rfl rfl ?_
  refine w_ic (k := 798) (x := nI 1) rfl (oi_nI 1) ?_
  refine w_addN (k := 799) rfl ?_
  refine w_iald (k := 800) rfl rfl (by first | assumption | rfl) (by omega) (e1 1) ?_
  refine wp_aload (k := 801) rfl rfl ?_
  refine wp_iload (k := 802) rfl rfl ?_
  refine w_ic (k := 803) (x := nI 2) rfl (oi_nI 2) ?_
  refine w_addN (k := 804) rfl ?_
  refine w_iald (k := 805) rfl rfl (by first | assumption | rfl) (by omega) (e1 2) ?_
  refine w_Vi (k := 806) [_, _] rfl rfl rfl (Nat.le_of_ble_eq_true rfl) (by first | assumption | rfl) (Or.inl ⟨rfl, rfl⟩) ?_
  refine (cs_21 hc ok (fun I1 L1 w1 c1 f1 g1 => ⟨_, rfl, ?_⟩))
  have m1 := invm_k hm (fun x hx => f1 x (by omega)) (fun x hx => g1 x (by omega))
  have e2 : ∀ k, I1 3 (i + k) = xs (i + k) := fun k => by rw [f1 3 (by decide), h3]
  refine wp_aload (k := 807) rfl rfl ?_
  refine wp_aload (k := 808) rfl rfl ?_
  refine wp_iload (k := 809) rfl rfl ?_
  refine w_ic (k := 810) (x := nI 1) rfl (oi_nI 1) ?_
  refine w_addN (k := 811) rfl ?_
  refine w_iald (k := 812) rfl rfl (by first | assumption | rfl) (by omega) (e2 1) ?_
  refine wp_aload (k := 813) rfl rfl ?_
  refine wp_iload (k := 814) rfl rfl ?_
  refine w_ic (k := 815) (x := nI 2) rfl (oi_nI 2) ?_
  refine w_addN (k := 816) rfl ?_
  refine w_iald (k := 817) rfl rfl (by first | assumption | rfl) (by omega) (e2 2) ?_
  refine w_Vi (k := 818) [_, _] rfl rfl rfl (Nat.le_of_ble_eq_true rfl) (by first | assumption | rfl) (Or.inl ⟨rfl, rfl⟩) ?_
  refine (ms_21 m1 ok (fun I2 L2 m2 f2 g2 => ⟨_, rfl, ?_⟩))
  refine w_c_eq (k := 819) (t' := 920) rfl rfl (fun zq => ?_) (fun zq => absurd rfl zq)
  refine nx I2 L2 w1 _ _ _ _ _ _ _ _ _ _ (by rw [f2 3 (by decide), f1 3 (by decide), h3]) ⟨invc_k c1 f2 g2, m2, ok⟩
set_option maxRecDepth 8192 in
theorem lc_22 (h3 : I 3 = xs) (hi : i + 6 ≤ N) (hN : N ≤ 3072) (h : INV I L A U rl fr n F al t s T) (nx : NXT N i xs) : lW N 822 i (am_SH N, I, L, am_RR w) := by
  obtain ⟨hc, hm, ok⟩ := h
  have e1 : ∀ k, I 3 (i + k) = xs (i + k) := fun k => by rw [h3]
  unfold lW
  refine wp_aload (k := 822) rfl rfl ?_
  refine wp_aload (k := 823) rfl rfl ?_
  refine wp_iload (k := 824) rfl rfl ?_
  refine w_ic (k := 825) (x := nI 1) rfl (oi_nI 1) ?_
  refine w_addN (k := 826) rfl ?_
  refine w_iald (k := 827) rfl rfl (by first | assumption | rfl) (by omega) (e1 1) ?_
  refine wp_aload (k := 828) rfl rfl ?_
  refine wp_iload (k := 829) rfl rfl ?_
  refine w_ic (k := 830) (x := nI 2) rfl (oi_nI 2) ?_
  refine w_addN (k := 831) rfl ?_
  refine w_iald (k := 832) rfl rfl (by first | assumption | rfl) (by omega) (e1 2) ?_
  refine w_Vi (k := 833) [_, _] rfl rfl rfl (Nat.le_of_ble_eq_true rfl) (by first | assumption | rfl) (Or.inl ⟨rfl, rfl⟩) ?_
  refine (cs_22 hc ok (fun I1 L1 w1 c1 f1 g1 => ⟨_, rfl, ?_⟩))
  have m1 := invm_k hm (fun x hx => f1 x (by omega)) (fun x hx => g1 x (by omega))
  have e2 : ∀ k, I1 3 (i + k) = xs (i + k) := fun k => by rw [f1 3 (by decide), h3]
  refine wp_aload (k := 834) rfl rfl ?_
  refine wp_aload (k := 835) rfl rfl ?_
  refine wp_iload (k := 836) rfl rfl ?_
  refine w_ic (k := 837) (x := nI 1) rfl (oi_nI 1) ?_
  refine w_addN (k := 838) rfl ?_
  refine w_iald (k := 839) rfl rfl (by first | assumption | rfl) (by omega) (e2 1) ?_
  refine wp_aload (k := 840) rfl rfl ?_
  refine wp_iload (k := 841) rfl rfl ?_
  refine w_ic (k := 842) (x := nI 2) rfl (oi_nI 2) ?_
  refine w_addN (k := 843) rfl ?_
  refine w_iald (k := 844) rfl rfl (by first | assumption | rfl) (by omega) (e2 2) ?_
  refine w_Vi (k := 845) [_, _] rfl rfl rfl (Nat.le_of_ble_eq_true rfl) (by first | assumption | rfl) (Or.inl ⟨rfl, rfl⟩) ?_
  refine (ms_22 m1 ok (fun I2 L2 m2 f2 g2 => ⟨_, rfl, ?_⟩))
  refine w_c_eq (k := 846) (t' := 920) rfl rfl (fun zq => ?_) (fun zq => absurd rfl zq)
  refine nx I2 L2 w1 _ _ _ _ _ _ _ _ _ _ (by rw [f2 3 (by decide), f1 3 (by decide), h3]) ⟨invc_k c1 f2 g2, m2, ok⟩
set_option maxRecDepth 8192 in
theorem lc_23 (h3 : I 3 = xs) (hi : i + 6 ≤ N) (hN : N ≤ 3072) (h : INV I L A U rl fr n F al t s T) (nx : NXT N i xs) : lW N 849 i (am_SH N, I, L, am_RR w) := by
  obtain ⟨hc, hm, ok⟩ := h
  have e1 : ∀ k, I 3 (i + k) = xs (i + k) := fun k => by rw [h3]
  unfold lW
  refine wp_aload (k := 849) rfl rfl ?_
  refine wp_aload (k := 850) rfl rfl ?_
  refine wp_iload (k := 851) rfl rfl ?_
  refine w_ic (k := 852) (x := nI 1) rfl (oi_nI 1) ?_
  refine w_addN (k := 853) rfl ?_
  refine w_iald (k := 854) rfl rfl (by first | assumption | rfl) (by omega) (e1 1) ?_
  refine wp_aload (k := 855) rfl rfl ?_
  refine wp_iload (k := 856) rfl rfl ?_
  refine w_ic (k := 857) (x := nI 2) rfl (oi_nI 2) ?_
  refine w_addN (k := 858) rfl ?_
  refine w_iald (k := 859) rfl rfl (by first | assumption | rfl) (by omega) (e1 2) ?_
  refine w_Vi (k := 860) [_, _] rfl rfl rfl (Nat.le_of_ble_eq_true rfl) (by first | assumption | rfl) (Or.inl ⟨rfl, rfl⟩) ?_
  refine (cs_23 hc ok (fun I1 L1 w1 c1 f1 g1 => ⟨_, rfl, ?_⟩))
  have m1 := invm_k hm (fun x hx => f1 x (by omega)) (fun x hx => g1 x (by omega))
  have e2 : ∀ k, I1 3 (i + k) = xs (i + k) := fun k => by rw [f1 3 (by decide), h3]
  refine wp_aload (k := 861) rfl rfl ?_
  refine wp_aload (k := 862) rfl rfl ?_
  refine wp_iload (k := 863) rfl rfl ?_
  refine w_ic (k := 864) (x := nI 1) rfl (oi_nI 1) ?_
  refine w_addN (k := 865) rfl ?_
  refine w_iald (k := 866) rfl rfl (by first | assumption | rfl) (by omega) (e2 1) ?_
  refine wp_aload (k := 867) rfl rfl ?_
  refine wp_iload (k := 868) rfl rfl ?_
  refine w_ic (k := 869) (x := nI 2) rfl (oi_nI 2) ?_
  refine w_addN (k := 870) rfl ?_
  refine w_iald (k := 871) rfl rfl (by first | assumption | rfl) (by omega) (e2 2) ?_
  refine w_Vi (k := 872) [_, _] rfl rfl rfl (Nat.le_of_ble_eq_true rfl) (by first | assumption | rfl) (Or.inl ⟨rfl, rfl⟩) ?_
  refine (ms_23 m1 ok (fun I2 L2 m2 f2 g2 => ⟨_, rfl, ?_⟩))
  refine w_c_eq (k := 873) (t' := 920) rfl rfl (fun zq => ?_) (fun zq => absurd rfl zq)
  refine nx I2 L2 w1 _ _ _ _ _ _ _ _ _ _ (by rw [f2 3 (by decide), f1 3 (by decide), h3]) ⟨invc_k c1 f2 g2, m2, ok⟩
set_option maxRecDepth 8192 in
theorem lc_24 (h3 : I 3 = xs) (hi : i + 6 ≤ N) (hN : N ≤ 3072) (h : INV I L A U rl fr n F al t s T) (nx : NXT N i xs) : lW N 876 i (am_SH N, I, L, am_RR w) := by
  obtain ⟨hc, hm, ok⟩ := h
  have e1 : ∀ k, I 3 (i + k) = xs (i + k) := fun k => by rw [h3]
  unfold lW
  refine wp_aload (k := 876) rfl rfl ?_
  refine wp_aload (k := 877) rfl rfl ?_
  refine wp_iload (k := 878) rfl rfl ?_
  refine w_ic (k := 879) (x := nI 1) rfl (oi_nI 1) ?_
  refine w_addN (k := 880) rfl ?_
  refine w_iald (k := 881) rfl rfl (by first | assumption | rfl) (by omega) (e1 1) ?_
  refine wp_aload (k := 882) rfl rfl ?_
  refine wp_iload (k := 883) rfl rfl ?_
  refine w_ic (k := 884) (x := nI 2) rfl (oi_nI 2) ?_
  refine w_addN (k := 885) rfl ?_
  refine w_iald (k := 886) rfl rfl (by first | assumption | rfl) (by omega) (e1 2) ?_
  refine w_Vi (k := 887) [_, _] rfl rfl rfl (Nat.le_of_ble_eq_true rfl) (by first | assumption | rfl) (Or.inl ⟨rfl, rfl⟩) ?_
  refine (cs_24 hc ok (fun I1 L1 w1 c1 f1 g1 => ⟨_, rfl, ?_⟩))
  have m1 := invm_k hm (fun x hx => f1 x (by omega)) (fun x hx => g1 x (by omega))
  have e2 : ∀ k, I1 3 (i + k) = xs (i + k) := fun k => by rw [f1 3 (by decide), h3]
  refine wp_aload (k := 888) rfl rfl ?_
  refine wp_aload (k := 889) rfl rfl ?_
  refine wp_iload (k := 890) rfl rfl ?_
  refine w_ic (k := 891) (x := nI 1) rfl (oi_nI 1) ?_
  refine w_addN (k := 892) rfl ?_
  refine w_iald (k := 893) rfl rfl (by first | assumption | rfl) (by omega) (e2 1) ?_
  refine wp_aload (k := 894) rfl rfl ?_
  refine wp_iload (k := 895) rfl rfl ?_
  refine w_ic (k := 896) (x := nI 2) rfl (oi_nI 2) ?_
  refine w_addN (k := 897) rfl ?_
  refine w_iald (k := 898) rfl rfl (by first | assumption | rfl) (by omega) (e2 2) ?_
  refine w_Vi (k := 899) [_, _] rfl rfl rfl (Nat.le_of_ble_eq_true rfl) (by first | assumption | rfl) (Or.inl ⟨rfl, rfl⟩) ?_
  refine (ms_24 m1 ok (fun I2 L2 m2 f2 g2 => ⟨_, rfl, ?_⟩))
  refine w_c_eq (k := 900) (t' := 920) rfl rfl (fun zq => ?_) (fun zq => absurd rfl zq)
  refine nx I2 L2 w1 _ _ _ _ _ _ _ _ _ _ (by rw [f2 3 (by decide), f1 3 (by decide), h3]) ⟨invc_k c1 f2 g2, m2, ok⟩
set_option maxRecDepth 8192 in
theorem lc_25 (h3 : I 3 = xs) (hi : i + 6 ≤ N) (hN : N ≤ 3072) (h : INV I L A U rl fr n F al t s T) (nx : NXT N i xs) : lW N 903 i (am_SH N, I, L, am_RR w) := by
  obtain ⟨hc, hm, ok⟩ := h
  have e1 : ∀ k, I 3 (i + k) = xs (i + k) := fun k => by rw [h3]
  unfold lW
  refine wp_aload (k := 903) rfl rfl ?_
  refine wp_aload (k := 904) rfl rfl ?_
  refine wp_iload (k := 905) rfl rfl ?_
  refine w_ic (k := 906) (x := nI 1) rfl (oi_nI 1) ?_
  refine w_addN (k := 907) rfl ?_
  refine w_iald (k := 908) rfl rfl (by first | assumption | rfl) (by omega) (e1 1) ?_
  refine w_Vi (k := 909) [_] rfl rfl rfl (Nat.le_of_ble_eq_true rfl) (by first | assumption | rfl) (Or.inl ⟨rfl, rfl⟩) ?_
  refine (cs_25 hc ok (fun I1 L1 w1 c1 f1 g1 => ⟨_, rfl, ?_⟩))
  have m1 := invm_k hm (fun x hx => f1 x (by omega)) (fun x hx => g1 x (by omega))
  have e2 : ∀ k, I1 3 (i + k) = xs (i + k) := fun k => by rw [f1 3 (by decide), h3]
  refine wp_aload (k := 910) rfl rfl ?_
  refine wp_aload (k := 911) rfl rfl ?_
  refine wp_iload (k := 912) rfl rfl ?_
  refine w_ic (k := 913) (x := nI 1) rfl (oi_nI 1) ?_
  refine w_addN (k := 914) rfl ?_
  refine w_iald (k := 915) rfl rfl (by first | assumption | rfl) (by omega) (e2 1) ?_
  refine w_Vi (k := 916) [_] rfl rfl rfl (Nat.le_of_ble_eq_true rfl) (by first | assumption | rfl) (Or.inl ⟨rfl, rfl⟩) ?_
  refine (ms_25 m1 ok (fun I2 L2 m2 f2 g2 => ⟨_, rfl, ?_⟩))
  refine w_c_eq (k := 917) (t' := 920) rfl rfl (fun zq => ?_) (fun zq => absurd rfl zq)
  refine nx I2 L2 w1 _ _ _ _ _ _ _ _ _ _ (by rw [f2 3 (by decide), f1 3 (by decide), h3]) ⟨invc_k c1 f2 g2, m2, ok⟩
end LC
