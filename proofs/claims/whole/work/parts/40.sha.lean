/-! ===== SHA-256: its words and rounds ===== -/
theorem w_ls {cN cZ : Nat} {cs : List Instr} {C : am_C} {Z : am_Q} {k : Nat} {ls ls2 : List (Option Value)} {st : List Value} {h : am_H} (e : ls = ls2) (hn : am_WP am_rc am_na am_mc am_ms cN cZ cs C Z k ls2 st h) : am_WP am_rc am_na am_mc am_ms cN cZ cs C Z k ls st h := by rw [e]; exact hn
def am_first : List Int32 := [1779033703, -1150833019, 1013904242, -1521486534, 1359893119, -1694144372, 528734635, 1541459225]
def am_round : List Int32 := [1116352408, 1899447441, -1245643825, -373957723, 961987163, 1508970993, -1841331548, -1424204075, -670586216, 310598401, 607225278, 1426881987, 1925078388, -2132889090, -1680079193, -1046744716, -459576895, -272742522, 264347078, 604807628, 770255983, 1249150122, 1555081692, 1996064986, -1740746414, -1473132947, -1341970488, -1084653625, -958395405, -710438585, 113926993, 338241895, 666307205, 773529912, 1294757372, 1396182291, 1695183700, 1986661051, -2117940946, -1838011259, -1564481375, -1474664885, -1035236496, -949202525, -778901479, -694614492, -200395387, 275423344, 430227734, 506948616, 659060556, 883997877, 958139571, 1322822218, 1537002063, 1747873779, 1955562222, 2024104815, -2067236844, -1933114872, -1866530822, -1538233109, -1090935817, -965641998]
def am_nibl : List Int32 := [0, 498536548, 997073096, 651767980, 1994146192, 1802195444, 1303535960, 1342533948, -306674912, -267414716, -690576408, -882789492, -1687895376, -2032938284, -1609899400, -1111625188]
def kF (i : Nat) : Int32 := am_first.getD i 0
def kR (i : Nat) : Int32 := am_round.getD i 0
def kN (i : Nat) : Int32 := am_nibl.getD i 0
/-- the static arrays -/
def stc (I : Nat → Nat → Int32) : Prop := (∀ i, i < 8 → I 0 i = kF i) ∧ (∀ i, i < 64 → I 1 i = kR i) ∧ ∀ i, i < 16 → I 2 i = kN i
theorem stc_k {I I' : Nat → Nat → Int32} (h : stc I) (h0 : I' 0 = I 0) (h1 : I' 1 = I 1) (h2 : I' 2 = I 2) : stc I' := ⟨fun i hi => by rw [h0]; exact h.1 i hi, fun i hi => by rw [h1]; exact h.2.1 i hi, fun i hi => by rw [h2]; exact h.2.2 i hi⟩
def sr (x : Int32) (n : Nat) : Int32 := (x.toUInt32 >>> ((nI n).toUInt32 &&& Int32.toUInt32 31)).toInt32
def rr (x : Int32) (n : Nat) : Int32 := sr x n ||| x <<< (nI (32 - n) &&& 31)
def g0 (x : Int32) : Int32 := rr x 7 ^^^ rr x 18 ^^^ sr x 3
def g1 (x : Int32) : Int32 := rr x 17 ^^^ rr x 19 ^^^ sr x 10
def wx (M : Nat → Int32) : Nat → Nat → Int32
  | 0 => M
  | j + 1 => fun t => if t = 16 + j then wx M j j + g0 (wx M j (j + 1)) + wx M j (j + 9) + g1 (wx M j (j + 14)) else wx M j t
def sone (s : Nat → Int32) (k v : Int32) : Int32 := s 7 + (rr (s 4) 6 ^^^ rr (s 4) 11 ^^^ rr (s 4) 25) + ((s 4 &&& s 5) ^^^ ((s 4 ^^^ (-1)) &&& s 6)) + k + v
def stwo (s : Nat → Int32) : Int32 := (rr (s 0) 2 ^^^ rr (s 0) 13 ^^^ rr (s 0) 22) + ((s 0 &&& s 1) ^^^ (s 0 &&& s 2) ^^^ (s 1 &&& s 2))
def rst (k v : Int32) (s : Nat → Int32) : Nat → Int32 := fun i => match i with
  | 0 => sone s k v + stwo s
  | 4 => s 3 + sone s k v
  | i + 1 => s i
def rd (W : Nat → Int32) (s : Nat → Int32) : Nat → Nat → Int32
  | 0 => s
  | n + 1 => rst (kR n) (W n) (rd W s n)
def comp (s M : Nat → Int32) : Nat → Int32 := fun i => s i + rd (wx M 48) s 64 i
theorem wx_s (M : Nat → Int32) (j t : Nat) : wx M (j + 1) t = if t = 16 + j then wx M j j + g0 (wx M j (j + 1)) + wx M j (j + 9) + g1 (wx M j (j + 14)) else wx M j t := rfl
theorem vx {f : Nat → Int32} {i j : Nat} {v : Int32} (e : i = j) (h : f j = v) : f i = v := by rw [e]; exact h
theorem wx_cong {M M' : Nat → Int32} (h : ∀ i, i < 16 → M i = M' i) : ∀ j t, t < 16 + j → wx M j t = wx M' j t
  | 0, t, ht => h t (by omega)
  | j + 1, t, ht => by
    rw [wx_s, wx_s]
    by_cases e : t = 16 + j
    · rw [if_pos e, if_pos e, wx_cong h j j (by omega), wx_cong h j (j + 1) (by omega), wx_cong h j (j + 9) (by omega), wx_cong h j (j + 14) (by omega)]
    · rw [if_neg e, if_neg e]
      exact wx_cong h j t (by omega)
theorem rst_cong {k v : Int32} {s s' : Nat → Int32} (h : ∀ i, i < 8 → s i = s' i) : ∀ i, i < 8 → rst k v s i = rst k v s' i := by
  have e : sone s k v = sone s' k v := by unfold sone; rw [h 7 (by decide), h 4 (by decide), h 5 (by decide), h 6 (by decide)]
  have e2 : stwo s = stwo s' := by unfold stwo; rw [h 0 (by decide), h 1 (by decide), h 2 (by decide)]
  intro i hi
  match i, hi with
  | 0, _ => show sone s k v + stwo s = _; rw [e, e2]; rfl
  | 1, _ => exact h 0 (by decide)
  | 2, _ => exact h 1 (by decide)
  | 3, _ => exact h 2 (by decide)
  | 4, _ => show s 3 + sone s k v = _; rw [e, h 3 (by decide)]; rfl
  | 5, _ => exact h 4 (by decide)
  | 6, _ => exact h 5 (by decide)
  | 7, _ => exact h 6 (by decide)
  | i + 8, hi => omega
theorem rd_cong {W W' s s' : Nat → Int32} (hw : ∀ i, i < 64 → W i = W' i) (hs : ∀ i, i < 8 → s i = s' i) : ∀ n, n ≤ 64 → ∀ i, i < 8 → rd W s n i = rd W' s' n i
  | 0, _, i, hi => hs i hi
  | n + 1, hn, i, hi => by
    rw [rd, rd, hw n (by omega)]
    exact rst_cong (rd_cong hw hs n (by omega)) i hi
theorem comp_cong {s s' M M' : Nat → Int32} (hs : ∀ i, i < 8 → s i = s' i) (hm : ∀ i, i < 16 → M i = M' i) : ∀ i, i < 8 → comp s M i = comp s' M' i := by
  intro i hi
  unfold comp
  rw [hs i hi, rd_cong (fun t ht => wx_cong hm 48 t (by omega)) hs 64 (Nat.le_refl _) i hi]
section SHC
variable {d N : Nat} {I : Nat → Nat → Int32} {L : Nat → Nat → Int64} {w : Option Nat} {Q : am_Q}
theorem c_121 {M : Nat → Int32} (hM : ∀ i, i < 16 → I 10 i = M i) (hq : ∀ I', (∀ i, i < 64 → I' 10 i = wx M 48 i) → (∀ x, x ≠ 10 → I' x = I x) → Q none (am_SH N, I', L, am_RR w)) : am_call (d + 1) 121 [.ref 8] (am_SH N, I, L, am_RR w) Q := by
  have loop : ∀ (r j : Nat) (I1 : Nat → Nat → Int32) (o1 o2 o3 o4 : Option Value), j + r = 48 → (∀ i, i < 16 + j → I1 10 i = wx M j i) → (∀ x, x ≠ 10 → I1 x = I x) → am_V 121 am_c121 d (am_SH N) Q 2 [some (.ref 8), some (.int (nI (16 + j))), o1, o2, o3, o4] [] (am_SH N, I1, L, am_RR w) := by
    intro r
    induction r with
    | zero =>
      intro j I1 o1 o2 o3 o4 hj h1 f1
      refine wp_iload (k := 2) rfl rfl ?_
      refine w_ic (k := 3) (x := nI 64) rfl (oi_nI 64) ?_
      refine w_n_ge (k := 4) (t' := 82) rfl rfl (by omega) (fun q => ?_) (fun q => absurd q (by omega))
      refine w_rv (k := 82) rfl rfl rfl rfl ?_
      obtain rfl : j = 48 := by omega
      exact hq I1 h1 f1
    | succ r ih =>
      intro j I1 o1 o2 o3 o4 hj h1 f1
      have e1 : 16 + j - 15 = j + 1 := by omega
      have e2 : 16 + j - 2 = j + 14 := by omega
      have e3 : 16 + j - 16 = j := by omega
      have e4 : 16 + j - 7 = j + 9 := by omega
      refine wp_iload (k := 2) rfl rfl ?_
      refine w_ic (k := 3) (x := nI 64) rfl (oi_nI 64) ?_
      refine w_n_ge (k := 4) (t' := 82) rfl rfl (by omega) (fun q => absurd q (by omega)) (fun q => ?_)
      refine wp_aload (k := 5) rfl rfl ?_
      refine w_gr (k := 6) (s := 1) rfl rfl (by first | assumption | rfl) (by first | assumption | rfl) ?_
      refine wp_iload (k := 7) rfl rfl ?_
      refine w_ic (k := 8) (x := nI 15) rfl (oi_nI 15) ?_
      refine w_subN (k := 9) rfl (by omega) ?_
      refine w_iald (k := 10) rfl rfl (by first | assumption | rfl) (by omega) (vx (f := I1 10) e1 (h1 (j + 1) (by omega))) ?_
      refine wp_istore (k := 11) (ls2 := [some _, some _, some _, _, _, _]) rfl rfl ?_
      refine wp_aload (k := 12) rfl rfl ?_
      refine w_gr (k := 13) (s := 1) rfl rfl (by first | assumption | rfl) (by first | assumption | rfl) ?_
      refine wp_iload (k := 14) rfl rfl ?_
      refine w_ic (k := 15) (x := nI 2) rfl (oi_nI 2) ?_
      refine w_subN (k := 16) rfl (by omega) ?_
      refine w_iald (k := 17) rfl rfl (by first | assumption | rfl) (by omega) (vx (f := I1 10) e2 (h1 (j + 14) (by omega))) ?_
      refine wp_istore (k := 18) (ls2 := [some _, some _, some _, some _, _, _]) rfl rfl ?_
      refine wp_iload (k := 19) rfl rfl ?_
      refine w_ic (k := 20) (x := nI 7) rfl (oi_nI 7) ?_
      refine wp_iushr (k := 21) rfl ?_
      refine wp_iload (k := 22) rfl rfl ?_
      refine w_ic (k := 23) (x := nI 25) rfl (oi_nI 25) ?_
      refine wp_ishl (k := 24) rfl ?_
      refine wp_ior (k := 25) rfl ?_
      refine wp_iload (k := 26) rfl rfl ?_
      refine w_ic (k := 27) (x := nI 18) rfl (oi_nI 18) ?_
      refine wp_iushr (k := 28) rfl ?_
      refine wp_iload (k := 29) rfl rfl ?_
      refine w_ic (k := 30) (x := nI 14) rfl (oi_nI 14) ?_
      refine wp_ishl (k := 31) rfl ?_
      refine wp_ior (k := 32) rfl ?_
      refine wp_ixor (k := 33) rfl ?_
      refine wp_iload (k := 34) rfl rfl ?_
      refine w_ic (k := 35) (x := nI 3) rfl (oi_nI 3) ?_
      refine wp_iushr (k := 36) rfl ?_
      refine wp_ixor (k := 37) rfl ?_
      refine w_eqi (y := (g0 (wx M j (j + 1)))) rfl ?_
      refine wp_istore (k := 38) (ls2 := [some _, some _, some _, some _, some _, _]) rfl rfl ?_
      refine wp_iload (k := 39) rfl rfl ?_
      refine w_ic (k := 40) (x := nI 17) rfl (oi_nI 17) ?_
      refine wp_iushr (k := 41) rfl ?_
      refine wp_iload (k := 42) rfl rfl ?_
      refine w_ic (k := 43) (x := nI 15) rfl (oi_nI 15) ?_
      refine wp_ishl (k := 44) rfl ?_
      refine wp_ior (k := 45) rfl ?_
      refine wp_iload (k := 46) rfl rfl ?_
      refine w_ic (k := 47) (x := nI 19) rfl (oi_nI 19) ?_
      refine wp_iushr (k := 48) rfl ?_
      refine wp_iload (k := 49) rfl rfl ?_
      refine w_ic (k := 50) (x := nI 13) rfl (oi_nI 13) ?_
      refine wp_ishl (k := 51) rfl ?_
      refine wp_ior (k := 52) rfl ?_
      refine wp_ixor (k := 53) rfl ?_
      refine wp_iload (k := 54) rfl rfl ?_
      refine w_ic (k := 55) (x := nI 10) rfl (oi_nI 10) ?_
      refine wp_iushr (k := 56) rfl ?_
      refine wp_ixor (k := 57) rfl ?_
      refine w_eqi (y := (g1 (wx M j (j + 14)))) rfl ?_
      refine wp_istore (k := 58) (ls2 := [some _, some _, some _, some _, some _, some _]) rfl rfl ?_
      refine wp_aload (k := 59) rfl rfl ?_
      refine w_gr (k := 60) (s := 1) rfl rfl (by first | assumption | rfl) (by first | assumption | rfl) ?_
      refine wp_iload (k := 61) rfl rfl ?_
      refine wp_aload (k := 62) rfl rfl ?_
      refine w_gr (k := 63) (s := 1) rfl rfl (by first | assumption | rfl) (by first | assumption | rfl) ?_
      refine wp_iload (k := 64) rfl rfl ?_
      refine w_ic (k := 65) (x := nI 16) rfl (oi_nI 16) ?_
      refine w_subN (k := 66) rfl (by omega) ?_
      refine w_iald (k := 67) rfl rfl (by first | assumption | rfl) (by omega) (vx (f := I1 10) e3 (h1 j (by omega))) ?_
      refine wp_iload (k := 68) rfl rfl ?_
      refine wp_iadd (k := 69) rfl ?_
      refine wp_aload (k := 70) rfl rfl ?_
      refine w_gr (k := 71) (s := 1) rfl rfl (by first | assumption | rfl) (by first | assumption | rfl) ?_
      refine wp_iload (k := 72) rfl rfl ?_
      refine w_ic (k := 73) (x := nI 7) rfl (oi_nI 7) ?_
      refine w_subN (k := 74) rfl (by omega) ?_
      refine w_iald (k := 75) rfl rfl (by first | assumption | rfl) (by omega) (vx (f := I1 10) e4 (h1 (j + 9) (by omega))) ?_
      refine wp_iadd (k := 76) rfl ?_
      refine wp_iload (k := 77) rfl rfl ?_
      refine wp_iadd (k := 78) rfl ?_
      refine w_iast (k := 79) rfl rfl (by omega) (by first | assumption | rfl) (by omega) ?_
      refine w_incN (k := 80) (m := 1) rfl (oi_nI 1) rfl ?_
      refine w_ls (ls2 := [some _, some _, some _, some _, some _, some _]) rfl ?_
      refine w_goto (k := 81) (t' := 2) rfl rfl ?_
      refine ih (j + 1) _ _ _ _ _ (by omega) (fun i hi => ?_) (fun x hx => by rw [am_uR hx, f1 x hx])
      rw [am_u_app, wx_s]
      by_cases e : i = 16 + j
      · rw [if_pos ⟨rfl, e⟩, if_pos e]
      · rw [if_neg (fun q => e q.2), if_neg e]
        exact h1 i (by omega)
  refine am_enter (ls := [some _, none, none, none, none, none]) (cs := am_c121) rfl rfl (Nat.le_of_ble_eq_true rfl) rfl ?_
  refine w_ic (k := 0) (x := nI 16) rfl (oi_nI 16) ?_
  refine wp_istore (k := 1) rfl rfl ?_
  exact loop 48 0 I none none none none rfl hM (fun _ _ => rfl)
theorem c_122 (hst : stc I) {s W : Nat → Int32} (hs : ∀ i, i < 8 → I 9 i = s i) (hW : ∀ i, i < 64 → I 10 i = W i) (hq : ∀ I', (∀ i, i < 8 → I' 9 i = s i + rd W s 64 i) → (∀ x, x ≠ 9 → I' x = I x) → Q none (am_SH N, I', L, am_RR w)) : am_call (d + 1) 122 [.ref 8] (am_SH N, I, L, am_RR w) Q := by
  have loop : ∀ (r n : Nat) (o1 o2 o3 o4 : Option Value), n + r = 64 → am_V 122 am_c122 d (am_SH N) Q 42 [some (.ref 8), some (.int (rd W s n 0)), some (.int (rd W s n 1)), some (.int (rd W s n 2)), some (.int (rd W s n 3)), some (.int (rd W s n 4)), some (.int (rd W s n 5)), some (.int (rd W s n 6)), some (.int (rd W s n 7)), some (.int (nI n)), o1, o2, o3, o4] [] (am_SH N, I, L, am_RR w) := by
    intro r
    induction r with
    | zero =>
      intro n o1 o2 o3 o4 hn
      obtain rfl : n = 64 := by omega
      generalize rd W s 64 = z at hq
      have key : ∀ (I1 : Nat → Nat → Int32), I1 = am_u (am_u (am_u (am_u (am_u (am_u (am_u (am_u I 9 0 (s 0 + z 0)) 9 1 (s 1 + z 1)) 9 2 (s 2 + z 2)) 9 3 (s 3 + z 3)) 9 4 (s 4 + z 4)) 9 5 (s 5 + z 5)) 9 6 (s 6 + z 6)) 9 7 (s 7 + z 7) → Q none (am_SH N, I1, L, am_RR w) := by
        intro I1 e
        subst e
        refine hq _ (fun i hi => ?_) (fun x hx => ?_)
        · match i, hi with
          | 0, _ => simp [am_u_app]
          | 1, _ => simp [am_u_app]
          | 2, _ => simp [am_u_app]
          | 3, _ => simp [am_u_app]
          | 4, _ => simp [am_u_app]
          | 5, _ => simp [am_u_app]
          | 6, _ => simp [am_u_app]
          | 7, _ => simp [am_u_app]
          | i + 8, hi => omega
        · rw [am_uR hx, am_uR hx, am_uR hx, am_uR hx, am_uR hx, am_uR hx, am_uR hx, am_uR hx]
      refine wp_iload (k := 42) rfl rfl ?_
      refine w_ic (k := 43) (x := nI 64) rfl (oi_nI 64) ?_
      refine w_n_ge (k := 44) (t' := 152) rfl rfl (by omega) (fun q => ?_) (fun q => absurd q (by omega))
      refine wp_aload (k := 152) rfl rfl ?_
      refine w_gr (k := 153) (s := 0) rfl rfl (by first | assumption | rfl) (by first | assumption | rfl) ?_
      refine w_ic (k := 154) (x := nI 0) rfl (oi_nI 0) ?_
      refine wp_dup2 (k := 155) rfl rfl rfl ?_
      refine w_iald (k := 156) rfl rfl (by first | assumption | rfl) (by omega) (hs 0 (by decide)) ?_
      refine wp_iload (k := 157) rfl rfl ?_
      refine wp_iadd (k := 158) rfl ?_
      refine w_iast (k := 159) rfl rfl (by omega) (by first | assumption | rfl) (by omega) ?_
      refine wp_aload (k := 160) rfl rfl ?_
      refine w_gr (k := 161) (s := 0) rfl rfl (by first | assumption | rfl) (by first | assumption | rfl) ?_
      refine w_ic (k := 162) (x := nI 1) rfl (oi_nI 1) ?_
      refine wp_dup2 (k := 163) rfl rfl rfl ?_
      refine w_iald (k := 164) rfl rfl (by first | assumption | rfl) (by omega) (am_uw (by decide) (hs 1 (by decide))) ?_
      refine wp_iload (k := 165) rfl rfl ?_
      refine wp_iadd (k := 166) rfl ?_
      refine w_iast (k := 167) rfl rfl (by omega) (by first | assumption | rfl) (by omega) ?_
      refine wp_aload (k := 168) rfl rfl ?_
      refine w_gr (k := 169) (s := 0) rfl rfl (by first | assumption | rfl) (by first | assumption | rfl) ?_
      refine w_ic (k := 170) (x := nI 2) rfl (oi_nI 2) ?_
      refine wp_dup2 (k := 171) rfl rfl rfl ?_
      refine w_iald (k := 172) rfl rfl (by first | assumption | rfl) (by omega) (am_uw (by decide) (am_uw (by decide) (hs 2 (by decide)))) ?_
      refine wp_iload (k := 173) rfl rfl ?_
      refine wp_iadd (k := 174) rfl ?_
      refine w_iast (k := 175) rfl rfl (by omega) (by first | assumption | rfl) (by omega) ?_
      refine wp_aload (k := 176) rfl rfl ?_
      refine w_gr (k := 177) (s := 0) rfl rfl (by first | assumption | rfl) (by first | assumption | rfl) ?_
      refine w_ic (k := 178) (x := nI 3) rfl (oi_nI 3) ?_
      refine wp_dup2 (k := 179) rfl rfl rfl ?_
      refine w_iald (k := 180) rfl rfl (by first | assumption | rfl) (by omega) (am_uw (by decide) (am_uw (by decide) (am_uw (by decide) (hs 3 (by decide))))) ?_
      refine wp_iload (k := 181) rfl rfl ?_
      refine wp_iadd (k := 182) rfl ?_
      refine w_iast (k := 183) rfl rfl (by omega) (by first | assumption | rfl) (by omega) ?_
      refine wp_aload (k := 184) rfl rfl ?_
      refine w_gr (k := 185) (s := 0) rfl rfl (by first | assumption | rfl) (by first | assumption | rfl) ?_
      refine w_ic (k := 186) (x := nI 4) rfl (oi_nI 4) ?_
      refine wp_dup2 (k := 187) rfl rfl rfl ?_
      refine w_iald (k := 188) rfl rfl (by first | assumption | rfl) (by omega) (am_uw (by decide) (am_uw (by decide) (am_uw (by decide) (am_uw (by decide) (hs 4 (by decide)))))) ?_
      refine wp_iload (k := 189) rfl rfl ?_
      refine wp_iadd (k := 190) rfl ?_
      refine w_iast (k := 191) rfl rfl (by omega) (by first | assumption | rfl) (by omega) ?_
      refine wp_aload (k := 192) rfl rfl ?_
      refine w_gr (k := 193) (s := 0) rfl rfl (by first | assumption | rfl) (by first | assumption | rfl) ?_
      refine w_ic (k := 194) (x := nI 5) rfl (oi_nI 5) ?_
      refine wp_dup2 (k := 195) rfl rfl rfl ?_
      refine w_iald (k := 196) rfl rfl (by first | assumption | rfl) (by omega) (am_uw (by decide) (am_uw (by decide) (am_uw (by decide) (am_uw (by decide) (am_uw (by decide) (hs 5 (by decide))))))) ?_
      refine wp_iload (k := 197) rfl rfl ?_
      refine wp_iadd (k := 198) rfl ?_
      refine w_iast (k := 199) rfl rfl (by omega) (by first | assumption | rfl) (by omega) ?_
      refine wp_aload (k := 200) rfl rfl ?_
      refine w_gr (k := 201) (s := 0) rfl rfl (by first | assumption | rfl) (by first | assumption | rfl) ?_
      refine w_ic (k := 202) (x := nI 6) rfl (oi_nI 6) ?_
      refine wp_dup2 (k := 203) rfl rfl rfl ?_
      refine w_iald (k := 204) rfl rfl (by first | assumption | rfl) (by omega) (am_uw (by decide) (am_uw (by decide) (am_uw (by decide) (am_uw (by decide) (am_uw (by decide) (am_uw (by decide) (hs 6 (by decide)))))))) ?_
      refine wp_iload (k := 205) rfl rfl ?_
      refine wp_iadd (k := 206) rfl ?_
      refine w_iast (k := 207) rfl rfl (by omega) (by first | assumption | rfl) (by omega) ?_
      refine wp_aload (k := 208) rfl rfl ?_
      refine w_gr (k := 209) (s := 0) rfl rfl (by first | assumption | rfl) (by first | assumption | rfl) ?_
      refine w_ic (k := 210) (x := nI 7) rfl (oi_nI 7) ?_
      refine wp_dup2 (k := 211) rfl rfl rfl ?_
      refine w_iald (k := 212) rfl rfl (by first | assumption | rfl) (by omega) (am_uw (by decide) (am_uw (by decide) (am_uw (by decide) (am_uw (by decide) (am_uw (by decide) (am_uw (by decide) (am_uw (by decide) (hs 7 (by decide))))))))) ?_
      refine wp_iload (k := 213) rfl rfl ?_
      refine wp_iadd (k := 214) rfl ?_
      refine w_iast (k := 215) rfl rfl (by omega) (by first | assumption | rfl) (by omega) ?_
      refine w_rv (k := 216) rfl rfl rfl rfl ?_
      exact key _ rfl
    | succ r ih =>
      intro n o1 o2 o3 o4 hn
      refine wp_iload (k := 42) rfl rfl ?_
      refine w_ic (k := 43) (x := nI 64) rfl (oi_nI 64) ?_
      refine w_n_ge (k := 44) (t' := 152) rfl rfl (by omega) (fun q => absurd q (by omega)) (fun q => ?_)
      refine wp_iload (k := 45) rfl rfl ?_
      refine w_ic (k := 46) (x := nI 6) rfl (oi_nI 6) ?_
      refine wp_iushr (k := 47) rfl ?_
      refine wp_iload (k := 48) rfl rfl ?_
      refine w_ic (k := 49) (x := nI 26) rfl (oi_nI 26) ?_
      refine wp_ishl (k := 50) rfl ?_
      refine wp_ior (k := 51) rfl ?_
      refine wp_iload (k := 52) rfl rfl ?_
      refine w_ic (k := 53) (x := nI 11) rfl (oi_nI 11) ?_
      refine wp_iushr (k := 54) rfl ?_
      refine wp_iload (k := 55) rfl rfl ?_
      refine w_ic (k := 56) (x := nI 21) rfl (oi_nI 21) ?_
      refine wp_ishl (k := 57) rfl ?_
      refine wp_ior (k := 58) rfl ?_
      refine wp_ixor (k := 59) rfl ?_
      refine wp_iload (k := 60) rfl rfl ?_
      refine w_ic (k := 61) (x := nI 25) rfl (oi_nI 25) ?_
      refine wp_iushr (k := 62) rfl ?_
      refine wp_iload (k := 63) rfl rfl ?_
      refine w_ic (k := 64) (x := nI 7) rfl (oi_nI 7) ?_
      refine wp_ishl (k := 65) rfl ?_
      refine wp_ior (k := 66) rfl ?_
      refine wp_ixor (k := 67) rfl ?_
      refine wp_istore (k := 68) (ls2 := [some _, some _, some _, some _, some _, some _, some _, some _, some _, some _, some _, _, _, _]) rfl rfl ?_
      refine wp_iload (k := 69) rfl rfl ?_
      refine w_ic (k := 70) (x := nI 2) rfl (oi_nI 2) ?_
      refine wp_iushr (k := 71) rfl ?_
      refine wp_iload (k := 72) rfl rfl ?_
      refine w_ic (k := 73) (x := nI 30) rfl (oi_nI 30) ?_
      refine wp_ishl (k := 74) rfl ?_
      refine wp_ior (k := 75) rfl ?_
      refine wp_iload (k := 76) rfl rfl ?_
      refine w_ic (k := 77) (x := nI 13) rfl (oi_nI 13) ?_
      refine wp_iushr (k := 78) rfl ?_
      refine wp_iload (k := 79) rfl rfl ?_
      refine w_ic (k := 80) (x := nI 19) rfl (oi_nI 19) ?_
      refine wp_ishl (k := 81) rfl ?_
      refine wp_ior (k := 82) rfl ?_
      refine wp_ixor (k := 83) rfl ?_
      refine wp_iload (k := 84) rfl rfl ?_
      refine w_ic (k := 85) (x := nI 22) rfl (oi_nI 22) ?_
      refine wp_iushr (k := 86) rfl ?_
      refine wp_iload (k := 87) rfl rfl ?_
      refine w_ic (k := 88) (x := nI 10) rfl (oi_nI 10) ?_
      refine wp_ishl (k := 89) rfl ?_
      refine wp_ior (k := 90) rfl ?_
      refine wp_ixor (k := 91) rfl ?_
      refine wp_istore (k := 92) (ls2 := [some _, some _, some _, some _, some _, some _, some _, some _, some _, some _, some _, some _, _, _]) rfl rfl ?_
      refine wp_iload (k := 93) rfl rfl ?_
      refine wp_iload (k := 94) rfl rfl ?_
      refine wp_iadd (k := 95) rfl ?_
      refine wp_iload (k := 96) rfl rfl ?_
      refine wp_iload (k := 97) rfl rfl ?_
      refine wp_iand (k := 98) rfl ?_
      refine wp_iload (k := 99) rfl rfl ?_
      refine w_ic (k := 100) (x := (-1)) rfl (by decide) ?_
      refine wp_ixor (k := 101) rfl ?_
      refine wp_iload (k := 102) rfl rfl ?_
      refine wp_iand (k := 103) rfl ?_
      refine wp_ixor (k := 104) rfl ?_
      refine wp_iadd (k := 105) rfl ?_
      refine wp_gets (k := 106) rfl ?_
      refine wp_iload (k := 107) rfl rfl ?_
      refine w_iald (k := 108) rfl rfl (by first | assumption | rfl) (by omega) (hst.2.1 n (by omega)) ?_
      refine wp_iadd (k := 109) rfl ?_
      refine wp_aload (k := 110) rfl rfl ?_
      refine w_gr (k := 111) (s := 1) rfl rfl (by first | assumption | rfl) (by first | assumption | rfl) ?_
      refine wp_iload (k := 112) rfl rfl ?_
      refine w_iald (k := 113) rfl rfl (by first | assumption | rfl) (by omega) (hW n (by omega)) ?_
      refine wp_iadd (k := 114) rfl ?_
      refine w_eqi (y := (sone (rd W s n) (kR n) (W n))) rfl ?_
      refine wp_istore (k := 115) (ls2 := [some _, some _, some _, some _, some _, some _, some _, some _, some _, some _, some _, some _, some _, _]) rfl rfl ?_
      refine wp_iload (k := 116) rfl rfl ?_
      refine wp_iload (k := 117) rfl rfl ?_
      refine wp_iload (k := 118) rfl rfl ?_
      refine wp_iand (k := 119) rfl ?_
      refine wp_iload (k := 120) rfl rfl ?_
      refine wp_iload (k := 121) rfl rfl ?_
      refine wp_iand (k := 122) rfl ?_
      refine wp_ixor (k := 123) rfl ?_
      refine wp_iload (k := 124) rfl rfl ?_
      refine wp_iload (k := 125) rfl rfl ?_
      refine wp_iand (k := 126) rfl ?_
      refine wp_ixor (k := 127) rfl ?_
      refine wp_iadd (k := 128) rfl ?_
      refine w_eqi (y := (stwo (rd W s n))) rfl ?_
      refine wp_istore (k := 129) (ls2 := [some _, some _, some _, some _, some _, some _, some _, some _, some _, some _, some _, some _, some _, some _]) rfl rfl ?_
      refine wp_iload (k := 130) rfl rfl ?_
      refine wp_istore (k := 131) (ls2 := [some _, some _, some _, some _, some _, some _, some _, some _, some _, some _, some _, some _, some _, some _]) rfl rfl ?_
      refine wp_iload (k := 132) rfl rfl ?_
      refine wp_istore (k := 133) (ls2 := [some _, some _, some _, some _, some _, some _, some _, some _, some _, some _, some _, some _, some _, some _]) rfl rfl ?_
      refine wp_iload (k := 134) rfl rfl ?_
      refine wp_istore (k := 135) (ls2 := [some _, some _, some _, some _, some _, some _, some _, some _, some _, some _, some _, some _, some _, some _]) rfl rfl ?_
      refine wp_iload (k := 136) rfl rfl ?_
      refine wp_iload (k := 137) rfl rfl ?_
      refine wp_iadd (k := 138) rfl ?_
      refine wp_istore (k := 139) (ls2 := [some _, some _, some _, some _, some _, some _, some _, some _, some _, some _, some _, some _, some _, some _]) rfl rfl ?_
      refine wp_iload (k := 140) rfl rfl ?_
      refine wp_istore (k := 141) (ls2 := [some _, some _, some _, some _, some _, some _, some _, some _, some _, some _, some _, some _, some _, some _]) rfl rfl ?_
      refine wp_iload (k := 142) rfl rfl ?_
      refine wp_istore (k := 143) (ls2 := [some _, some _, some _, some _, some _, some _, some _, some _, some _, some _, some _, some _, some _, some _]) rfl rfl ?_
      refine wp_iload (k := 144) rfl rfl ?_
      refine wp_istore (k := 145) (ls2 := [some _, some _, some _, some _, some _, some _, some _, some _, some _, some _, some _, some _, some _, some _]) rfl rfl ?_
      refine wp_iload (k := 146) rfl rfl ?_
      refine wp_iload (k := 147) rfl rfl ?_
      refine wp_iadd (k := 148) rfl ?_
      refine wp_istore (k := 149) (ls2 := [some _, some _, some _, some _, some _, some _, some _, some _, some _, some _, some _, some _, some _, some _]) rfl rfl ?_
      refine w_incN (k := 150) (m := 1) rfl (oi_nI 1) rfl ?_
      refine w_ls (ls2 := [some _, some _, some _, some _, some _, some _, some _, some _, some _, some _, some _, some _, some _, some _]) rfl ?_
      refine w_goto (k := 151) (t' := 42) rfl rfl ?_
      exact ih (n + 1) _ _ _ _ (by omega)
  refine am_enter (ls := [some _, none, none, none, none, none, none, none, none, none, none, none, none, none]) (cs := am_c122) rfl rfl (Nat.le_of_ble_eq_true rfl) rfl ?_
  refine wp_aload (k := 0) rfl rfl ?_
  refine w_gr (k := 1) (s := 0) rfl rfl (by first | assumption | rfl) (by first | assumption | rfl) ?_
  refine w_ic (k := 2) (x := nI 0) rfl (oi_nI 0) ?_
  refine w_iald (k := 3) rfl rfl (by first | assumption | rfl) (by omega) (hs 0 (by decide)) ?_
  refine wp_istore (k := 4) (ls2 := [some _, some _, none, none, none, none, none, none, none, none, none, none, none, none]) rfl rfl ?_
  refine wp_aload (k := 5) rfl rfl ?_
  refine w_gr (k := 6) (s := 0) rfl rfl (by first | assumption | rfl) (by first | assumption | rfl) ?_
  refine w_ic (k := 7) (x := nI 1) rfl (oi_nI 1) ?_
  refine w_iald (k := 8) rfl rfl (by first | assumption | rfl) (by omega) (hs 1 (by decide)) ?_
  refine wp_istore (k := 9) (ls2 := [some _, some _, some _, none, none, none, none, none, none, none, none, none, none, none]) rfl rfl ?_
  refine wp_aload (k := 10) rfl rfl ?_
  refine w_gr (k := 11) (s := 0) rfl rfl (by first | assumption | rfl) (by first | assumption | rfl) ?_
  refine w_ic (k := 12) (x := nI 2) rfl (oi_nI 2) ?_
  refine w_iald (k := 13) rfl rfl (by first | assumption | rfl) (by omega) (hs 2 (by decide)) ?_
  refine wp_istore (k := 14) (ls2 := [some _, some _, some _, some _, none, none, none, none, none, none, none, none, none, none]) rfl rfl ?_
  refine wp_aload (k := 15) rfl rfl ?_
  refine w_gr (k := 16) (s := 0) rfl rfl (by first | assumption | rfl) (by first | assumption | rfl) ?_
  refine w_ic (k := 17) (x := nI 3) rfl (oi_nI 3) ?_
  refine w_iald (k := 18) rfl rfl (by first | assumption | rfl) (by omega) (hs 3 (by decide)) ?_
  refine wp_istore (k := 19) (ls2 := [some _, some _, some _, some _, some _, none, none, none, none, none, none, none, none, none]) rfl rfl ?_
  refine wp_aload (k := 20) rfl rfl ?_
  refine w_gr (k := 21) (s := 0) rfl rfl (by first | assumption | rfl) (by first | assumption | rfl) ?_
  refine w_ic (k := 22) (x := nI 4) rfl (oi_nI 4) ?_
  refine w_iald (k := 23) rfl rfl (by first | assumption | rfl) (by omega) (hs 4 (by decide)) ?_
  refine wp_istore (k := 24) (ls2 := [some _, some _, some _, some _, some _, some _, none, none, none, none, none, none, none, none]) rfl rfl ?_
  refine wp_aload (k := 25) rfl rfl ?_
  refine w_gr (k := 26) (s := 0) rfl rfl (by first | assumption | rfl) (by first | assumption | rfl) ?_
  refine w_ic (k := 27) (x := nI 5) rfl (oi_nI 5) ?_
  refine w_iald (k := 28) rfl rfl (by first | assumption | rfl) (by omega) (hs 5 (by decide)) ?_
  refine wp_istore (k := 29) (ls2 := [some _, some _, some _, some _, some _, some _, some _, none, none, none, none, none, none, none]) rfl rfl ?_
  refine wp_aload (k := 30) rfl rfl ?_
  refine w_gr (k := 31) (s := 0) rfl rfl (by first | assumption | rfl) (by first | assumption | rfl) ?_
  refine w_ic (k := 32) (x := nI 6) rfl (oi_nI 6) ?_
  refine w_iald (k := 33) rfl rfl (by first | assumption | rfl) (by omega) (hs 6 (by decide)) ?_
  refine wp_istore (k := 34) (ls2 := [some _, some _, some _, some _, some _, some _, some _, some _, none, none, none, none, none, none]) rfl rfl ?_
  refine wp_aload (k := 35) rfl rfl ?_
  refine w_gr (k := 36) (s := 0) rfl rfl (by first | assumption | rfl) (by first | assumption | rfl) ?_
  refine w_ic (k := 37) (x := nI 7) rfl (oi_nI 7) ?_
  refine w_iald (k := 38) rfl rfl (by first | assumption | rfl) (by omega) (hs 7 (by decide)) ?_
  refine wp_istore (k := 39) (ls2 := [some _, some _, some _, some _, some _, some _, some _, some _, some _, none, none, none, none, none]) rfl rfl ?_
  refine w_ic (k := 40) (x := nI 0) rfl (oi_nI 0) ?_
  refine wp_istore (k := 41) (ls2 := [some _, some _, some _, some _, some _, some _, some _, some _, some _, some _, none, none, none, none]) rfl rfl ?_
  exact loop 64 0 none none none none rfl
end SHC
