/-! ===== the reference's arrays of bytes ===== -/
def av (I : Nat → Nat → Int32) (a : Nat) (A : List Nat) : Prop := (∀ i, i < A.length → I a i = nI (A.getD i 0)) ∧ ∀ c ∈ A, c < 256
def wr (A : List Nat) (s : Nat) (bs : List Nat) : List Nat := A.take s ++ bs ++ A.drop (s + bs.length)
theorem wr_len {A : List Nat} {s : Nat} {bs : List Nat} (h : s ≤ A.length) : (wr A s bs).length = max A.length (s + bs.length) := by
  unfold wr
  simp
  omega
theorem wr_in {A : List Nat} {s : Nat} {bs : List Nat} (h : s + bs.length ≤ A.length) : (wr A s bs).length = A.length := by
  rw [wr_len (by omega)]; omega
theorem wr_end {A bs : List Nat} : wr A A.length bs = A ++ bs := by
  unfold wr
  rw [List.take_length, List.drop_of_length_le (by omega), List.append_nil]
theorem wr_getD {A : List Nat} {s : Nat} {bs : List Nat} (h : s ≤ A.length) (i : Nat) : (wr A s bs).getD i 0 = if i < s then A.getD i 0 else if i < s + bs.length then bs.getD (i - s) 0 else A.getD i 0 := by
  unfold wr
  have ht : (A.take s).length = s := by simp; omega
  rw [List.append_assoc]
  by_cases h1 : i < s
  · rw [if_pos h1, gd_app1 (by omega), List.getD_eq_getElem?_getD, List.getElem?_take_of_lt h1, List.getD_eq_getElem?_getD]
  · rw [if_neg h1, gd_app2 (by omega), ht]
    by_cases h2 : i < s + bs.length
    · rw [if_pos h2, gd_app1 (by omega)]
    · rw [if_neg h2, gd_app2 (by omega), List.getD_eq_getElem?_getD, List.getElem?_drop, List.getD_eq_getElem?_getD]
      congr 2
      omega
theorem gd_ext {A B : List Nat} (hl : A.length = B.length) (h : ∀ i, i < A.length → A.getD i 0 = B.getD i 0) : A = B := by
  apply List.ext_getElem hl
  intro i h1 h2
  have := h i h1
  rw [List.getD_eq_getElem?_getD, List.getD_eq_getElem?_getD, List.getElem?_eq_getElem h1, List.getElem?_eq_getElem h2] at this
  exact this
theorem wr_wr {A : List Nat} {s : Nat} {xs ys : List Nat} {t : Nat} (h : s ≤ A.length) (ht : t = s + xs.length) : wr (wr A s xs) t ys = wr A s (xs ++ ys) := by
  subst ht
  have hl : s + xs.length ≤ (wr A s xs).length := by rw [wr_len h]; omega
  apply gd_ext
  · rw [wr_len hl, wr_len h, wr_len h, List.length_append]; omega
  · intro i hi
    rw [wr_getD hl, wr_getD h, wr_getD h, List.length_append]
    by_cases h1 : i < s
    · rw [if_pos (by omega), if_pos h1, if_pos h1]
    · by_cases h2 : i < s + xs.length
      · rw [if_pos h2, if_neg h1, if_pos h2, if_neg h1, if_pos (by omega), gd_app1 (by omega)]
      · rw [if_neg h2, if_neg h1, if_neg h2, if_neg h1]
        by_cases h3 : i < s + xs.length + ys.length
        · rw [if_pos h3, if_pos (by omega), gd_app2 (by omega)]
          congr 1
          omega
        · rw [if_neg h3, if_neg (by omega)]
theorem wr_nil {A : List Nat} {s : Nat} : wr A s [] = A := by
  unfold wr
  simp
theorem wr_mem {A : List Nat} {s : Nat} {bs : List Nat} (hA : ∀ c ∈ A, c < 256) (hb : ∀ c ∈ bs, c < 256) : ∀ c ∈ wr A s bs, c < 256 := by
  intro c hc
  unfold wr at hc
  rcases List.mem_append.mp hc with q | q
  · rcases List.mem_append.mp q with q | q
    · exact hA c (List.mem_of_mem_take q)
    · exact hb c q
  · exact hA c (List.mem_of_mem_drop q)
theorem av_w1 {I : Nat → Nat → Int32} {a s c : Nat} {A : List Nat} (hA : av I a A) (hs : s ≤ A.length) (hc : c < 256) : av (am_u I a s (nI c)) a (wr A s [c]) := by
  refine ⟨fun i hi => ?_, wr_mem hA.2 (by simp; exact hc)⟩
  rw [wr_len hs] at hi
  rw [am_u_app, wr_getD hs]
  by_cases e : i = s
  · subst e
    rw [if_pos ⟨rfl, rfl⟩, if_neg (by omega), if_pos (by simp)]
    simp
  · rw [if_neg (fun q => e q.2)]
    simp only [List.length_cons, List.length_nil] at hi
    by_cases h1 : i < s
    · rw [if_pos h1]; exact hA.1 i (by omega)
    · rw [if_neg h1, if_neg (by simp; omega)]; exact hA.1 i (by omega)
theorem av_keep {I I' : Nat → Nat → Int32} {a : Nat} {A : List Nat} (h : av I a A) (e : I' a = I a) : av I' a A := ⟨fun i hi => by rw [e]; exact h.1 i hi, h.2⟩
theorem av_take {I : Nat → Nat → Int32} {a n : Nat} {A : List Nat} (h : av I a A) : av I a (A.take n) := by
  refine ⟨fun i hi => ?_, fun c hc => h.2 c (List.mem_of_mem_take hc)⟩
  simp at hi
  rw [h.1 i (by omega), List.getD_eq_getElem?_getD, List.getD_eq_getElem?_getD, List.getElem?_take_of_lt (show i < n by omega)]
theorem be2 (m : Nat) : be 2 m = [m / 256 % 256, m % 256] := by simp [be]
theorem be4 (m : Nat) : be 4 m = be 2 (m / 65536) ++ be 2 m := by
  rw [be2, be2]
  simp [be, Nat.div_div_eq_div_mul]
theorem be1 (m : Nat) : be 1 m = [m % 256] := by simp [be]
theorem be_mod : ∀ (w m n : Nat), w ≤ n → be w (m % 256 ^ n) = be w m
  | 0, _, _, _ => rfl
  | w + 1, m, n, h => by
    rw [be, be, be_mod w m n (by omega)]
    congr 1
    obtain ⟨j, rfl⟩ : ∃ j, n = w + 1 + j := ⟨n - (w + 1), by omega⟩
    rw [show 256 ^ (w + 1 + j) = 256 ^ w * (256 * 256 ^ j) by rw [Nat.pow_add, Nat.pow_succ, Nat.mul_assoc], Nat.mod_mul_right_div_self, Nat.mod_mul_right_mod]
theorem be_i {w : Nat} (x : Int32) (h : w ≤ 4) : be w (uN x.toInt64) = be w (uI x) := by
  rw [← uN_i x, ← be_mod w (uN x.toInt64) 4 h]
section MB
variable {d : Nat} {sh : List (Nat × Nat)} {I : Nat → Nat → Int32} {L : Nat → Nat → Int64} {R : Nat → Nat → Option Nat} {Q : am_Q} {a n s : Nat} {A : List Nat}
theorem c_166 {v lo hi : Int64} (hq : Q (some (.int (bI (decide (lo ≤ v ∧ v ≤ hi))))) (sh, I, L, R)) : am_call (d + 1) 166 [.long v, .long lo, .long hi] (sh, I, L, R) Q := by
  refine am_enter (ls := [some _, none, some _, none, some _, none]) (cs := am_c166) rfl rfl (Nat.le_of_ble_eq_true rfl) rfl ?_
  refine wp_lload (k := 0) rfl rfl ?_
  refine wp_lload (k := 1) rfl rfl ?_
  refine w_L_lt (k := 2) (t' := 10) rfl rfl rfl (fun c1 => ?_) (fun c1 => ?_)
  · refine w_ic (k := 10) (x := bI false) rfl rfl ?_
    refine w_rz (k := 11) rfl rfl rfl ?_
    rw [decide_eq_false (fun q => absurd c1 (Int64.not_lt.mpr q.1))] at hq
    exact hq
  · refine wp_lload (k := 4) rfl rfl ?_
    refine wp_lload (k := 5) rfl rfl ?_
    refine w_L_gt (k := 6) (t' := 10) rfl rfl rfl (fun c2 => ?_) (fun c2 => ?_)
    · refine w_ic (k := 10) (x := bI false) rfl rfl ?_
      refine w_rz (k := 11) rfl rfl rfl ?_
      rw [decide_eq_false (fun q => absurd c2 (Int64.not_lt.mpr q.2))] at hq
      exact hq
    · refine w_ic (k := 8) (x := bI true) rfl rfl ?_
      refine w_goto (k := 9) (t' := 11) rfl rfl ?_
      refine w_rz (k := 11) rfl rfl rfl ?_
      rw [decide_eq_true ⟨Int64.not_lt.mp c1, Int64.not_lt.mp c2⟩] at hq
      exact hq
theorem c_179 (ha : sh[a]? = some (50, n)) (hn : n < 1000) (hA : av I a A) (hs : s + 2 ≤ A.length) (hl : A.length ≤ n) (hq : Q (some (.int (nI (nb A s 2)))) (sh, I, L, R)) : am_call (d + 1) 179 [.ref a, .int (nI s)] (sh, I, L, R) Q := by
  have h1 := gd_lt hA.2 s
  have h2 := gd_lt hA.2 (s + 1)
  refine am_enter (ls := [some _, some _]) (cs := am_c179) rfl rfl (Nat.le_of_ble_eq_true rfl) rfl ?_
  refine wp_aload (k := 0) rfl rfl ?_
  refine wp_iload (k := 1) rfl rfl ?_
  refine w_iald (k := 2) rfl rfl (by first | assumption | rfl) (by omega) (hA.1 s (by omega)) ?_
  refine w_ic (k := 3) (x := nI 8) rfl (oi_nI 8) ?_
  refine wp_ishl (k := 4) rfl ?_
  refine wp_aload (k := 5) rfl rfl ?_
  refine wp_iload (k := 6) rfl rfl ?_
  refine w_ic (k := 7) (x := nI 1) rfl (oi_nI 1) ?_
  refine w_addN (k := 8) rfl ?_
  refine w_iald (k := 9) rfl rfl (by first | assumption | rfl) (by omega) (hA.1 (s + 1) (by omega)) ?_
  refine wp_ior (k := 10) rfl ?_
  have e : nI (A.getD s 0) <<< (nI 8 &&& 31) ||| nI (A.getD (s + 1) 0) = nI (nb A s 2) := by
    rw [i_shl (by decide) (by omega), i_or (by omega)]
    simp [nb]
  rw [e]
  refine w_ri (k := 11) rfl rfl rfl rfl ?_
  exact hq
theorem nb_add (A : List Nat) (s w : Nat) : ∀ v, nb A s (w + v) = nb A s w * 256 ^ v + nb A (s + w) v
  | 0 => by simp [nb]
  | v + 1 => by
    rw [← Nat.add_assoc, nb, nb_add A s w v, nb, Nat.pow_succ, Nat.add_mul, Nat.add_assoc, Nat.mul_assoc, Nat.add_assoc]
theorem c_180 (ha : sh[a]? = some (50, n)) (hn : n < 1000) (hA : av I a A) (hs : s + 4 ≤ A.length) (hl : A.length ≤ n) (hq : Q (some (.int (nI (nb A s 4)))) (sh, I, L, R)) : am_call (d + 2) 180 [.ref a, .int (nI s)] (sh, I, L, R) Q := by
  have h1 := nb_lt hA.2 s 2
  have h2 := nb_lt hA.2 (s + 2) 2
  refine am_enter (ls := [some _, some _]) (cs := am_c180) rfl rfl (Nat.le_of_ble_eq_true rfl) rfl ?_
  refine wp_aload (k := 0) rfl rfl ?_
  refine wp_iload (k := 1) rfl rfl ?_
  refine w_Si (k := 2) [_, _] rfl rfl rfl (Nat.le_of_ble_eq_true rfl) (Or.inl ⟨rfl, rfl⟩) ?_
  refine (c_179 ha hn hA (by omega) hl ?_)
  refine ⟨_, rfl, ?_⟩
  refine w_ic (k := 3) (x := nI 16) rfl (oi_nI 16) ?_
  refine wp_ishl (k := 4) rfl ?_
  refine wp_aload (k := 5) rfl rfl ?_
  refine wp_iload (k := 6) rfl rfl ?_
  refine w_ic (k := 7) (x := nI 2) rfl (oi_nI 2) ?_
  refine w_addN (k := 8) rfl ?_
  refine w_Si (k := 9) [_, _] rfl rfl rfl (Nat.le_of_ble_eq_true rfl) (Or.inl ⟨rfl, rfl⟩) ?_
  refine (c_179 ha hn hA (by omega) hl ?_)
  refine ⟨_, rfl, ?_⟩
  refine wp_ior (k := 10) rfl ?_
  have e : nI (nb A s 2) <<< (nI 16 &&& 31) ||| nI (nb A (s + 2) 2) = nI (nb A s 4) := by
    rw [i_shl (by decide) (by omega), i_or (by omega), nb_add A s 2 2]
  rw [e]
  refine w_ri (k := 11) rfl rfl rfl rfl ?_
  exact hq
theorem c_181 (ha : sh[a]? = some (50, n)) (h4 : 4 ≤ a) (hn : n < 1000) (hA : av I a A) (hs : s ≤ A.length) (hl : s + 2 ≤ n) {v : Int32} (hq : ∀ I', av I' a (wr A s (be 2 (uI v))) → (∀ x, x ≠ a → I' x = I x) → Q none (sh, I', L, R)) : am_call (d + 1) 181 [.ref a, .int (nI s), .int v] (sh, I, L, R) Q := by
  refine am_enter (ls := [some _, some _, some _]) (cs := am_c181) rfl rfl (Nat.le_of_ble_eq_true rfl) rfl ?_
  refine wp_aload (k := 0) rfl rfl ?_
  refine wp_iload (k := 1) rfl rfl ?_
  refine wp_iload (k := 2) rfl rfl ?_
  refine w_ic (k := 3) (x := nI 8) rfl (oi_nI 8) ?_
  refine wp_ishr (k := 4) rfl ?_
  refine w_ic (k := 5) (x := nI 255) rfl (oi_nI 255) ?_
  refine wp_iand (k := 6) rfl ?_
  rw [i_sb v (n := 8) (by decide)]
  refine w_iast (k := 7) rfl rfl (by omega) (by first | assumption | rfl) (by omega) ?_
  refine wp_aload (k := 8) rfl rfl ?_
  refine wp_iload (k := 9) rfl rfl ?_
  refine w_ic (k := 10) (x := nI 1) rfl (oi_nI 1) ?_
  refine w_addN (k := 11) rfl ?_
  refine wp_iload (k := 12) rfl rfl ?_
  refine w_ic (k := 13) (x := nI 255) rfl (oi_nI 255) ?_
  refine wp_iand (k := 14) rfl ?_
  rw [i_b0]
  refine w_iast (k := 15) rfl rfl (by omega) (by first | assumption | rfl) (by omega) ?_
  refine w_rv (k := 16) rfl rfl rfl rfl ?_
  have h1 := av_w1 hA hs (c := uI v / 2 ^ 8 % 256) (Nat.mod_lt _ (by decide))
  have h2 := av_w1 h1 (s := s + 1) (by rw [wr_len hs]; simp; omega) (c := uI v % 256) (Nat.mod_lt _ (by decide))
  rw [wr_wr hs (by simp)] at h2
  refine hq _ (by rw [be2]; exact h2) (fun x hx => by rw [am_uR hx, am_uR hx])
theorem c_182 (ha : sh[a]? = some (50, n)) (h4 : 4 ≤ a) (hn : n < 1000) (hA : av I a A) (hs : s ≤ A.length) (hl : s + 4 ≤ n) {v : Int32} (hq : ∀ I', av I' a (wr A s (be 4 (uI v))) → (∀ x, x ≠ a → I' x = I x) → Q none (sh, I', L, R)) : am_call (d + 2) 182 [.ref a, .int (nI s), .int v] (sh, I, L, R) Q := by
  have e : be 2 (uI (v >>> (nI 16 &&& 31))) = be 2 (uI v / 65536) := by
    rw [be2, be2]
    have h1 := i_sb (v >>> (nI 16 &&& 31)) (n := 8) (by decide)
    have h0 := i_b0 (v >>> (nI 16 &&& 31))
    have g0 := i_sb v (n := 16) (by decide)
    have e0 : uI (v >>> (nI 16 &&& 31)) % 256 = uI v / 65536 % 256 := by
      have := congrArg uI (h0.symm.trans g0)
      rwa [uI_nI (by omega), uI_nI (by omega)] at this
    have g1 := i_sb v (n := 24) (by decide)
    have g2 : ((v >>> (nI 16 &&& 31)) >>> (nI 8 &&& 31)) &&& nI 255 = (v >>> (nI 24 &&& 31)) &&& nI 255 := by
      apply b_ext
      intro i hi
      rw [b_and, b_and, bt_nI _ _ hi, b_sshr 8 (by decide) _ hi, b_sshr 24 (by decide) _ hi, show (255 : Nat) = 2 ^ 8 - 1 from rfl, Nat.testBit_two_pow_sub_one]
      by_cases h8 : i < 8
      · rw [if_pos (by omega), b_sshr 16 (by decide) _ (by omega), if_pos (by omega), if_pos (by omega), show 16 + (8 + i) = 24 + i by omega]
      · simp [h8]
    have e1 : uI (v >>> (nI 16 &&& 31)) / 256 % 256 = uI v / 65536 / 256 % 256 := by
      have := congrArg uI (h1.symm.trans (g2.trans g1))
      rw [uI_nI (by omega), uI_nI (by omega)] at this
      rw [Nat.div_div_eq_div_mul]
      exact this
    rw [e0, e1]
  refine am_enter (ls := [some _, some _, some _]) (cs := am_c182) rfl rfl (Nat.le_of_ble_eq_true rfl) rfl ?_
  refine wp_aload (k := 0) rfl rfl ?_
  refine wp_iload (k := 1) rfl rfl ?_
  refine wp_iload (k := 2) rfl rfl ?_
  refine w_ic (k := 3) (x := nI 16) rfl (oi_nI 16) ?_
  refine wp_ishr (k := 4) rfl ?_
  refine w_Sv (k := 5) [_, _, _] rfl rfl rfl (Nat.le_of_ble_eq_true rfl) (Or.inl ⟨rfl, rfl⟩) ?_
  refine (c_181 ha h4 hn hA hs (by omega) (fun I1 k1 f1 => ⟨rfl, ?_⟩))
  refine wp_aload (k := 6) rfl rfl ?_
  refine wp_iload (k := 7) rfl rfl ?_
  refine w_ic (k := 8) (x := nI 2) rfl (oi_nI 2) ?_
  refine w_addN (k := 9) rfl ?_
  refine wp_iload (k := 10) rfl rfl ?_
  refine w_Sv (k := 11) [_, _, _] rfl rfl rfl (Nat.le_of_ble_eq_true rfl) (Or.inl ⟨rfl, rfl⟩) ?_
  refine (c_181 ha h4 hn k1 (by rw [wr_len hs, be_len]; omega) (by omega) (fun I2 k2 f2 => ⟨rfl, ?_⟩))
  refine w_rv (k := 12) rfl rfl rfl rfl ?_
  rw [wr_wr hs (by rw [be_len]), e, ← be4] at k2
  exact hq I2 k2 (fun x hx => by rw [f2 x hx, f1 x hx])
theorem c_192 (ha : sh[a]? = some (50, n)) (h4 : 4 ≤ a) (hn : n < 1000) (hA : av I a A) (hs : s ≤ A.length) (hl : s + 8 ≤ n) {ip port : Int32} (hq : ∀ I', av I' a (wr A s (be 2 1 ++ be 2 (uI (port ^^^ nI 8466)) ++ be 4 (uI (ip ^^^ nI 554869826)))) → (∀ x, x ≠ a → I' x = I x) → Q none (sh, I', L, R)) : am_call (d + 3) 192 [.ref a, .int (nI s), .int ip, .int port] (sh, I, L, R) Q := by
  refine am_enter (ls := [some _, some _, some _, some _]) (cs := am_c192) rfl rfl (Nat.le_of_ble_eq_true rfl) rfl ?_
  refine wp_aload (k := 0) rfl rfl ?_
  refine wp_iload (k := 1) rfl rfl ?_
  refine w_ic (k := 2) (x := nI 0) rfl (oi_nI 0) ?_
  refine w_iast (k := 3) rfl rfl (by omega) (by first | assumption | rfl) (by omega) ?_
  refine wp_aload (k := 4) rfl rfl ?_
  refine wp_iload (k := 5) rfl rfl ?_
  refine w_ic (k := 6) (x := nI 1) rfl (oi_nI 1) ?_
  refine w_addN (k := 7) rfl ?_
  refine w_ic (k := 8) (x := nI 1) rfl (oi_nI 1) ?_
  refine w_iast (k := 9) rfl rfl (by omega) (by first | assumption | rfl) (by omega) ?_
  refine wp_aload (k := 10) rfl rfl ?_
  refine wp_iload (k := 11) rfl rfl ?_
  refine w_ic (k := 12) (x := nI 2) rfl (oi_nI 2) ?_
  have h1 := av_w1 hA hs (c := 0) (by decide)
  have h2 := av_w1 h1 (s := s + 1) (by rw [wr_len hs]; simp; omega) (c := 1) (by decide)
  rw [wr_wr hs (by simp), show [0] ++ [1] = be 2 1 by decide] at h2
  refine w_addN (k := 13) rfl ?_
  refine wp_iload (k := 14) rfl rfl ?_
  refine w_ic (k := 15) (x := nI 8466) rfl (oi_nI 8466) ?_
  refine wp_ixor (k := 16) rfl ?_
  refine w_Sv (k := 17) [_, _, _] rfl rfl rfl (Nat.le_of_ble_eq_true rfl) (Or.inl ⟨rfl, rfl⟩) ?_
  refine (c_181 ha h4 hn h2 (by rw [wr_len hs, be_len]; omega) (by omega) (fun I1 k1 f1 => ⟨rfl, ?_⟩))
  rw [wr_wr hs (by rw [be_len])] at k1
  refine wp_aload (k := 18) rfl rfl ?_
  refine wp_iload (k := 19) rfl rfl ?_
  refine w_ic (k := 20) (x := nI 4) rfl (oi_nI 4) ?_
  refine w_addN (k := 21) rfl ?_
  refine wp_iload (k := 22) rfl rfl ?_
  refine w_ic (k := 23) (x := nI 554869826) rfl (oi_nI 554869826) ?_
  refine wp_ixor (k := 24) rfl ?_
  refine w_Sv (k := 25) [_, _, _] rfl rfl rfl (Nat.le_of_ble_eq_true rfl) (Or.inl ⟨rfl, rfl⟩) ?_
  refine (c_182 ha h4 hn k1 (by rw [wr_len hs, List.length_append, be_len, be_len]; omega) (by omega) (fun I2 k2 f2 => ⟨rfl, ?_⟩))
  refine w_rv (k := 26) rfl rfl rfl rfl ?_
  rw [wr_wr hs (by rw [List.length_append, be_len, be_len])] at k2
  exact hq I2 k2 (fun x hx => by rw [f2 x hx, f1 x hx, am_uR hx, am_uR hx])
end MB
