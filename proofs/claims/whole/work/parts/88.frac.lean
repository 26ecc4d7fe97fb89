/-! ===== long numbers in nine places: times, isAbove, fraction of the reference ===== -/
def vD (D : Nat → Nat) : Nat → Nat
  | 0 => 0
  | n + 1 => vD D n + D n * 65536 ^ n
def upD (D : Nat → Nat) (j x : Nat) : Nat → Nat := fun i => if i = j then x else D i
theorem vD_cong {D E : Nat → Nat} : ∀ {n : Nat}, (∀ i, i < n → D i = E i) → vD D n = vD E n
  | 0, _ => rfl
  | n + 1, h => by rw [vD, vD, vD_cong (fun i hi => h i (by omega)), h n (by omega)]
theorem vD_upd (D : Nat → Nat) (x : Nat) {j : Nat} : ∀ {n : Nat}, j < n → vD (upD D j x) n + D j * 65536 ^ j = vD D n + x * 65536 ^ j
  | 0, h => absurd h (Nat.not_lt_zero _)
  | n + 1, h => by
    rw [vD, vD]
    by_cases c : j = n
    · subst c
      rw [vD_cong (D := upD D j x) (E := D) (fun i hi => by unfold upD; rw [if_neg (by omega)])]
      have : upD D j x j = x := by unfold upD; rw [if_pos rfl]
      rw [this]
      generalize x * 65536 ^ j = a
      generalize D j * 65536 ^ j = b
      omega
    · have ih := vD_upd D x (j := j) (n := n) (by omega)
      have : upD D j x n = D n := by unfold upD; rw [if_neg (by omega)]
      rw [this]
      generalize D n * 65536 ^ n = a
      omega
theorem vD_ge (D : Nat → Nat) {i : Nat} : ∀ {n : Nat}, i < n → D i * 65536 ^ i ≤ vD D n
  | 0, h => absurd h (Nat.not_lt_zero _)
  | n + 1, h => by
    rw [vD]
    by_cases c : i = n
    · rw [c]; exact Nat.le_add_left _ _
    · exact Nat.le_trans (vD_ge D (by omega)) (Nat.le_add_right _ _)
theorem vD_lt {D : Nat → Nat} : ∀ {n : Nat}, (∀ i, i < n → D i < 65536) → vD D n < 65536 ^ n
  | 0, _ => by show 0 < 65536 ^ 0; decide
  | n + 1, h => by
    have ih := vD_lt (D := D) (n := n) (fun i hi => h i (by omega))
    have hn := h n (by omega)
    rw [vD, Nat.pow_succ]
    have : (D n + 1) * 65536 ^ n ≤ 65536 * 65536 ^ n := Nat.mul_le_mul_right _ hn
    rw [Nat.add_mul, Nat.one_mul] at this
    rw [Nat.mul_comm (65536 ^ n) 65536]
    omega
theorem vD_lex {E G : Nat → Nat} {i : Nat} (hi : G i < E i) (hl : ∀ j, j < i → G j < 65536) : ∀ {n : Nat}, i < n → (∀ j, i < j → j < n → E j = G j) → vD G n < vD E n
  | 0, h, _ => absurd h (Nat.not_lt_zero _)
  | n + 1, h, he => by
    rw [vD, vD]
    by_cases c : i = n
    · subst c
      have h1 := vD_lt (D := G) (n := i) hl
      have h2 : (G i + 1) * 65536 ^ i ≤ E i * 65536 ^ i := Nat.mul_le_mul_right _ hi
      rw [Nat.add_mul, Nat.one_mul] at h2
      omega
    · have := vD_lex hi hl (n := n) (by omega) (fun j h1 h2 => he j h1 (by omega))
      rw [he n (by omega) (by omega)]
      omega
theorem vD_0 : ∀ n, vD (fun _ => 0) n = 0
  | 0 => rfl
  | n + 1 => by rw [vD, vD_0 n, Nat.zero_mul]
theorem lN_shr {r k : Nat} (hr : r < 2 ^ 62) (hk : k < 3) : lN r >>> ((nI (16 * k)).toInt64 &&& 63) = lN (r / 65536 ^ k) := by
  have e : 65536 ^ k = 2 ^ (16 * k) := by rw [show 65536 = 2 ^ 16 from rfl, ← Nat.pow_mul]
  rw [e]
  refine pf_shr ?_ hr
  have : k = 0 ∨ k = 1 ∨ k = 2 := by omega
  rcases this with rfl | rfl | rfl <;> decide
theorem lN_s16 {r : Nat} (hr : r < 2 ^ 62) : lN r >>> ((nI 16).toInt64 &&& 63) = lN (r / 65536) := lN_shr (k := 1) hr (by decide)
theorem lN_m16 {r : Nat} (hr : r < 2 ^ 64) : lN r &&& lN 65535 = lN (r % 65536) := wb_mask (k := 16) hr (by decide)
theorem lN_subN {a b : Nat} (h : b ≤ a) : lN a - lN b = lN (a - b) := by
  have e : lN (a - b) + lN b = lN a := by rw [l_add]; congr 1; omega
  rw [← e, Int64.add_sub_cancel]
theorem lN_half {a : Nat} (h : a < 2 ^ 60) : lN a / lN 2 = lN (a / 2) := by
  apply Int64.toInt_inj.mp
  rw [Int64.toInt_div, pf_lI (by omega), pf_lI (by omega), pf_lI (by omega)]
  rw [show ((a : Int).tdiv (2 : Nat)) = ((a / 2 : Nat) : Int) from rfl]
  exact Int.bmod_eq_of_le (by omega) (by omega)
def dg (L : Nat → Nat → Int64) (p : Nat) (D : Nat → Nat) : Prop := ∀ i, i < 9 → L p i = lN (D i)
theorem dg_u {L : Nat → Nat → Int64} {p j x : Nat} {D : Nat → Nat} (h : dg L p D) : dg (am_u L p j (lN x)) p (upD D j x) := fun i hi => by
  unfold upD
  by_cases c : i = j
  · rw [if_pos c, c, am_us]
  · rw [if_neg c, am_uw c rfl]; exact h i hi
theorem dg_k {L L' : Nat → Nat → Int64} {p : Nat} {D : Nat → Nat} (h : dg L p D) (e : L' p = L p) : dg L' p D := fun i hi => by rw [e]; exact h i hi
section FR
variable {d N : Nat} {I : Nat → Nat → Int32} {L : Nat → Nat → Int64} {w : Option Nat} {Q : am_Q} {D : Nat → Nat} {r : Nat}
theorem c_168 (h : dg L 106 D) (hD : ∀ i, i < 9 → D i < 65536) (hr : r < 65536 ^ 3) (hv : vD D 9 * r < 65536 ^ 9) (hq : ∀ L' D', dg L' 106 D' → (∀ i, i < 9 → D' i < 65536) → vD D' 9 = vD D 9 * r → (∀ x, x ≠ 106 → x ≠ 107 → L' x = L x) → Q none (am_SH N, I, L', am_RR w)) : am_call (d + 1) 168 [.ref 100, .long (lN r)] (am_SH N, I, L, am_RR w) Q := by
  have hr48 : r < 281474976710656 := hr
  -- the carries
  have carry : ∀ (f i : Nat) (L3 : Nat → Nat → Int64) (E : Nat → Nat) (o4 : Option Value), i + f = 8 → dg L3 106 E → (∀ j, j < i → E j < 65536) → E i < 2 ^ 38 → (∀ j, i < j → j < 9 → E j ≤ 27 * 2 ^ 32) → vD E 9 = vD D 9 * r → (∀ x, x ≠ 106 → x ≠ 107 → L3 x = L x) → am_V 168 am_c168 d (am_SH N) Q 62 [some (.ref 100), some (.long (lN r)), none, some (.int (nI i)), o4] [] (am_SH N, I, L3, am_RR w) := by
    intro f
    induction f with
    | zero =>
      intro i L3 E o4 hi hE h1 h2 h3 hvE fr
      obtain rfl : i = 8 := by omega
      refine wp_iload (k := 62) rfl rfl ?_
      refine w_ic (k := 63) (x := nI 8) rfl (oi_nI 8) ?_
      refine w_n_ge (k := 64) (t' := 92) rfl rfl (by omega) (fun zq => ?_) (fun zq => absurd zq (by omega))
      refine w_rv (k := 92) rfl rfl rfl rfl ?_
      refine hq L3 E hE (fun j hj => ?_) hvE fr
      by_cases c : j < 8
      · exact h1 j c
      · obtain rfl : j = 8 := by omega
        have := vD_ge E (i := 8) (n := 9) (by decide)
        rw [hvE] at this
        have h9 : E 8 * 65536 ^ 8 < 65536 * 65536 ^ 8 := Nat.lt_of_le_of_lt this (by rw [show 65536 * 65536 ^ 8 = 65536 ^ 9 from rfl]; exact hv)
        exact Nat.lt_of_mul_lt_mul_right h9
    | succ f ih =>
      intro i L3 E o4 hi hE h1 h2 h3 hvE fr
      have e1 := hE (i + 1) (by omega)
      have e0 := hE i (by omega)
      have b1 := h3 (i + 1) (by omega) (by omega)
      refine wp_iload (k := 62) rfl rfl ?_
      refine w_ic (k := 63) (x := nI 8) rfl (oi_nI 8) ?_
      refine w_n_ge (k := 64) (t' := 92) rfl rfl (by omega) (fun zq => absurd zq (by omega)) (fun zq => ?_)
      refine wp_aload (k := 65) rfl rfl ?_
      refine w_gr (k := 66) (s := 8) rfl rfl (by first | assumption | rfl) (by first | assumption | rfl) ?_
      refine wp_iload (k := 67) rfl rfl ?_
      refine w_ic (k := 68) (x := nI 1) rfl (oi_nI 1) ?_
      refine w_addN (k := 69) rfl ?_
      refine wp_dup2 (k := 70) rfl rfl rfl ?_
      refine w_lald (k := 71) rfl rfl (by first | assumption | rfl) (by omega) e1 ?_
      refine wp_aload (k := 72) rfl rfl ?_
      refine w_gr (k := 73) (s := 8) rfl rfl (by first | assumption | rfl) (by first | assumption | rfl) ?_
      refine wp_iload (k := 74) rfl rfl ?_
      refine w_lald (k := 75) rfl rfl (by first | assumption | rfl) (by omega) e0 ?_
      refine w_ic (k := 76) (x := nI 16) rfl (oi_nI 16) ?_
      refine wp_lshr (k := 77) rfl ?_
      rw [lN_s16 (by omega)]
      refine w_laddN (k := 78) rfl ?_
      refine w_last (k := 79) rfl rfl (by first | assumption | rfl) (by omega) ?_
      have g1 := dg_u (j := i + 1) (x := E (i + 1) + E i / 65536) hE
      have v0 : am_u L3 106 (i + 1) (lN (E (i + 1) + E i / 65536)) 106 i = lN (E i) := by rw [am_uw (by omega) rfl]; exact e0
      refine wp_aload (k := 80) rfl rfl ?_
      refine w_gr (k := 81) (s := 8) rfl rfl (by first | assumption | rfl) (by first | assumption | rfl) ?_
      refine wp_iload (k := 82) rfl rfl ?_
      refine wp_aload (k := 83) rfl rfl ?_
      refine w_gr (k := 84) (s := 8) rfl rfl (by first | assumption | rfl) (by first | assumption | rfl) ?_
      refine wp_iload (k := 85) rfl rfl ?_
      refine w_lald (k := 86) rfl rfl (by first | assumption | rfl) (by omega) v0 ?_
      refine w_lc (k := 87) (x := lN 65535) rfl (ol_lN 65535) ?_
      refine wp_land (k := 88) rfl ?_
      rw [lN_m16 (by omega)]
      refine w_last (k := 89) rfl rfl (by first | assumption | rfl) (by omega) ?_
      have g2 := dg_u (j := i) (x := E i % 65536) g1
      have key : vD (upD (upD E (i + 1) (E (i + 1) + E i / 65536)) i (E i % 65536)) 9 = vD D 9 * r := by
        have k1 := vD_upd E (E (i + 1) + E i / 65536) (j := i + 1) (n := 9) (by omega)
        have k2 := vD_upd (upD E (i + 1) (E (i + 1) + E i / 65536)) (E i % 65536) (j := i) (n := 9) (by omega)
        have u0 : upD E (i + 1) (E (i + 1) + E i / 65536) i = E i := by unfold upD; rw [if_neg (by omega)]
        rw [u0] at k2
        have k3 : E i * 65536 ^ i = E i % 65536 * 65536 ^ i + E i / 65536 * 65536 ^ (i + 1) := by
          conv => lhs; rw [← Nat.div_add_mod (E i) 65536]
          rw [Nat.add_mul, Nat.pow_succ, Nat.add_comm]
          congr 1
          simp only [Nat.mul_assoc, Nat.mul_comm, Nat.mul_left_comm]
        rw [Nat.add_mul] at k1
        rw [← hvE]
        generalize E i * 65536 ^ i = q1 at *
        generalize E i % 65536 * 65536 ^ i = q2 at *
        generalize E i / 65536 * 65536 ^ (i + 1) = q3 at *
        generalize E (i + 1) * 65536 ^ (i + 1) = q4 at *
        omega
      refine w_incN (k := 90) (m := 1) rfl (oi_nI 1) rfl ?_
      refine w_ls (ls2 := [some _, some _, none, some _, _]) rfl ?_
      refine w_goto (k := 91) (t' := 62) rfl rfl ?_
      refine ih (i + 1) _ _ o4 (by omega) g2 ?_ ?_ ?_ key (fun x y1 y2 => by rw [am_uR y1, am_uR y1]; exact fr x y1 y2)
      · intro j hj
        unfold upD
        by_cases c : j = i
        · rw [if_pos c]; exact Nat.mod_lt _ (by decide)
        · rw [if_neg c, if_neg (by omega)]; exact h1 j (by omega)
      · unfold upD
        rw [if_neg (by omega), if_pos rfl]
        omega
      · intro j y1 y2
        unfold upD
        rw [if_neg (by omega), if_neg (by omega)]
        exact h3 j (by omega) y2
  -- the products
  have prod : ∀ (f i : Nat) (L2 : Nat → Nat → Int64) (E : Nat → Nat) (o4 : Option Value), i + f = 9 → dg L2 107 D → dg L2 106 E → (∀ j, j < 9 → E j ≤ 3 * i * 2 ^ 32) → vD E 9 = vD D i * r → (∀ x, x ≠ 106 → x ≠ 107 → L2 x = L x) → am_V 168 am_c168 d (am_SH N) Q 22 [some (.ref 100), some (.long (lN r)), none, some (.int (nI i)), o4] [] (am_SH N, I, L2, am_RR w) := by
    intro f
    induction f with
    | zero =>
      intro i L2 E o4 hi hs hE hb hvE fr
      obtain rfl : i = 9 := by omega
      refine wp_iload (k := 22) rfl rfl ?_
      refine w_ic (k := 23) (x := nI 9) rfl (oi_nI 9) ?_
      refine w_n_ge (k := 24) (t' := 60) rfl rfl (by omega) (fun zq => ?_) (fun zq => absurd zq (by omega))
      refine w_ic (k := 60) (x := nI 0) rfl (oi_nI 0) ?_
      refine wp_istore (k := 61) (ls2 := [some _, some _, none, some _, _]) rfl rfl ?_
      exact carry 8 0 L2 E o4 rfl hE (fun j hj => absurd hj (Nat.not_lt_zero _)) (by have := hb 0 (by decide); omega) (fun j _ hj => by have := hb j hj; omega) hvE fr
    | succ f ih =>
      intro i L2 E o4 hi hs hE hb hvE fr
      have inner : ∀ (g k : Nat) (L3 : Nat → Nat → Int64) (E' : Nat → Nat), k + g = 3 → dg L3 107 D → dg L3 106 E' → (∀ j, j < 9 → E' j ≤ (3 * i + k) * 2 ^ 32) → vD E' 9 = vD D i * r + D i * 65536 ^ i * (r % 65536 ^ k) → (∀ x, x ≠ 106 → x ≠ 107 → L3 x = L x) → am_V 168 am_c168 d (am_SH N) Q 27 [some (.ref 100), some (.long (lN r)), none, some (.int (nI i)), some (.int (nI k))] [] (am_SH N, I, L3, am_RR w) := by
        intro g
        induction g with
        | zero =>
          intro k L3 E' hk hs3 hE3 hb3 hv3 fr3
          obtain rfl : k = 3 := by omega
          refine wp_iload (k := 27) rfl rfl ?_
          refine w_ic (k := 28) (x := nI 3) rfl (oi_nI 3) ?_
          refine w_n_ge (k := 29) (t' := 58) rfl rfl (by omega) (fun zq => ?_) (fun zq => absurd zq (by omega))
          refine w_incN (k := 58) (m := 1) rfl (oi_nI 1) rfl ?_
          refine w_ls (ls2 := [some _, some _, none, some _, some _]) rfl ?_
          refine w_goto (k := 59) (t' := 22) rfl rfl ?_
          refine ih (i + 1) L3 E' _ (by omega) hs3 hE3 (fun j hj => Nat.le_trans (hb3 j hj) (by omega)) ?_ fr3
          rw [hv3, Nat.mod_eq_of_lt hr, vD, Nat.add_mul]
        | succ g ihg =>
          intro k L3 E' hk hs3 hE3 hb3 hv3 fr3
          have rk : r % 65536 ^ (k + 1) = r % 65536 ^ k + 65536 ^ k * (r / 65536 ^ k % 65536) := Nat.mod_pow_succ
          have hadd : D i * 65536 ^ i * (r % 65536 ^ (k + 1)) = D i * 65536 ^ i * (r % 65536 ^ k) + D i * (r / 65536 ^ k % 65536) * 65536 ^ (i + k) := by
            rw [rk, Nat.mul_add, Nat.pow_add]
            congr 1
            simp only [Nat.mul_assoc, Nat.mul_comm, Nat.mul_left_comm]
          by_cases c : i + k < 9
          · have e1 := hE3 (i + k) c
            have e2 := hs3 i (by omega)
            have hDi := hD i (by omega)
            have hrd : r / 65536 ^ k % 65536 < 65536 := Nat.mod_lt _ (by decide)
            have hpr : D i * (r / 65536 ^ k % 65536) ≤ 65535 * 65535 := Nat.mul_le_mul (by omega) (by omega)
            have hrs : r / 65536 ^ k ≤ r := Nat.div_le_self _ _
            refine wp_iload (k := 27) rfl rfl ?_
            refine w_ic (k := 28) (x := nI 3) rfl (oi_nI 3) ?_
            refine w_n_ge (k := 29) (t' := 58) rfl rfl (by omega) (fun zq => absurd zq (by omega)) (fun zq => ?_)
            refine wp_iload (k := 30) rfl rfl ?_
            refine wp_iload (k := 31) rfl rfl ?_
            refine w_addN (k := 32) rfl ?_
            refine w_ic (k := 33) (x := nI 9) rfl (oi_nI 9) ?_
            refine w_n_ge (k := 34) (t' := 56) rfl rfl (by omega) (fun zq => absurd zq (by omega)) (fun zq => ?_)
            refine wp_aload (k := 35) rfl rfl ?_
            refine w_gr (k := 36) (s := 8) rfl rfl (by first | assumption | rfl) (by first | assumption | rfl) ?_
            refine wp_iload (k := 37) rfl rfl ?_
            refine wp_iload (k := 38) rfl rfl ?_
            refine w_addN (k := 39) rfl ?_
            refine wp_dup2 (k := 40) rfl rfl rfl ?_
            refine w_lald (k := 41) rfl rfl (by first | assumption | rfl) (by omega) e1 ?_
            refine wp_aload (k := 42) rfl rfl ?_
            refine w_gr (k := 43) (s := 9) rfl rfl (by first | assumption | rfl) (by first | assumption | rfl) ?_
            refine wp_iload (k := 44) rfl rfl ?_
            refine w_lald (k := 45) rfl rfl (by first | assumption | rfl) (by omega) e2 ?_
            refine wp_lload (k := 46) rfl rfl ?_
            refine w_ic (k := 47) (x := nI 16) rfl (oi_nI 16) ?_
            refine wp_iload (k := 48) rfl rfl ?_
            refine w_mulN (k := 49) rfl ?_
            refine wp_lshr (k := 50) rfl ?_
            rw [lN_shr (by omega) (by omega)]
            refine w_lc (k := 51) (x := lN 65535) rfl (ol_lN 65535) ?_
            refine wp_land (k := 52) rfl ?_
            rw [lN_m16 (by omega)]
            refine w_lmulN (k := 53) rfl ?_
            refine w_laddN (k := 54) rfl ?_
            refine w_last (k := 55) rfl rfl (by first | assumption | rfl) (by omega) ?_
            refine w_incN (k := 56) (m := 1) rfl (oi_nI 1) rfl ?_
            refine w_ls (ls2 := [some _, some _, none, some _, some _]) rfl ?_
            refine w_goto (k := 57) (t' := 27) rfl rfl ?_
            refine ihg (k + 1) _ _ (by omega) (dg_k hs3 (am_uR (by decide))) (dg_u hE3) ?_ ?_ (fun x y1 y2 => by rw [am_uR y1]; exact fr3 x y1 y2)
            · intro j hj
              unfold upD
              have := hb3 j hj
              by_cases cj : j = i + k
              · rw [if_pos cj]
                have := hb3 (i + k) c
                omega
              · rw [if_neg cj]; exact Nat.le_trans this (Nat.mul_le_mul_right _ (by omega))
            · have k1 := vD_upd E' (E' (i + k) + D i * (r / 65536 ^ k % 65536)) (j := i + k) (n := 9) c
              rw [Nat.add_mul] at k1
              rw [hadd]
              generalize D i * (r / 65536 ^ k % 65536) * 65536 ^ (i + k) = q1 at *
              generalize E' (i + k) * 65536 ^ (i + k) = q2 at *
              generalize D i * 65536 ^ i * (r % 65536 ^ k) = q3 at *
              omega
          · have hz : D i * (r / 65536 ^ k % 65536) * 65536 ^ (i + k) = 0 := by
              have h1 : D i * 65536 ^ i ≤ vD D 9 := vD_ge D (by omega)
              have h2 : 65536 ^ k * (r / 65536 ^ k % 65536) ≤ r := Nat.le_trans (Nat.mul_le_mul_left _ (Nat.mod_le _ _)) (Nat.mul_div_le _ _)
              have h3 : D i * (r / 65536 ^ k % 65536) * 65536 ^ (i + k) ≤ vD D 9 * r := by
                refine Nat.le_trans (Nat.le_of_eq ?_) (Nat.mul_le_mul h1 h2)
                rw [Nat.pow_add]
                simp only [Nat.mul_assoc, Nat.mul_comm, Nat.mul_left_comm]
              have h4 : (65536 : Nat) ^ 9 ≤ 65536 ^ (i + k) := Nat.pow_le_pow_right (by decide) (by omega)
              have h5 : D i * (r / 65536 ^ k % 65536) * 65536 ^ (i + k) < 1 * 65536 ^ (i + k) := by rw [Nat.one_mul]; exact Nat.lt_of_le_of_lt h3 (Nat.lt_of_lt_of_le hv h4)
              have h6 := Nat.lt_of_mul_lt_mul_right h5
              rw [Nat.lt_one_iff.mp h6, Nat.zero_mul]
            refine wp_iload (k := 27) rfl rfl ?_
            refine w_ic (k := 28) (x := nI 3) rfl (oi_nI 3) ?_
            refine w_n_ge (k := 29) (t' := 58) rfl rfl (by omega) (fun zq => absurd zq (by omega)) (fun zq => ?_)
            refine wp_iload (k := 30) rfl rfl ?_
            refine wp_iload (k := 31) rfl rfl ?_
            refine w_addN (k := 32) rfl ?_
            refine w_ic (k := 33) (x := nI 9) rfl (oi_nI 9) ?_
            refine w_n_ge (k := 34) (t' := 56) rfl rfl (by omega) (fun zq => ?_) (fun zq => absurd zq (by omega))
            refine w_incN (k := 56) (m := 1) rfl (oi_nI 1) rfl ?_
            refine w_ls (ls2 := [some _, some _, none, some _, some _]) rfl ?_
            refine w_goto (k := 57) (t' := 27) rfl rfl ?_
            refine ihg (k + 1) L3 E' (by omega) hs3 hE3 (fun j hj => Nat.le_trans (hb3 j hj) (by omega)) ?_ fr3
            rw [hadd, hz, hv3, Nat.add_zero]
      refine wp_iload (k := 22) rfl rfl ?_
      refine w_ic (k := 23) (x := nI 9) rfl (oi_nI 9) ?_
      refine w_n_ge (k := 24) (t' := 60) rfl rfl (by omega) (fun zq => absurd zq (by omega)) (fun zq => ?_)
      refine w_ic (k := 25) (x := nI 0) rfl (oi_nI 0) ?_
      refine wp_istore (k := 26) (ls2 := [some _, some _, none, some _, some _]) rfl rfl ?_
      exact inner 3 0 L2 E rfl hs hE (fun j hj => Nat.le_trans (hb j hj) (by omega)) (by rw [Nat.pow_zero, Nat.mod_one, Nat.mul_zero, Nat.add_zero]; exact hvE) fr
  -- the copy
  have copy : ∀ (f i : Nat) (L1 : Nat → Nat → Int64), i + f = 9 → (∀ j, j < i → L1 107 j = lN (D j)) → (∀ j, j < 9 → L1 106 j = lN (if j < i then 0 else D j)) → (∀ x, x ≠ 106 → x ≠ 107 → L1 x = L x) → am_V 168 am_c168 d (am_SH N) Q 2 [some (.ref 100), some (.long (lN r)), none, some (.int (nI i)), none] [] (am_SH N, I, L1, am_RR w) := by
    intro f
    induction f with
    | zero =>
      intro i L1 hi h1 h2 fr
      obtain rfl : i = 9 := by omega
      refine wp_iload (k := 2) rfl rfl ?_
      refine w_ic (k := 3) (x := nI 9) rfl (oi_nI 9) ?_
      refine w_n_ge (k := 4) (t' := 20) rfl rfl (by omega) (fun zq => ?_) (fun zq => absurd zq (by omega))
      refine w_ic (k := 20) (x := nI 0) rfl (oi_nI 0) ?_
      refine wp_istore (k := 21) (ls2 := [some _, some _, none, some _, none]) rfl rfl ?_
      refine prod 9 0 L1 (fun _ => 0) _ rfl (fun j hj => h1 j hj) (fun j hj => by rw [h2 j hj, if_pos hj]) (fun j hj => Nat.zero_le _) ?_ fr
      rw [vD_0, vD, Nat.zero_mul]
    | succ f ih =>
      intro i L1 hi h1 h2 fr
      have e1 : L1 106 i = lN (D i) := by rw [h2 i (by omega), if_neg (by omega)]
      refine wp_iload (k := 2) rfl rfl ?_
      refine w_ic (k := 3) (x := nI 9) rfl (oi_nI 9) ?_
      refine w_n_ge (k := 4) (t' := 20) rfl rfl (by omega) (fun zq => absurd zq (by omega)) (fun zq => ?_)
      refine wp_aload (k := 5) rfl rfl ?_
      refine w_gr (k := 6) (s := 9) rfl rfl (by first | assumption | rfl) (by first | assumption | rfl) ?_
      refine wp_iload (k := 7) rfl rfl ?_
      refine wp_aload (k := 8) rfl rfl ?_
      refine w_gr (k := 9) (s := 8) rfl rfl (by first | assumption | rfl) (by first | assumption | rfl) ?_
      refine wp_iload (k := 10) rfl rfl ?_
      refine w_lald (k := 11) rfl rfl (by first | assumption | rfl) (by omega) e1 ?_
      refine w_last (k := 12) rfl rfl (by first | assumption | rfl) (by omega) ?_
      refine wp_aload (k := 13) rfl rfl ?_
      refine w_gr (k := 14) (s := 8) rfl rfl (by first | assumption | rfl) (by first | assumption | rfl) ?_
      refine wp_iload (k := 15) rfl rfl ?_
      refine w_lc (k := 16) (x := lN 0) rfl (ol_lN 0) ?_
      refine w_last (k := 17) rfl rfl (by first | assumption | rfl) (by omega) ?_
      refine w_incN (k := 18) (m := 1) rfl (oi_nI 1) rfl ?_
      refine w_ls (ls2 := [some _, some _, none, some _, none]) rfl ?_
      refine w_goto (k := 19) (t' := 2) rfl rfl ?_
      refine ih (i + 1) _ (by omega) ?_ ?_ (fun x y1 y2 => by rw [am_uR y1, am_uR y2]; exact fr x y1 y2)
      · intro j hj
        rw [am_uR (by decide)]
        by_cases c : j = i
        · rw [c, am_us]
        · rw [am_uw c rfl]; exact h1 j (by omega)
      · intro j hj
        by_cases c : j = i
        · rw [c, am_us, if_pos (by omega)]
        · rw [am_uw c rfl, am_uR (by decide), h2 j hj]
          by_cases c2 : j < i
          · rw [if_pos c2, if_pos (by omega)]
          · rw [if_neg c2, if_neg (by omega)]
  refine am_enter (ls := [some _, some _, none, none, none]) (cs := am_c168) rfl rfl (Nat.le_of_ble_eq_true rfl) rfl ?_
  refine w_ic (k := 0) (x := nI 0) rfl (oi_nI 0) ?_
  refine wp_istore (k := 1) (ls2 := [some _, some _, none, some _, none]) rfl rfl ?_
  exact copy 9 0 L rfl (fun j hj => absurd hj (Nat.not_lt_zero _)) (fun j hj => by rw [if_neg (Nat.not_lt_zero _)]; exact h j hj) (fun _ _ _ => rfl)
theorem c_169 {E : Nat → Nat} {p a : Nat} (h : dg L 106 E) (hE : ∀ i, i < 9 → E i < 65536) (hp : p < 65536) (ha : a < 9) (hq : Q (some (.int (bI (decide (p * 65536 ^ a < vD E 9))))) (am_SH N, I, L, am_RR w)) : am_call (d + 1) 169 [.ref 100, .int (nI p), .int (nI a)] (am_SH N, I, L, am_RR w) Q := by
  have hG : vD (upD (fun _ => 0) a p) 9 = p * 65536 ^ a := by
    have := vD_upd (fun _ => 0) p (j := a) (n := 9) ha
    rw [vD_0, Nat.zero_mul] at this
    omega
  rw [← hG] at hq
  have hGb : ∀ j, j < 9 → upD (fun _ => 0) a p j < 65536 := fun j _ => by
    unfold upD
    by_cases c : j = a
    · rw [if_pos c]; exact hp
    · rw [if_neg c]; show (0 : Nat) < 65536; decide
  have loop : ∀ (m : Nat), m ≤ 9 → (∀ j, m ≤ j → j < 9 → E j = upD (fun _ => 0) a p j) → ∀ (o4 : Option Value), am_V 169 am_c169 d (am_SH N) Q 2 [some (.ref 100), some (.int (nI p)), some (.int (nI a)), some (.int (nI m - nI 1)), o4, none] [] (am_SH N, I, L, am_RR w) := by
    intro m
    induction m with
    | zero =>
      intro _ he o4
      have e : vD E 9 = vD (upD (fun _ => 0) a p) 9 := vD_cong (fun j hj => he j (Nat.zero_le _) hj)
      rw [decide_eq_false (by omega)] at hq
      refine wp_iload (k := 2) rfl rfl ?_
      refine w_z_lt (k := 3) (t' := 32) rfl rfl (fun zq => ?_) (fun zq => absurd (by decide) zq)
      refine w_ic (k := 32) (x := bI false) rfl rfl ?_
      refine w_rz (k := 33) rfl rfl rfl ?_
      exact hq
    | succ m ih =>
      intro hm he o4
      have er : nI (m + 1) - nI 1 = nI m := by rw [pk_sub (by omega)]; congr 1
      rw [er]
      have em := h m (by omega)
      have hEm := hE m (by omega)
      have hGm := hGb m (by omega)
      have rest : am_V 169 am_c169 d (am_SH N) Q 12 [some (.ref 100), some (.int (nI p)), some (.int (nI a)), some (.int (nI m)), some (.long (lN (upD (fun _ => 0) a p m))), none] [] (am_SH N, I, L, am_RR w) := by
        refine wp_aload (k := 12) rfl rfl ?_
        refine w_gr (k := 13) (s := 8) rfl rfl (by first | assumption | rfl) (by first | assumption | rfl) ?_
        refine wp_iload (k := 14) rfl rfl ?_
        refine w_lald (k := 15) rfl rfl (by first | assumption | rfl) (by omega) em ?_
        refine wp_lload (k := 16) rfl rfl ?_
        refine w_L_eq (k := 17) (t' := 30) rfl rfl rfl (fun k1 => ?_) (fun k1 => ?_)
        · have k1 := lN_e64 (by omega) (by omega) k1
          refine w_incX (k := 30) rfl rfl (m1 m) ?_
          refine w_goto (k := 31) (t' := 2) rfl rfl ?_
          refine ih (by omega) (fun j y1 y2 => ?_) _
          by_cases c : j = m
          · rw [c]; exact k1
          · exact he j (by omega) y2
        · have hne : E m ≠ upD (fun _ => 0) a p m := fun q => k1 (by rw [q])
          refine wp_aload (k := 19) rfl rfl ?_
          refine w_gr (k := 20) (s := 8) rfl rfl (by first | assumption | rfl) (by first | assumption | rfl) ?_
          refine wp_iload (k := 21) rfl rfl ?_
          refine w_lald (k := 22) rfl rfl (by first | assumption | rfl) (by omega) em ?_
          refine wp_lload (k := 23) rfl rfl ?_
          refine w_L_le (k := 24) (t' := 28) rfl rfl rfl (fun k2 => ?_) (fun k2 => ?_)
          · have k2 := mt (l_ltN (by omega) (by omega)).mpr (Int64.not_lt.mpr k2)
            have := vD_lex (E := upD (fun _ => 0) a p) (G := E) (i := m) (by omega) (fun j hj => hE j (by omega)) (n := 9) (by omega) (fun j y1 y2 => (he j (by omega) y2).symm)
            rw [decide_eq_false (by omega)] at hq
            refine w_ic (k := 28) (x := bI false) rfl rfl ?_
            refine w_rz (k := 29) rfl rfl rfl ?_
            exact hq
          · have k2 := (l_ltN (by omega) (by omega)).mp (Int64.not_le.mp k2)
            have := vD_lex (E := E) (G := upD (fun _ => 0) a p) (i := m) k2 (fun j hj => hGb j (by omega)) (n := 9) (by omega) (fun j y1 y2 => he j (by omega) y2)
            rw [decide_eq_true this] at hq
            refine w_ic (k := 26) (x := bI true) rfl rfl ?_
            refine w_goto (k := 27) (t' := 29) rfl rfl ?_
            refine w_rz (k := 29) rfl rfl rfl ?_
            exact hq
      refine wp_iload (k := 2) rfl rfl ?_
      refine w_m_lt (k := 3) (t' := 32) rfl rfl (by omega) (fun zq => absurd zq (by omega)) (fun zq => ?_)
      refine wp_iload (k := 4) rfl rfl ?_
      refine wp_iload (k := 5) rfl rfl ?_
      refine w_n_ne (k := 6) (t' := 10) rfl rfl (by omega) (fun c => ?_) (fun c => ?_)
      · have e : upD (fun _ => 0) a p m = 0 := by unfold upD; rw [if_neg c]
        rw [e] at rest
        refine w_lc (k := 10) (x := lN 0) rfl (ol_lN 0) ?_
        refine wp_lstore (k := 11) (ls2 := [some _, some _, some _, some _, some _, none]) rfl rfl ?_
        exact rest
      · have e : upD (fun _ => 0) a p m = p := by unfold upD; rw [if_pos c]
        rw [e] at rest
        refine wp_iload (k := 7) rfl rfl ?_
        refine wp_i2l (k := 8) rfl ?_
        rw [nI_l (by omega)]
        refine w_goto (k := 9) (t' := 11) rfl rfl ?_
        refine wp_lstore (k := 11) (ls2 := [some _, some _, some _, some _, some _, none]) rfl rfl ?_
        exact rest
  refine am_enter (ls := [some _, some _, some _, none, none, none]) (cs := am_c169) rfl rfl (Nat.le_of_ble_eq_true rfl) rfl ?_
  refine w_ic (k := 0) (x := nI 8) rfl (oi_nI 8) ?_
  refine wp_istore (k := 1) (ls2 := [some _, some _, some _, some _, none, none]) rfl rfl ?_
  exact loop 9 (Nat.le_refl _) (fun j y1 y2 => by omega) _
theorem pow_lt_9 {r : Nat} (hr : r < 2 ^ 37) {k : Nat} (hk : k ≤ 3) : r ^ k < 65536 ^ 9 := by
  have h1 : r ^ k ≤ (2 ^ 37) ^ k := Nat.pow_le_pow_left (Nat.le_of_lt hr) k
  have h2 : (2 ^ 37) ^ k ≤ (2 ^ 37) ^ 3 := Nat.pow_le_pow_right (by decide) hk
  exact Nat.lt_of_le_of_lt (Nat.le_trans h1 h2) (by decide)
theorem c_167 {n q : Nat} (hn : n < 512) (hn2 : 0 < n) (hq3 : q = 2 ∨ q = 3) (hq : ∀ L' low, low ^ q ≤ n * 65536 ^ (2 * q) → n * 65536 ^ (2 * q) < (low + 1) ^ q → (∀ x, x ≠ 106 → x ≠ 107 → L' x = L x) → Q (some (.int (nI low))) (am_SH N, I, L', am_RR w)) : am_call (d + 2) 167 [.ref 100, .int (nI n), .int (nI q)] (am_SH N, I, L, am_RR w) Q := by
  have loop : ∀ (f lo hi : Nat) (L1 : Nat → Nat → Int64) (o7 o8 o9 : Option Value), hi - lo ≤ f → lo < hi → hi ≤ 2 ^ 37 → lo ^ q ≤ n * 65536 ^ (2 * q) → n * 65536 ^ (2 * q) < hi ^ q → (∀ x, x ≠ 106 → x ≠ 107 → L1 x = L x) → am_V 167 am_c167 (d + 1) (am_SH N) Q 4 [some (.ref 100), some (.int (nI n)), some (.int (nI q)), some (.long (lN lo)), none, some (.long (lN hi)), none, o7, o8, o9] [] (am_SH N, I, L1, am_RR w) := by
    intro f
    induction f with
    | zero => intro lo hi L1 o7 o8 o9 h0 h1; omega
    | succ f ih =>
      intro lo hi L1 o7 o8 o9 h0 h1 h2 h3 h4 fr
      refine wp_lload (k := 4) rfl rfl ?_
      refine wp_lload (k := 5) rfl rfl ?_
      refine wp_lsub (k := 6) rfl ?_
      rw [lN_subN (by omega)]
      refine w_lc (k := 7) (x := lN 1) rfl (ol_lN 1) ?_
      refine w_L_le (k := 8) (t' := 55) rfl rfl rfl (fun k1 => ?_) (fun k1 => ?_)
      · have k1 := mt (l_ltN (by decide) (by omega)).mpr (Int64.not_lt.mpr k1)
        obtain rfl : hi = lo + 1 := by omega
        refine wp_lload (k := 55) rfl rfl ?_
        refine wp_l2i (k := 56) rfl ?_
        rw [lN_i]
        refine w_ri (k := 57) rfl rfl rfl rfl ?_
        exact hq L1 lo h3 h4 fr
      · have k1 := (l_ltN (by decide) (by omega)).mp (Int64.not_le.mp k1)
        refine wp_lload (k := 10) rfl rfl ?_
        refine wp_lload (k := 11) rfl rfl ?_
        refine w_laddN (k := 12) rfl ?_
        refine w_lc (k := 13) (x := lN 2) rfl (ol_lN 2) ?_
        refine wp_ldiv (k := 14) rfl (by decide) ?_
        rw [lN_half (by omega)]
        have hr : (lo + hi) / 2 < 2 ^ 37 := by omega
        have hlo : lo < (lo + hi) / 2 := by omega
        have hhi : (lo + hi) / 2 < hi := by omega
        generalize (lo + hi) / 2 = r at *
        -- behind the power
        have cmp : ∀ (L3 : Nat → Nat → Int64) (E : Nat → Nat), dg L3 106 E → (∀ i, i < 9 → E i < 65536) → vD E 9 = r ^ q → (∀ x, x ≠ 106 → x ≠ 107 → L3 x = L x) → am_V 167 am_c167 (d + 1) (am_SH N) Q 42 [some (.ref 100), some (.int (nI n)), some (.int (nI q)), some (.long (lN lo)), none, some (.long (lN hi)), none, some (.long (lN r)), none, some (.int (nI q))] [] (am_SH N, I, L3, am_RR w) := by
          intro L3 E hE hEb hv fr3
          refine wp_aload (k := 42) rfl rfl ?_
          refine wp_iload (k := 43) rfl rfl ?_
          refine w_ic (k := 44) (x := nI 2) rfl (oi_nI 2) ?_
          refine wp_iload (k := 45) rfl rfl ?_
          refine w_mulN (k := 46) rfl ?_
          refine w_Vi (k := 47) [_, _] rfl rfl rfl (Nat.le_of_ble_eq_true rfl) (by first | assumption | rfl) (Or.inl ⟨rfl, rfl⟩) ?_
          refine (c_169 hE hEb (by omega) (by omega) ?_)
          refine ⟨_, rfl, ?_⟩
          rw [hv]
          refine w_b_eq (k := 48) (t' := 52) rfl rfl (fun k2 => ?_) (fun k2 => ?_)
          · have k2 := of_decide_eq_false k2
            refine wp_lload (k := 52) rfl rfl ?_
            refine wp_lstore (k := 53) (ls2 := [some _, some _, some _, some _, none, some _, none, some _, none, some _]) rfl rfl ?_
            refine w_goto (k := 54) (t' := 4) rfl rfl ?_
            exact ih r hi L3 _ _ _ (by omega) hhi h2 (by omega) h4 fr3
          · have k2 := of_decide_eq_true k2
            refine wp_lload (k := 49) rfl rfl ?_
            refine wp_lstore (k := 50) (ls2 := [some _, some _, some _, some _, none, some _, none, some _, none, some _]) rfl rfl ?_
            refine w_goto (k := 51) (t' := 54) rfl rfl ?_
            refine w_goto (k := 54) (t' := 4) rfl rfl ?_
            exact ih lo r L3 _ _ _ (by omega) hlo (by omega) h3 k2 fr3
        have pw : ∀ (g k : Nat) (L3 : Nat → Nat → Int64) (E : Nat → Nat), k + g = q → dg L3 106 E → (∀ i, i < 9 → E i < 65536) → vD E 9 = r ^ k → (∀ x, x ≠ 106 → x ≠ 107 → L3 x = L x) → am_V 167 am_c167 (d + 1) (am_SH N) Q 34 [some (.ref 100), some (.int (nI n)), some (.int (nI q)), some (.long (lN lo)), none, some (.long (lN hi)), none, some (.long (lN r)), none, some (.int (nI k))] [] (am_SH N, I, L3, am_RR w) := by
          intro g
          induction g with
          | zero =>
            intro k L3 E hk hE hEb hv fr3
            obtain rfl : k = q := by omega
            refine wp_iload (k := 34) rfl rfl ?_
            refine wp_iload (k := 35) rfl rfl ?_
            refine w_n_ge (k := 36) (t' := 42) rfl rfl (by omega) (fun zq => ?_) (fun zq => absurd zq (by omega))
            exact cmp L3 E hE hEb hv fr3
          | succ g ihg =>
            intro k L3 E hk hE hEb hv fr3
            refine wp_iload (k := 34) rfl rfl ?_
            refine wp_iload (k := 35) rfl rfl ?_
            refine w_n_ge (k := 36) (t' := 42) rfl rfl (by omega) (fun zq => absurd zq (by omega)) (fun zq => ?_)
            refine wp_aload (k := 37) rfl rfl ?_
            refine wp_lload (k := 38) rfl rfl ?_
            refine w_Vv (k := 39) [_] rfl rfl rfl (Nat.le_of_ble_eq_true rfl) (by first | assumption | rfl) (Or.inl ⟨rfl, rfl⟩) ?_
            refine (c_168 hE hEb (Nat.lt_of_lt_of_le hr (by decide)) (by rw [hv, ← Nat.pow_succ]; exact pow_lt_9 hr (by omega)) (fun L4 E4 e4 b4 v4 f4 => ⟨rfl, ?_⟩))
            refine w_incN (k := 40) (m := 1) rfl (oi_nI 1) rfl ?_
            refine w_ls (ls2 := [some _, some _, some _, some _, none, some _, none, some _, none, some _]) rfl ?_
            refine w_goto (k := 41) (t' := 34) rfl rfl ?_
            exact ihg (k + 1) L4 E4 (by omega) e4 b4 (by rw [v4, hv, Nat.pow_succ]) (fun x y1 y2 => by rw [f4 x y1 y2, fr3 x y1 y2])
        have ini : ∀ (g i : Nat) (L3 : Nat → Nat → Int64), i + g = 9 → (∀ j, j < i → L3 106 j = lN (upD (fun _ => 0) 0 1 j)) → (∀ x, x ≠ 106 → x ≠ 107 → L3 x = L x) → am_V 167 am_c167 (d + 1) (am_SH N) Q 18 [some (.ref 100), some (.int (nI n)), some (.int (nI q)), some (.long (lN lo)), none, some (.long (lN hi)), none, some (.long (lN r)), none, some (.int (nI i))] [] (am_SH N, I, L3, am_RR w) := by
          intro g
          induction g with
          | zero =>
            intro i L3 hi' hd fr3
            obtain rfl : i = 9 := by omega
            refine wp_iload (k := 18) rfl rfl ?_
            refine w_ic (k := 19) (x := nI 9) rfl (oi_nI 9) ?_
            refine w_n_ge (k := 20) (t' := 32) rfl rfl (by omega) (fun zq => ?_) (fun zq => absurd zq (by omega))
            refine w_ic (k := 32) (x := nI 0) rfl (oi_nI 0) ?_
            refine wp_istore (k := 33) (ls2 := [some _, some _, some _, some _, none, some _, none, some _, none, some _]) rfl rfl ?_
            refine pw q 0 L3 (upD (fun _ => 0) 0 1) (Nat.zero_add _) hd (fun i _ => ?_) ?_ fr3
            · unfold upD
              by_cases c : i = 0
              · rw [if_pos c]; decide
              · rw [if_neg c]; show (0 : Nat) < 65536; decide
            · rw [Nat.pow_zero]; rfl
          | succ g ihg =>
            intro i L3 hi' hd fr3
            have nx : ∀ v, v = lN (upD (fun _ => 0) 0 1 i) → am_V 167 am_c167 (d + 1) (am_SH N) Q 29 [some (.ref 100), some (.int (nI n)), some (.int (nI q)), some (.long (lN lo)), none, some (.long (lN hi)), none, some (.long (lN r)), none, some (.int (nI i))] [.long v, .int (nI i), .ref 106] (am_SH N, I, L3, am_RR w) := fun v hv => by
              refine w_last (k := 29) rfl rfl (by first | assumption | rfl) (by omega) ?_
              refine w_incN (k := 30) (m := 1) rfl (oi_nI 1) rfl ?_
              refine w_ls (ls2 := [some _, some _, some _, some _, none, some _, none, some _, none, some _]) rfl ?_
              refine w_goto (k := 31) (t' := 18) rfl rfl ?_
              refine ihg (i + 1) _ (by omega) (fun j hj => ?_) (fun x y1 y2 => by rw [am_uR y1]; exact fr3 x y1 y2)
              by_cases c : j = i
              · rw [c, am_us, hv]
              · rw [am_uw c rfl]; exact hd j (by omega)
            refine wp_iload (k := 18) rfl rfl ?_
            refine w_ic (k := 19) (x := nI 9) rfl (oi_nI 9) ?_
            refine w_n_ge (k := 20) (t' := 32) rfl rfl (by omega) (fun zq => absurd zq (by omega)) (fun zq => ?_)
            refine wp_aload (k := 21) rfl rfl ?_
            refine w_gr (k := 22) (s := 8) rfl rfl (by first | assumption | rfl) (by first | assumption | rfl) ?_
            refine wp_iload (k := 23) rfl rfl ?_
            refine wp_iload (k := 24) rfl rfl ?_
            refine w_m_ne (k := 25) (t' := 28) rfl rfl (by omega) (fun c => ?_) (fun c => ?_)
            · refine w_lc (k := 28) (x := lN 0) rfl (ol_lN 0) ?_
              exact nx _ (by unfold upD; rw [if_neg c])
            · refine w_lc (k := 26) (x := lN 1) rfl (ol_lN 1) ?_
              refine w_goto (k := 27) (t' := 29) rfl rfl ?_
              exact nx _ (by unfold upD; rw [if_pos c])
        refine wp_lstore (k := 15) (ls2 := [some _, some _, some _, some _, none, some _, none, some _, none, _]) rfl rfl ?_
        refine w_ic (k := 16) (x := nI 0) rfl (oi_nI 0) ?_
        refine wp_istore (k := 17) (ls2 := [some _, some _, some _, some _, none, some _, none, some _, none, some _]) rfl rfl ?_
        exact ini 9 0 L1 rfl (fun j hj => absurd hj (Nat.not_lt_zero _)) fr
  refine am_enter (ls := [some _, some _, some _, none, none, none, none, none, none, none]) (cs := am_c167) rfl rfl (Nat.le_of_ble_eq_true rfl) rfl ?_
  refine w_lc (k := 0) (x := lN 0) rfl (ol_lN 0) ?_
  refine wp_lstore (k := 1) (ls2 := [some _, some _, some _, some _, none, none, none, none, none, none]) rfl rfl ?_
  refine w_lc (k := 2) (x := lN 137438953472) rfl (ol_lN 137438953472) ?_
  refine wp_lstore (k := 3) (ls2 := [some _, some _, some _, some _, none, some _, none, none, none, none]) rfl rfl ?_
  refine loop (2 ^ 37) 0 (2 ^ 37) L _ _ _ (by omega) (by decide) (Nat.le_refl _) ?_ ?_ (fun _ _ _ => rfl)
  · rcases hq3 with rfl | rfl <;> simp
  · rcases hq3 with rfl | rfl
    · have : n * 65536 ^ (2 * 2) < 512 * 65536 ^ (2 * 2) := Nat.mul_lt_mul_of_pos_right hn (by decide)
      exact Nat.lt_of_lt_of_le this (by decide)
    · have : n * 65536 ^ (2 * 3) < 512 * 65536 ^ (2 * 3) := Nat.mul_lt_mul_of_pos_right hn (by decide)
      exact Nat.lt_of_lt_of_le this (by decide)
end FR
