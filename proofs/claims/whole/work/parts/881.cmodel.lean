/-! ===== new RelayHouseModel() ===== -/
def pl : List Nat := [2, 3, 5, 7, 11, 13, 17, 19, 23, 29, 31, 37, 41, 43, 47, 53, 59, 61, 67, 71, 73, 79, 83, 89, 97, 101, 103, 107, 109, 113, 127, 131, 137, 139, 149, 151, 157, 163, 167, 173, 179, 181, 191, 193, 197, 199, 211, 223, 227, 229, 233, 239, 241, 251, 257, 263, 269, 271, 277, 281, 283, 293, 307, 311]
def rt3 : List Nat := [5411319704, 6194414737, 7344290767, 8215976869, 9551921755, 10098905585, 11043570340, 11460697813, 12214315672, 13195500289, 13492127166, 14311783875, 14809980276, 15046980094, 15499789991, 16133124468, 16720292289, 16907126662, 17444216262, 17784676812, 17950125167, 18429019306, 18734950876, 19175934170, 19734090066, 20001703533, 20132865992, 20390182855, 20516441075, 20764397895, 21588763473, 21813078375, 22141143685, 22248366392, 22769593852, 22871018771, 23170020180, 23461497531, 23651862830, 23931792517, 24205322401, 24295138891, 24734567280, 24820601251, 24990902297, 25075189284, 25569408389, 26045227120, 26200031510, 26276752392, 26428864332, 26653801653, 26727943347, 27092625994, 27306805839, 27517677555, 27725365998, 27793908591, 27997534228, 28131656200, 28198240250, 28526537963, 28973835255, 29099129074]
def rt2 : List Nat := [6074000999, 7439101573, 9603838834, 11363415354, 14244795007, 15485724812, 17708603819, 18721328409]
def cp (n : Nat) : Nat := (pl.filter (fun p => decide (p < n))).length
def prB (n d : Nat) : Bool := (List.range d).all (fun e => decide (e < 2) || decide (n % e ≠ 0))
theorem prB_s (n d : Nat) : prB n (d + 1) = (prB n d && (decide (d < 2) || decide (n % d ≠ 0))) := by
  unfold prB
  rw [List.range_succ, List.all_append]
  simp
theorem nI_n0 {e : Nat} (h : 0 < e) (h2 : e < 2 ^ 31) : ¬ nI e = 0 := fun q => by
  have := congrArg uI q
  rw [uI_nI (by omega)] at this
  have : e = 0 := this
  omega
theorem pr_tab : ∀ n, n < 312 → ∀ d, d < 20 → (2 ≤ n ∧ 2 ≤ d ∧ n < d * d ∧ (d = 2 ∨ (d - 1) * (d - 1) ≤ n)) → prB n d = decide (n ∈ pl) := by decide +kernel
theorem cp_tab : ∀ n, n < 312 → cp n < 64 ∧ cp (n + 1) = cp n + (if n ∈ pl then 1 else 0) ∧ (n ∈ pl → pl.getD (cp n) 0 = n) := by decide +kernel
theorem cp_2 : cp 2 = 0 ∧ cp 312 = 64 := by decide +kernel
theorem rt3_tab : ∀ j, j < 64 → rt3.getD j 0 ^ 3 ≤ pl.getD j 0 * 65536 ^ (2 * 3) ∧ pl.getD j 0 * 65536 ^ (2 * 3) < (rt3.getD j 0 + 1) ^ 3 ∧ nI (rt3.getD j 0) = kR j := by decide +kernel
theorem rt2_tab : ∀ j, j < 8 → rt2.getD j 0 ^ 2 ≤ pl.getD j 0 * 65536 ^ (2 * 2) ∧ pl.getD j 0 * 65536 ^ (2 * 2) < (rt2.getD j 0 + 1) ^ 2 ∧ nI (rt2.getD j 0) = kF j := by decide +kernel
theorem rt_un {a b q X : Nat} (h1 : a ^ q ≤ X) (h2 : X < (a + 1) ^ q) (h3 : b ^ q ≤ X) (h4 : X < (b + 1) ^ q) : a = b := by
  rcases Nat.lt_trichotomy a b with h | h | h
  · have : (a + 1) ^ q ≤ b ^ q := Nat.pow_le_pow_left h q
    omega
  · exact h
  · have : (b + 1) ^ q ≤ a ^ q := Nat.pow_le_pow_left h q
    omega
theorem Rb_c : Rb RRc := fun p k h => by
  unfold RRc
  by_cases c : p < 100
  · rw [if_pos c]; exact am_RRb p k (by omega)
  · rw [if_neg c]
section CM
variable {d N : Nat} {Q : am_Q} {I : Nat → Nat → Int32} {L : Nat → Nat → Int64}
theorem c_165g (hq : ∀ (I' : Nat → Nat → Int32) (L' : Nat → Nat → Int64) (o3 o4 : Option Value), mk I' → (∀ x, x ≠ 101 → x ≠ 102 → I' x = I x) → (∀ x, x ≠ 106 → x ≠ 107 → L' x = L x) → am_V 165 am_c165 (d + 2) (sT N 101) Q 209 [some (.ref 100), some (.int (nI 64)), some (.int (nI 312)), o3, o4] [] (am_SH N, I', L', am_RR none)) : am_V 165 am_c165 (d + 2) (sT N 101) Q 161 [some (.ref 100), some (.int (nI 0)), some (.int (nI 2)), none, none] [] (am_SH N, I, L, am_RR none) := by
  have loop : ∀ (f n : Nat) (I1 : Nat → Nat → Int32) (L1 : Nat → Nat → Int64) (o3 o4 : Option Value), n + f = 312 → 2 ≤ n → (∀ j, j < cp n → I1 101 j = kR j) → (∀ j, j < cp n → j < 8 → I1 102 j = kF j) → (∀ x, x ≠ 101 → x ≠ 102 → I1 x = I x) → (∀ x, x ≠ 106 → x ≠ 107 → L1 x = L x) → am_V 165 am_c165 (d + 2) (sT N 101) Q 161 [some (.ref 100), some (.int (nI (cp n))), some (.int (nI n)), o3, o4] [] (am_SH N, I1, L1, am_RR none) := by
    intro f
    induction f with
    | zero =>
      intro n I1 L1 o3 o4 hn h2 hR hF fi fl'
      obtain rfl : n = 312 := by omega
      rw [cp_2.2] at hR hF ⊢
      refine wp_iload (k := 161) rfl rfl ?_
      refine w_ic (k := 162) (x := nI 64) rfl (oi_nI 64) ?_
      refine w_n_ge (k := 163) (t' := 209) rfl rfl (by omega) (fun zq => ?_) (fun zq => absurd zq (by omega))
      exact hq I1 L1 o3 o4 ⟨hR, fun i hi => hF i (by omega) hi⟩ fi fl'
    | succ f ih =>
      intro n I1 L1 o3 o4 hn h2 hR hF fi fl'
      obtain ⟨c64, cs, cg⟩ := cp_tab n (by omega)
      -- behind the test
      have aft : ∀ (I2 : Nat → Nat → Int32) (L2 : Nat → Nat → Int64) (x3 x4 : Int32), (∀ j, j < cp (n + 1) → I2 101 j = kR j) → (∀ j, j < cp (n + 1) → j < 8 → I2 102 j = kF j) → (∀ x, x ≠ 101 → x ≠ 102 → I2 x = I x) → (∀ x, x ≠ 106 → x ≠ 107 → L2 x = L x) → am_V 165 am_c165 (d + 2) (sT N 101) Q 207 [some (.ref 100), some (.int (nI (cp (n + 1)))), some (.int (nI n)), some (.int x3), some (.int x4)] [] (am_SH N, I2, L2, am_RR none) := by
        intro I2 L2 x3 x4 r1 r2 r3 r4
        refine w_incN (k := 207) (m := 1) rfl (oi_nI 1) rfl ?_
        refine w_ls (ls2 := [some _, some _, some _, some _, some _]) rfl ?_
        refine w_goto (k := 208) (t' := 161) rfl rfl ?_
        exact ih (n + 1) I2 L2 _ _ (by omega) (by omega) r1 r2 r3 r4
      have test : ∀ (b : Bool) (x4 : Int32), b = decide (n ∈ pl) → am_V 165 am_c165 (d + 2) (sT N 101) Q 185 [some (.ref 100), some (.int (nI (cp n))), some (.int (nI n)), some (.int (bI b)), some (.int x4)] [] (am_SH N, I1, L1, am_RR none) := by
        intro b x4 hb
        refine wp_iload (k := 185) rfl rfl ?_
        refine w_b_eq (k := 186) (t' := 207) rfl rfl (fun k1 => ?_) (fun k1 => ?_)
        · have hno : n ∉ pl := of_decide_eq_false (hb.symm.trans k1)
          rw [if_neg hno, Nat.add_zero] at cs
          have := aft I1 L1 (bI b) x4 (by rw [cs]; exact hR) (by rw [cs]; exact hF) fi fl'
          rw [cs] at this
          exact this
        · have hyes : n ∈ pl := of_decide_eq_true (hb.symm.trans k1)
          rw [if_pos hyes] at cs
          have ep := cg hyes
          obtain ⟨t1, t2, t3⟩ := rt3_tab (cp n) c64
          rw [ep] at t1 t2
          refine wp_aload (k := 187) rfl rfl ?_
          refine w_gr (k := 188) (s := 1) rfl rfl (by first | assumption | rfl) (by first | assumption | rfl) ?_
          refine wp_iload (k := 189) rfl rfl ?_
          refine wp_aload (k := 190) rfl rfl ?_
          refine wp_iload (k := 191) rfl rfl ?_
          refine w_ic (k := 192) (x := nI 3) rfl (oi_nI 3) ?_
          refine w_Vi (k := 193) [_, _] rfl rfl rfl (Nat.le_of_ble_eq_true rfl) (by first | assumption | rfl) (Or.inl ⟨rfl, rfl⟩) ?_
          refine (c_167 (by omega) (by omega) (Or.inr rfl) (fun L2 low l1 l2 f2 => ⟨_, rfl, ?_⟩))
          refine w_iast (k := 194) rfl rfl (by omega) (by first | assumption | rfl) (by omega) ?_
          rw [rt_un l1 l2 t1 t2, t3]
          have R2 : ∀ j, j < cp (n + 1) → am_u I1 101 (cp n) (kR (cp n)) 101 j = kR j := fun j hj => by
            by_cases c : j = cp n
            · rw [c, am_us]
            · rw [am_uw c rfl]; exact hR j (by omega)
          have F2 : ∀ x, x ≠ 101 → x ≠ 102 → am_u I1 101 (cp n) (kR (cp n)) x = I x := fun x y1 y2 => by rw [am_uR y1]; exact fi x y1 y2
          have G2 : ∀ x, x ≠ 106 → x ≠ 107 → L2 x = L x := fun x y1 y2 => by rw [f2 x y1 y2, fl' x y1 y2]
          refine wp_iload (k := 195) rfl rfl ?_
          refine w_ic (k := 196) (x := nI 8) rfl (oi_nI 8) ?_
          refine w_n_ge (k := 197) (t' := 206) rfl rfl (by omega) (fun k2 => ?_) (fun k2 => ?_)
          · refine w_incN (k := 206) (m := 1) rfl (oi_nI 1) rfl ?_
            refine w_ls (ls2 := [some _, some _, some _, some _, some _]) rfl ?_
            rw [← cs]
            refine aft _ L2 _ x4 R2 (fun j hj hj8 => ?_) F2 G2
            rw [am_uR (by decide)]
            exact hF j (by omega) hj8
          · obtain ⟨u1, u2, u3⟩ := rt2_tab (cp n) (by omega)
            rw [ep] at u1 u2
            refine wp_aload (k := 198) rfl rfl ?_
            refine w_gr (k := 199) (s := 2) rfl rfl (by first | assumption | rfl) (by first | assumption | rfl) ?_
            refine wp_iload (k := 200) rfl rfl ?_
            refine wp_aload (k := 201) rfl rfl ?_
            refine wp_iload (k := 202) rfl rfl ?_
            refine w_ic (k := 203) (x := nI 2) rfl (oi_nI 2) ?_
            refine w_Vi (k := 204) [_, _] rfl rfl rfl (Nat.le_of_ble_eq_true rfl) (by first | assumption | rfl) (Or.inl ⟨rfl, rfl⟩) ?_
            refine (c_167 (by omega) (by omega) (Or.inl rfl) (fun L3 low' m1' m2' f3 => ⟨_, rfl, ?_⟩))
            refine w_iast (k := 205) rfl rfl (by omega) (by first | assumption | rfl) (by omega) ?_
            rw [rt_un m1' m2' u1 u2, u3]
            refine w_incN (k := 206) (m := 1) rfl (oi_nI 1) rfl ?_
            refine w_ls (ls2 := [some _, some _, some _, some _, some _]) rfl ?_
            rw [← cs]
            refine aft _ L3 _ x4 (fun j hj => by rw [am_uR (by decide)]; exact R2 j hj) (fun j hj hj8 => ?_) (fun x y1 y2 => by rw [am_uR y2]; exact F2 x y1 y2) (fun x y1 y2 => by rw [f3 x y1 y2, G2 x y1 y2])
            by_cases c : j = cp n
            · rw [c, am_us]
            · rw [am_uw c rfl, am_uR (by decide)]; exact hF j (by omega) hj8
      have inner : ∀ (g e : Nat) (b : Bool), e + g = 19 → 2 ≤ e → (e = 2 ∨ (e - 1) * (e - 1) ≤ n) → b = prB n e → am_V 165 am_c165 (d + 2) (sT N 101) Q 168 [some (.ref 100), some (.int (nI (cp n))), some (.int (nI n)), some (.int (bI b)), some (.int (nI e))] [] (am_SH N, I1, L1, am_RR none) := by
        intro g
        induction g with
        | zero =>
          intro e b he h2e hsq hb
          obtain rfl : e = 19 := by omega
          exfalso
          rcases hsq with q | q
          · omega
          · have : 18 * 18 ≤ n := q
            omega
        | succ g ihg =>
          intro e b he h2e hsq hb
          have hee : e * e ≤ 18 * 18 := Nat.mul_le_mul (by omega) (by omega)
          refine wp_iload (k := 168) rfl rfl ?_
          refine wp_iload (k := 169) rfl rfl ?_
          refine w_mulN (k := 170) rfl ?_
          refine wp_iload (k := 171) rfl rfl ?_
          refine w_n_gt (k := 172) (t' := 185) rfl rfl (by omega) (fun k1 => ?_) (fun k1 => ?_)
          · exact test b _ (by rw [hb]; exact pr_tab n (by omega) e (by omega) ⟨h2, h2e, k1, hsq⟩)
          · have nxt : ∀ b' : Bool, b' = prB n (e + 1) → am_V 165 am_c165 (d + 2) (sT N 101) Q 182 [some (.ref 100), some (.int (nI (cp n))), some (.int (nI n)), some (.int (bI b)), some (.int (nI e))] [.int (bI b')] (am_SH N, I1, L1, am_RR none) := fun b' hb' => by
              refine wp_istore (k := 182) (ls2 := [some _, some _, some _, some _, some _]) rfl rfl ?_
              refine w_incN (k := 183) (m := 1) rfl (oi_nI 1) rfl ?_
              refine w_ls (ls2 := [some _, some _, some _, some _, some _]) rfl ?_
              refine w_goto (k := 184) (t' := 168) rfl rfl ?_
              exact ihg (e + 1) b' (by omega) (by omega) (Or.inr (by show (e + 1 - 1) * (e + 1 - 1) ≤ n; rw [Nat.add_sub_cancel]; exact k1)) hb'
            have ps := prB_s n e
            refine wp_iload (k := 173) rfl rfl ?_
            refine w_b_eq (k := 174) (t' := 181) rfl rfl (fun k2 => ?_) (fun k2 => ?_)
            · refine w_ic (k := 181) (x := bI false) rfl rfl ?_
              exact nxt false (by rw [ps, ← hb, k2]; rfl)
            · refine wp_iload (k := 175) rfl rfl ?_
              refine wp_iload (k := 176) rfl rfl ?_
              refine wp_irem (k := 177) rfl (nI_n0 (by omega) (by omega)) ?_
              rw [pk_rem (by omega) (by omega) (by omega)]
              have hml := Nat.mod_le n e
              refine w_m_eq (k := 178) (t' := 181) rfl rfl (by omega) (fun k3 => ?_) (fun k3 => ?_)
              · refine w_ic (k := 181) (x := bI false) rfl rfl ?_
                exact nxt false (by rw [ps, ← hb, k2, decide_eq_false (by omega : ¬ e < 2), k3]; rfl)
              · refine w_ic (k := 179) (x := bI true) rfl rfl ?_
                refine w_goto (k := 180) (t' := 182) rfl rfl ?_
                exact nxt true (by rw [ps, ← hb, k2, decide_eq_true k3]; simp)
      have htop : ∀ (o3 : Option Value), am_V 165 am_c165 (d + 2) (sT N 101) Q 164 [some (.ref 100), some (.int (nI (cp n))), some (.int (nI n)), o3, o4] [] (am_SH N, I1, L1, am_RR none) := fun o3 => by
        refine w_ic (k := 164) (x := bI true) rfl rfl ?_
        refine wp_istore (k := 165) (ls2 := [some _, some _, some _, some _, _]) rfl rfl ?_
        refine w_ic (k := 166) (x := nI 2) rfl (oi_nI 2) ?_
        refine wp_istore (k := 167) (ls2 := [some _, some _, some _, some _, some _]) rfl rfl ?_
        exact inner 17 2 true rfl (Nat.le_refl _) (Or.inl rfl) (by unfold prB; rfl)
      refine wp_iload (k := 161) rfl rfl ?_
      refine w_ic (k := 162) (x := nI 64) rfl (oi_nI 64) ?_
      refine w_n_ge (k := 163) (t' := 209) rfl rfl (by omega) (fun zq => absurd zq (by omega)) (fun zq => ?_)
      exact htop o3
  have := loop 310 2 I L none none rfl (Nat.le_refl _) (by rw [cp_2.1]; intro j hj; exact absurd hj (Nat.not_lt_zero _)) (by rw [cp_2.1]; intro j hj; exact absurd hj (Nat.not_lt_zero _)) (fun _ _ _ => rfl) (fun _ _ _ => rfl)
  rw [cp_2.1] at this
  exact this
theorem c_165 (hI : ∀ m, 100 ≤ m → I m = fun _ => 0) (hL : ∀ m, 100 ≤ m → L m = fun _ => 0) (hq : ∀ I' L', mk I' → I' 117 0 = nI 114 → I' 100 28 = nI 1 → I' 100 30 = nI 2 → (∀ x, x ≠ 100 → x ≠ 101 → x ≠ 102 → x ≠ 117 → I' x = I x) → (∀ s, s ≠ 28 → s ≠ 30 → I' 100 s = I 100 s) → (∀ x, x ≠ 106 → x ≠ 107 → L' x = L x) → Q none (am_SH N, I', L', am_RR none)) : am_call (d + 3) 165 [.ref 100] (sT N 101, I, L, RRc) Q := by
  have fin1 : ∀ (I' : Nat → Nat → Int32) (L' : Nat → Nat → Int64) (o3 o4 : Option Value), mk I' → (∀ x, x ≠ 101 → x ≠ 102 → I' x = am_u I 100 30 (nI 2) x) → (∀ x, x ≠ 106 → x ≠ 107 → L' x = L x) → am_V 165 am_c165 (d + 2) (sT N 101) Q 209 [some (.ref 100), some (.int (nI 64)), some (.int (nI 312)), o3, o4] [] (am_SH N, I', L', am_RR none) := by
    intro I' L' o3 o4 m1 f1 g1
    refine wp_aload (k := 209) rfl rfl ?_
    refine w_gr (k := 210) (s := 27) rfl rfl (by first | assumption | rfl) (by first | assumption | rfl) ?_
    refine w_ic (k := 211) (x := nI 0) rfl (oi_nI 0) ?_
    refine w_ic (k := 212) (x := nI 114) rfl (oi_nI 114) ?_
    refine w_iast (k := 213) rfl rfl (by omega) (by first | assumption | rfl) (by omega) ?_
    refine wp_aload (k := 214) rfl rfl ?_
    refine w_ic (k := 215) (x := nI 1) rfl (oi_nI 1) ?_
    refine w_pi (k := 216) (s := 28) rfl rfl (by first | assumption | rfl) ?_
    have hs : am_SH N = sT N 139 := rfl
    rw [hs]
    refine k_rv (k := 217) (m := 139) (m0 := 101) (q := 165) rfl rfl (z_eq (m := 135) (m0 := 97) (by decide +kernel)) rfl ?_
    refine hq _ L' ?_ ?_ am_us ?_ ?_ ?_ g1
    · exact mk_k m1 (by rw [am_uR (by decide), am_uR (by decide)]) (by rw [am_uR (by decide), am_uR (by decide)])
    · rw [am_uR (by decide), am_us]
    · rw [am_uw (by decide) rfl, am_uR (by decide), f1 100 (by decide) (by decide), am_us]
    · intro x y0 y1 y2 y3
      rw [am_uR y0, am_uR y3, f1 x y1 y2, am_uR y0]
    · intro s y1 y2
      rw [am_uw y1 rfl, am_uR (by decide), f1 100 (by decide) (by decide), am_uw y2 rfl]
  refine am_enter (ls := [some _, none, none, none, none]) (cs := am_c165) rfl rfl (Nat.le_of_ble_eq_true rfl) rfl ?_
  refine wp_aload (k := 0) rfl rfl ?_
  refine wp_objInit (k := 1) rfl (Nat.le_of_ble_eq_true rfl) ?_
  refine wp_aload (k := 2) rfl rfl ?_
  refine w_ic (k := 3) (x := nI 64) rfl (oi_nI 64) ?_
  refine k_newa (k := 4) (m := 101) rfl (Nat.le_of_ble_eq_true rfl) rfl rfl (by first | exact hI _ (by decide) | (rw [am_uR (by decide)]; exact hI _ (by decide))) (by first | rfl | exact hL _ (by decide)) rfl (Nat.le_of_ble_eq_true rfl) (z_ok (m := 97) (Nat.le_of_ble_eq_true rfl)) ?_
  refine w_pr (k := 5) (s := 1) rfl rfl (by first | assumption | rfl) ?_
  refine wp_aload (k := 6) rfl rfl ?_
  refine w_ic (k := 7) (x := nI 8) rfl (oi_nI 8) ?_
  refine k_newa (k := 8) (m := 102) rfl (Nat.le_of_ble_eq_true rfl) rfl rfl (by first | exact hI _ (by decide) | (rw [am_uR (by decide)]; exact hI _ (by decide))) (by first | rfl | exact hL _ (by decide)) rfl (Nat.le_of_ble_eq_true rfl) (z_ok (m := 98) (Nat.le_of_ble_eq_true rfl)) ?_
  refine w_pr (k := 9) (s := 2) rfl rfl (by first | assumption | rfl) ?_
  refine wp_aload (k := 10) rfl rfl ?_
  refine w_ic (k := 11) (x := nI 8) rfl (oi_nI 8) ?_
  refine k_newa (k := 12) (m := 103) rfl (Nat.le_of_ble_eq_true rfl) rfl rfl (by first | exact hI _ (by decide) | (rw [am_uR (by decide)]; exact hI _ (by decide))) (by first | rfl | exact hL _ (by decide)) rfl (Nat.le_of_ble_eq_true rfl) (z_ok (m := 99) (Nat.le_of_ble_eq_true rfl)) ?_
  refine w_pr (k := 13) (s := 3) rfl rfl (by first | assumption | rfl) ?_
  refine wp_aload (k := 14) rfl rfl ?_
  refine w_ic (k := 15) (x := nI 64) rfl (oi_nI 64) ?_
  refine k_newa (k := 16) (m := 104) rfl (Nat.le_of_ble_eq_true rfl) rfl rfl (by first | exact hI _ (by decide) | (rw [am_uR (by decide)]; exact hI _ (by decide))) (by first | rfl | exact hL _ (by decide)) rfl (Nat.le_of_ble_eq_true rfl) (z_ok (m := 100) (Nat.le_of_ble_eq_true rfl)) ?_
  refine w_pr (k := 17) (s := 4) rfl rfl (by first | assumption | rfl) ?_
  refine wp_aload (k := 18) rfl rfl ?_
  refine w_ic (k := 19) (x := nI 64) rfl (oi_nI 64) ?_
  refine k_newa (k := 20) (m := 105) rfl (Nat.le_of_ble_eq_true rfl) rfl rfl (by first | exact hI _ (by decide) | (rw [am_uR (by decide)]; exact hI _ (by decide))) (by first | rfl | exact hL _ (by decide)) rfl (Nat.le_of_ble_eq_true rfl) (z_ok (m := 101) (Nat.le_of_ble_eq_true rfl)) ?_
  refine w_pr (k := 21) (s := 5) rfl rfl (by first | assumption | rfl) ?_
  refine wp_aload (k := 22) rfl rfl ?_
  refine w_ic (k := 23) (x := nI 9) rfl (oi_nI 9) ?_
  refine k_newa (k := 24) (m := 106) rfl (Nat.le_of_ble_eq_true rfl) rfl rfl (by first | exact hI _ (by decide) | (rw [am_uR (by decide)]; exact hI _ (by decide))) (by first | rfl | exact hL _ (by decide)) rfl (Nat.le_of_ble_eq_true rfl) (z_ok (m := 102) (Nat.le_of_ble_eq_true rfl)) ?_
  refine w_pr (k := 25) (s := 8) rfl rfl (by first | assumption | rfl) ?_
  refine wp_aload (k := 26) rfl rfl ?_
  refine w_ic (k := 27) (x := nI 9) rfl (oi_nI 9) ?_
  refine k_newa (k := 28) (m := 107) rfl (Nat.le_of_ble_eq_true rfl) rfl rfl (by first | exact hI _ (by decide) | (rw [am_uR (by decide)]; exact hI _ (by decide))) (by first | rfl | exact hL _ (by decide)) rfl (Nat.le_of_ble_eq_true rfl) (z_ok (m := 103) (Nat.le_of_ble_eq_true rfl)) ?_
  refine w_pr (k := 29) (s := 9) rfl rfl (by first | assumption | rfl) ?_
  refine wp_aload (k := 30) rfl rfl ?_
  refine w_ic (k := 31) (x := nI 8) rfl (oi_nI 8) ?_
  refine k_newa (k := 32) (m := 108) rfl (Nat.le_of_ble_eq_true rfl) rfl rfl (by first | exact hI _ (by decide) | (rw [am_uR (by decide)]; exact hI _ (by decide))) (by first | rfl | exact hL _ (by decide)) rfl (Nat.le_of_ble_eq_true rfl) (z_ok (m := 104) (Nat.le_of_ble_eq_true rfl)) ?_
  refine w_pr (k := 33) (s := 10) rfl rfl (by first | assumption | rfl) ?_
  refine wp_aload (k := 34) rfl rfl ?_
  refine w_ic (k := 35) (x := nI 32) rfl (oi_nI 32) ?_
  refine k_newa (k := 36) (m := 109) rfl (Nat.le_of_ble_eq_true rfl) rfl rfl (by first | exact hI _ (by decide) | (rw [am_uR (by decide)]; exact hI _ (by decide))) (by first | rfl | exact hL _ (by decide)) rfl (Nat.le_of_ble_eq_true rfl) (z_ok (m := 105) (Nat.le_of_ble_eq_true rfl)) ?_
  refine w_pr (k := 37) (s := 11) rfl rfl (by first | assumption | rfl) ?_
  refine wp_aload (k := 38) rfl rfl ?_
  refine w_ic (k := 39) (x := nI 32) rfl (oi_nI 32) ?_
  refine k_newa (k := 40) (m := 110) rfl (Nat.le_of_ble_eq_true rfl) rfl rfl (by first | exact hI _ (by decide) | (rw [am_uR (by decide)]; exact hI _ (by decide))) (by first | rfl | exact hL _ (by decide)) rfl (Nat.le_of_ble_eq_true rfl) (z_ok (m := 106) (by decide +kernel)) ?_
  refine w_pr (k := 41) (s := 12) rfl rfl (by first | assumption | rfl) ?_
  refine wp_aload (k := 42) rfl rfl ?_
  refine w_ic (k := 43) (x := nI 32) rfl (oi_nI 32) ?_
  refine k_newa (k := 44) (m := 111) rfl (Nat.le_of_ble_eq_true rfl) rfl rfl (by first | exact hI _ (by decide) | (rw [am_uR (by decide)]; exact hI _ (by decide))) (by first | rfl | exact hL _ (by decide)) rfl (Nat.le_of_ble_eq_true rfl) (z_ok (m := 107) (by decide +kernel)) ?_
  refine w_pr (k := 45) (s := 13) rfl rfl (by first | assumption | rfl) ?_
  refine wp_aload (k := 46) rfl rfl ?_
  refine w_ic (k := 47) (x := nI 400) rfl (oi_nI 400) ?_
  refine k_newa (k := 48) (m := 112) rfl (Nat.le_of_ble_eq_true rfl) rfl rfl (by first | exact hI _ (by decide) | (rw [am_uR (by decide)]; exact hI _ (by decide))) (by first | rfl | exact hL _ (by decide)) rfl (Nat.le_of_ble_eq_true rfl) (z_ok (m := 108) (by decide +kernel)) ?_
  refine w_pr (k := 49) (s := 14) rfl rfl (by first | assumption | rfl) ?_
  refine wp_aload (k := 50) rfl rfl ?_
  refine w_ic (k := 51) (x := nI 500) rfl (oi_nI 500) ?_
  refine k_newa (k := 52) (m := 113) rfl (Nat.le_of_ble_eq_true rfl) rfl rfl (by first | exact hI _ (by decide) | (rw [am_uR (by decide)]; exact hI _ (by decide))) (by first | rfl | exact hL _ (by decide)) rfl (Nat.le_of_ble_eq_true rfl) (z_ok (m := 109) (by decide +kernel)) ?_
  refine w_pr (k := 53) (s := 16) rfl rfl (by first | assumption | rfl) ?_
  refine wp_aload (k := 54) rfl rfl ?_
  refine w_ic (k := 55) (x := nI 16) rfl (oi_nI 16) ?_
  refine k_newa (k := 56) (m := 114) rfl (Nat.le_of_ble_eq_true rfl) rfl rfl (by first | exact hI _ (by decide) | (rw [am_uR (by decide)]; exact hI _ (by decide))) (by first | rfl | exact hL _ (by decide)) rfl (Nat.le_of_ble_eq_true rfl) (z_ok (m := 110) (by decide +kernel)) ?_
  refine w_pr (k := 57) (s := 22) rfl rfl (by first | assumption | rfl) ?_
  refine wp_aload (k := 58) rfl rfl ?_
  refine w_ic (k := 59) (x := nI 8) rfl (oi_nI 8) ?_
  refine k_newa (k := 60) (m := 115) rfl (Nat.le_of_ble_eq_true rfl) rfl rfl (by first | exact hI _ (by decide) | (rw [am_uR (by decide)]; exact hI _ (by decide))) (by first | rfl | exact hL _ (by decide)) rfl (Nat.le_of_ble_eq_true rfl) (z_ok (m := 111) (by decide +kernel)) ?_
  refine w_pr (k := 61) (s := 24) rfl rfl (by first | assumption | rfl) ?_
  refine wp_aload (k := 62) rfl rfl ?_
  refine w_ic (k := 63) (x := nI 8) rfl (oi_nI 8) ?_
  refine k_newa (k := 64) (m := 116) rfl (Nat.le_of_ble_eq_true rfl) rfl rfl (by first | exact hI _ (by decide) | (rw [am_uR (by decide)]; exact hI _ (by decide))) (by first | rfl | exact hL _ (by decide)) rfl (Nat.le_of_ble_eq_true rfl) (z_ok (m := 112) (by decide +kernel)) ?_
  refine w_pr (k := 65) (s := 25) rfl rfl (by first | assumption | rfl) ?_
  refine wp_aload (k := 66) rfl rfl ?_
  refine w_ic (k := 67) (x := nI 8) rfl (oi_nI 8) ?_
  refine k_newa (k := 68) (m := 117) rfl (Nat.le_of_ble_eq_true rfl) rfl rfl (by first | exact hI _ (by decide) | (rw [am_uR (by decide)]; exact hI _ (by decide))) (by first | rfl | exact hL _ (by decide)) rfl (Nat.le_of_ble_eq_true rfl) (z_ok (m := 113) (by decide +kernel)) ?_
  refine w_pr (k := 69) (s := 27) rfl rfl (by first | assumption | rfl) ?_
  refine wp_aload (k := 70) rfl rfl ?_
  refine w_ic (k := 71) (x := nI 2) rfl (oi_nI 2) ?_
  refine w_pi (k := 72) (s := 30) rfl rfl (by first | assumption | rfl) ?_
  refine wp_aload (k := 73) rfl rfl ?_
  refine w_ic (k := 74) (x := nI 4) rfl (oi_nI 4) ?_
  refine k_newa (k := 75) (m := 118) rfl (Nat.le_of_ble_eq_true rfl) rfl rfl (by first | exact hI _ (by decide) | (rw [am_uR (by decide)]; exact hI _ (by decide))) (by first | rfl | exact hL _ (by decide)) rfl (Nat.le_of_ble_eq_true rfl) (z_ok (m := 114) (by decide +kernel)) ?_
  refine w_pr (k := 76) (s := 31) rfl rfl (by first | assumption | rfl) ?_
  refine wp_aload (k := 77) rfl rfl ?_
  refine w_ic (k := 78) (x := nI 4) rfl (oi_nI 4) ?_
  refine k_newa (k := 79) (m := 119) rfl (Nat.le_of_ble_eq_true rfl) rfl rfl (by first | exact hI _ (by decide) | (rw [am_uR (by decide)]; exact hI _ (by decide))) (by first | rfl | exact hL _ (by decide)) rfl (Nat.le_of_ble_eq_true rfl) (z_ok (m := 115) (by decide +kernel)) ?_
  refine w_pr (k := 80) (s := 32) rfl rfl (by first | assumption | rfl) ?_
  refine wp_aload (k := 81) rfl rfl ?_
  refine w_ic (k := 82) (x := nI 8) rfl (oi_nI 8) ?_
  refine k_newa (k := 83) (m := 120) rfl (Nat.le_of_ble_eq_true rfl) rfl rfl (by first | exact hI _ (by decide) | (rw [am_uR (by decide)]; exact hI _ (by decide))) (by first | rfl | exact hL _ (by decide)) rfl (Nat.le_of_ble_eq_true rfl) (z_ok (m := 116) (by decide +kernel)) ?_
  refine w_pr (k := 84) (s := 35) rfl rfl (by first | assumption | rfl) ?_
  refine wp_aload (k := 85) rfl rfl ?_
  refine w_ic (k := 86) (x := nI 8) rfl (oi_nI 8) ?_
  refine k_newa (k := 87) (m := 121) rfl (Nat.le_of_ble_eq_true rfl) rfl rfl (by first | exact hI _ (by decide) | (rw [am_uR (by decide)]; exact hI _ (by decide))) (by first | rfl | exact hL _ (by decide)) rfl (Nat.le_of_ble_eq_true rfl) (z_ok (m := 117) (by decide +kernel)) ?_
  refine w_pr (k := 88) (s := 36) rfl rfl (by first | assumption | rfl) ?_
  refine wp_aload (k := 89) rfl rfl ?_
  refine w_ic (k := 90) (x := nI 8) rfl (oi_nI 8) ?_
  refine k_newa (k := 91) (m := 122) rfl (Nat.le_of_ble_eq_true rfl) rfl rfl (by first | exact hI _ (by decide) | (rw [am_uR (by decide)]; exact hI _ (by decide))) (by first | rfl | exact hL _ (by decide)) rfl (Nat.le_of_ble_eq_true rfl) (z_ok (m := 118) (by decide +kernel)) ?_
  refine w_pr (k := 92) (s := 37) rfl rfl (by first | assumption | rfl) ?_
  refine wp_aload (k := 93) rfl rfl ?_
  refine w_ic (k := 94) (x := nI 8) rfl (oi_nI 8) ?_
  refine k_newa (k := 95) (m := 123) rfl (Nat.le_of_ble_eq_true rfl) rfl rfl (by first | exact hI _ (by decide) | (rw [am_uR (by decide)]; exact hI _ (by decide))) (by first | rfl | exact hL _ (by decide)) rfl (Nat.le_of_ble_eq_true rfl) (z_ok (m := 119) (by decide +kernel)) ?_
  refine w_pr (k := 96) (s := 38) rfl rfl (by first | assumption | rfl) ?_
  refine wp_aload (k := 97) rfl rfl ?_
  refine w_ic (k := 98) (x := nI 8) rfl (oi_nI 8) ?_
  refine k_newa (k := 99) (m := 124) rfl (Nat.le_of_ble_eq_true rfl) rfl rfl (by first | exact hI _ (by decide) | (rw [am_uR (by decide)]; exact hI _ (by decide))) (by first | rfl | exact hL _ (by decide)) rfl (Nat.le_of_ble_eq_true rfl) (z_ok (m := 120) (by decide +kernel)) ?_
  refine w_pr (k := 100) (s := 39) rfl rfl (by first | assumption | rfl) ?_
  refine wp_aload (k := 101) rfl rfl ?_
  refine w_ic (k := 102) (x := nI 8) rfl (oi_nI 8) ?_
  refine k_newa (k := 103) (m := 125) rfl (Nat.le_of_ble_eq_true rfl) rfl rfl (by first | exact hI _ (by decide) | (rw [am_uR (by decide)]; exact hI _ (by decide))) (by first | rfl | exact hL _ (by decide)) rfl (Nat.le_of_ble_eq_true rfl) (z_ok (m := 121) (by decide +kernel)) ?_
  refine w_pr (k := 104) (s := 40) rfl rfl (by first | assumption | rfl) ?_
  refine wp_aload (k := 105) rfl rfl ?_
  refine w_ic (k := 106) (x := nI 24) rfl (oi_nI 24) ?_
  refine k_newa (k := 107) (m := 126) rfl (Nat.le_of_ble_eq_true rfl) rfl rfl (by first | exact hI _ (by decide) | (rw [am_uR (by decide)]; exact hI _ (by decide))) (by first | rfl | exact hL _ (by decide)) rfl (Nat.le_of_ble_eq_true rfl) (z_ok (m := 122) (by decide +kernel)) ?_
  refine w_pr (k := 108) (s := 41) rfl rfl (by first | assumption | rfl) ?_
  refine wp_aload (k := 109) rfl rfl ?_
  refine w_ic (k := 110) (x := nI 8) rfl (oi_nI 8) ?_
  refine k_newa (k := 111) (m := 127) rfl (Nat.le_of_ble_eq_true rfl) rfl rfl (by first | exact hI _ (by decide) | (rw [am_uR (by decide)]; exact hI _ (by decide))) (by first | rfl | exact hL _ (by decide)) rfl (Nat.le_of_ble_eq_true rfl) (z_ok (m := 123) (by decide +kernel)) ?_
  refine w_pr (k := 112) (s := 42) rfl rfl (by first | assumption | rfl) ?_
  refine wp_aload (k := 113) rfl rfl ?_
  refine w_ic (k := 114) (x := nI 128) rfl (oi_nI 128) ?_
  refine k_newa (k := 115) (m := 128) rfl (Nat.le_of_ble_eq_true rfl) rfl rfl (by first | exact hI _ (by decide) | (rw [am_uR (by decide)]; exact hI _ (by decide))) (by first | rfl | exact hL _ (by decide)) rfl (Nat.le_of_ble_eq_true rfl) (z_ok (m := 124) (by decide +kernel)) ?_
  refine w_pr (k := 116) (s := 43) rfl rfl (by first | assumption | rfl) ?_
  refine wp_aload (k := 117) rfl rfl ?_
  refine w_ic (k := 118) (x := nI 128) rfl (oi_nI 128) ?_
  refine k_newa (k := 119) (m := 129) rfl (Nat.le_of_ble_eq_true rfl) rfl rfl (by first | exact hI _ (by decide) | (rw [am_uR (by decide)]; exact hI _ (by decide))) (by first | rfl | exact hL _ (by decide)) rfl (Nat.le_of_ble_eq_true rfl) (z_ok (m := 125) (by decide +kernel)) ?_
  refine w_pr (k := 120) (s := 44) rfl rfl (by first | assumption | rfl) ?_
  refine wp_aload (k := 121) rfl rfl ?_
  refine w_ic (k := 122) (x := nI 8) rfl (oi_nI 8) ?_
  refine k_newa (k := 123) (m := 130) rfl (Nat.le_of_ble_eq_true rfl) rfl rfl (by first | exact hI _ (by decide) | (rw [am_uR (by decide)]; exact hI _ (by decide))) (by first | rfl | exact hL _ (by decide)) rfl (Nat.le_of_ble_eq_true rfl) (z_ok (m := 126) (by decide +kernel)) ?_
  refine w_pr (k := 124) (s := 45) rfl rfl (by first | assumption | rfl) ?_
  refine wp_aload (k := 125) rfl rfl ?_
  refine w_ic (k := 126) (x := nI 64) rfl (oi_nI 64) ?_
  refine k_newa (k := 127) (m := 131) rfl (Nat.le_of_ble_eq_true rfl) rfl rfl (by first | exact hI _ (by decide) | (rw [am_uR (by decide)]; exact hI _ (by decide))) (by first | rfl | exact hL _ (by decide)) rfl (Nat.le_of_ble_eq_true rfl) (z_ok (m := 127) (by decide +kernel)) ?_
  refine w_pr (k := 128) (s := 46) rfl rfl (by first | assumption | rfl) ?_
  refine wp_aload (k := 129) rfl rfl ?_
  refine w_ic (k := 130) (x := nI 64) rfl (oi_nI 64) ?_
  refine k_newa (k := 131) (m := 132) rfl (Nat.le_of_ble_eq_true rfl) rfl rfl (by first | exact hI _ (by decide) | (rw [am_uR (by decide)]; exact hI _ (by decide))) (by first | rfl | exact hL _ (by decide)) rfl (Nat.le_of_ble_eq_true rfl) (z_ok (m := 128) (by decide +kernel)) ?_
  refine w_pr (k := 132) (s := 47) rfl rfl (by first | assumption | rfl) ?_
  refine wp_aload (k := 133) rfl rfl ?_
  refine w_ic (k := 134) (x := nI 64) rfl (oi_nI 64) ?_
  refine k_newa (k := 135) (m := 133) rfl (Nat.le_of_ble_eq_true rfl) rfl rfl (by first | exact hI _ (by decide) | (rw [am_uR (by decide)]; exact hI _ (by decide))) (by first | rfl | exact hL _ (by decide)) rfl (Nat.le_of_ble_eq_true rfl) (z_ok (m := 129) (by decide +kernel)) ?_
  refine w_pr (k := 136) (s := 48) rfl rfl (by first | assumption | rfl) ?_
  refine wp_aload (k := 137) rfl rfl ?_
  refine w_ic (k := 138) (x := nI 64) rfl (oi_nI 64) ?_
  refine k_newa (k := 139) (m := 134) rfl (Nat.le_of_ble_eq_true rfl) rfl rfl (by first | exact hI _ (by decide) | (rw [am_uR (by decide)]; exact hI _ (by decide))) (by first | rfl | exact hL _ (by decide)) rfl (Nat.le_of_ble_eq_true rfl) (z_ok (m := 130) (by decide +kernel)) ?_
  refine w_pr (k := 140) (s := 49) rfl rfl (by first | assumption | rfl) ?_
  refine wp_aload (k := 141) rfl rfl ?_
  refine w_ic (k := 142) (x := nI 100) rfl (oi_nI 100) ?_
  refine k_newa (k := 143) (m := 135) rfl (Nat.le_of_ble_eq_true rfl) rfl rfl (by first | exact hI _ (by decide) | (rw [am_uR (by decide)]; exact hI _ (by decide))) (by first | rfl | exact hL _ (by decide)) rfl (Nat.le_of_ble_eq_true rfl) (z_ok (m := 131) (by decide +kernel)) ?_
  refine w_pr (k := 144) (s := 50) rfl rfl (by first | assumption | rfl) ?_
  refine wp_aload (k := 145) rfl rfl ?_
  refine w_ic (k := 146) (x := nI 100) rfl (oi_nI 100) ?_
  refine k_newa (k := 147) (m := 136) rfl (Nat.le_of_ble_eq_true rfl) rfl rfl (by first | exact hI _ (by decide) | (rw [am_uR (by decide)]; exact hI _ (by decide))) (by first | rfl | exact hL _ (by decide)) rfl (Nat.le_of_ble_eq_true rfl) (z_ok (m := 132) (by decide +kernel)) ?_
  refine w_pr (k := 148) (s := 51) rfl rfl (by first | assumption | rfl) ?_
  refine wp_aload (k := 149) rfl rfl ?_
  refine w_ic (k := 150) (x := nI 100) rfl (oi_nI 100) ?_
  refine k_newa (k := 151) (m := 137) rfl (Nat.le_of_ble_eq_true rfl) rfl rfl (by first | exact hI _ (by decide) | (rw [am_uR (by decide)]; exact hI _ (by decide))) (by first | rfl | exact hL _ (by decide)) rfl (Nat.le_of_ble_eq_true rfl) (z_ok (m := 133) (by decide +kernel)) ?_
  refine w_pr (k := 152) (s := 52) rfl rfl (by first | assumption | rfl) ?_
  refine wp_aload (k := 153) rfl rfl ?_
  refine w_ic (k := 154) (x := nI 8) rfl (oi_nI 8) ?_
  refine k_newa (k := 155) (m := 138) rfl (Nat.le_of_ble_eq_true rfl) rfl rfl (by first | exact hI _ (by decide) | (rw [am_uR (by decide)]; exact hI _ (by decide))) (by first | rfl | exact hL _ (by decide)) rfl (Nat.le_of_ble_eq_true rfl) (z_ok (m := 134) (by decide +kernel)) ?_
  refine w_pr (k := 156) (s := 57) rfl rfl (by first | assumption | rfl) ?_
  refine (congrArg (fun R => am_V 165 am_c165 (d + 2) (sT N 101) Q 157 [some (.ref 100), none, none, none, none] [] (sT N 139, am_u I 100 30 (nI 2), L, R)) (RR_eq ?_ ?_)).mpr ?_
  · repeat (first | exact Rb_c | refine Rb_u (by decide) (by decide) ?_)
  · decide +kernel
  · have hs : sT N 139 = am_SH N := rfl
    show am_V 165 am_c165 (d + 2) (sT N 101) Q 157 [some (.ref 100), none, none, none, none] [] (sT N 139, am_u I 100 30 (nI 2), L, am_RR none)
    rw [hs]
    refine w_ic (k := 157) (x := nI 0) rfl (oi_nI 0) ?_
    refine wp_istore (k := 158) (ls2 := [some _, some _, none, none, none]) rfl rfl ?_
    refine w_ic (k := 159) (x := nI 2) rfl (oi_nI 2) ?_
    refine wp_istore (k := 160) (ls2 := [some _, some _, some _, none, none]) rfl rfl ?_
    exact c_165g fin1
end CM
