/-! ===== more rules: a compare of longs with the branch behind it ===== -/
theorem lc_lt (x y : Int64) : lg_cmp x y < 0 ↔ x < y := by
  unfold lg_cmp
  by_cases h : x > y
  · rw [if_pos h]
    exact ⟨fun q => absurd q (by decide), fun q => absurd (Int64.lt_trans q h) (Int64.lt_irrefl)⟩
  · rw [if_neg h]
    by_cases e : x = y
    · rw [if_pos e]
      exact ⟨fun q => absurd q (by decide), fun q => absurd (e ▸ q) (Int64.lt_irrefl)⟩
    · rw [if_neg e]
      exact ⟨fun _ => Int64.lt_of_le_of_ne (Int64.not_lt.mp h) e, fun _ => by decide⟩
theorem lc_gt (x y : Int64) : 0 < lg_cmp x y ↔ y < x := by
  unfold lg_cmp
  by_cases h : x > y
  · rw [if_pos h]
    exact ⟨fun _ => h, fun _ => by decide⟩
  · rw [if_neg h]
    by_cases e : x = y
    · rw [if_pos e]
      exact ⟨fun q => absurd q (by decide), fun q => absurd q h⟩
    · rw [if_neg e]
      exact ⟨fun q => absurd q (by decide), fun q => absurd q h⟩
theorem lc_eq (x y : Int64) : lg_cmp x y = 0 ↔ x = y := by
  unfold lg_cmp
  by_cases h : x > y
  · rw [if_pos h]
    exact ⟨fun q => absurd q (by decide), fun q => absurd (q ▸ h) (Int64.lt_irrefl)⟩
  · rw [if_neg h]
    by_cases e : x = y
    · rw [if_pos e]
      exact ⟨fun _ => e, fun _ => rfl⟩
    · rw [if_neg e]
      exact ⟨fun q => absurd q (by decide), fun q => absurd q e⟩
theorem lc_le (x y : Int64) : lg_cmp x y ≤ 0 ↔ x ≤ y := by rw [← Int32.not_lt, lc_gt, Int64.not_lt]
theorem lc_ge (x y : Int64) : 0 ≤ lg_cmp x y ↔ y ≤ x := by rw [← Int32.not_lt, lc_lt, Int64.not_lt]
section WL
variable {cN cZ d : Nat} {cs : List Instr} {C : am_C} {Z : am_Q} {k : Nat} {ls : List (Option Value)} {st : List Value} {h : am_H}
theorem w_L_eq {t : Int} {t' : Nat} {x y : Int64} (hc : am_nth cs k = .lcmp) (hd : am_nth cs (k + 1) = .ifCond .eq t) (ht' : t.toNat = t') (ht : x = y → am_WP am_rc am_na am_mc am_ms cN cZ cs C Z t' ls st h) (hf : ¬ x = y → am_WP am_rc am_na am_mc am_ms cN cZ cs C Z (k + 2) ls st h) : am_WP am_rc am_na am_mc am_ms cN cZ cs C Z k ls (.long y :: .long x :: st) h :=
  wp_lcmp hc (w_z_eq hd ht' (fun q => ht ((lc_eq x y).mp q)) (fun q => hf (fun e => q ((lc_eq x y).mpr e))))
theorem w_L_ne {t : Int} {t' : Nat} {x y : Int64} (hc : am_nth cs k = .lcmp) (hd : am_nth cs (k + 1) = .ifCond .ne t) (ht' : t.toNat = t') (ht : ¬ x = y → am_WP am_rc am_na am_mc am_ms cN cZ cs C Z t' ls st h) (hf : x = y → am_WP am_rc am_na am_mc am_ms cN cZ cs C Z (k + 2) ls st h) : am_WP am_rc am_na am_mc am_ms cN cZ cs C Z k ls (.long y :: .long x :: st) h :=
  wp_lcmp hc (w_z_ne hd ht' (fun q => ht (fun e => q ((lc_eq x y).mpr e))) (fun q => hf ((lc_eq x y).mp q)))
theorem w_L_lt {t : Int} {t' : Nat} {x y : Int64} (hc : am_nth cs k = .lcmp) (hd : am_nth cs (k + 1) = .ifCond .lt t) (ht' : t.toNat = t') (ht : x < y → am_WP am_rc am_na am_mc am_ms cN cZ cs C Z t' ls st h) (hf : ¬ x < y → am_WP am_rc am_na am_mc am_ms cN cZ cs C Z (k + 2) ls st h) : am_WP am_rc am_na am_mc am_ms cN cZ cs C Z k ls (.long y :: .long x :: st) h :=
  wp_lcmp hc (w_z_lt hd ht' (fun q => ht ((lc_lt x y).mp q)) (fun q => hf (fun e => q ((lc_lt x y).mpr e))))
theorem w_L_ge {t : Int} {t' : Nat} {x y : Int64} (hc : am_nth cs k = .lcmp) (hd : am_nth cs (k + 1) = .ifCond .ge t) (ht' : t.toNat = t') (ht : y ≤ x → am_WP am_rc am_na am_mc am_ms cN cZ cs C Z t' ls st h) (hf : ¬ y ≤ x → am_WP am_rc am_na am_mc am_ms cN cZ cs C Z (k + 2) ls st h) : am_WP am_rc am_na am_mc am_ms cN cZ cs C Z k ls (.long y :: .long x :: st) h :=
  wp_lcmp hc (w_z_ge hd ht' (fun q => ht ((lc_ge x y).mp q)) (fun q => hf (fun e => q ((lc_ge x y).mpr e))))
theorem w_L_gt {t : Int} {t' : Nat} {x y : Int64} (hc : am_nth cs k = .lcmp) (hd : am_nth cs (k + 1) = .ifCond .gt t) (ht' : t.toNat = t') (ht : y < x → am_WP am_rc am_na am_mc am_ms cN cZ cs C Z t' ls st h) (hf : ¬ y < x → am_WP am_rc am_na am_mc am_ms cN cZ cs C Z (k + 2) ls st h) : am_WP am_rc am_na am_mc am_ms cN cZ cs C Z k ls (.long y :: .long x :: st) h :=
  wp_lcmp hc (w_z_gt hd ht' (fun q => ht ((lc_gt x y).mp q)) (fun q => hf (fun e => q ((lc_gt x y).mpr e))))
theorem w_L_le {t : Int} {t' : Nat} {x y : Int64} (hc : am_nth cs k = .lcmp) (hd : am_nth cs (k + 1) = .ifCond .le t) (ht' : t.toNat = t') (ht : x ≤ y → am_WP am_rc am_na am_mc am_ms cN cZ cs C Z t' ls st h) (hf : ¬ x ≤ y → am_WP am_rc am_na am_mc am_ms cN cZ cs C Z (k + 2) ls st h) : am_WP am_rc am_na am_mc am_ms cN cZ cs C Z k ls (.long y :: .long x :: st) h :=
  wp_lcmp hc (w_z_le hd ht' (fun q => ht ((lc_le x y).mp q)) (fun q => hf (fun e => q ((lc_le x y).mpr e))))
end WL
/-! ===== numbers ===== -/
def uI (x : Int32) : Nat := x.toBitVec.toNat
theorem uI_lt (x : Int32) : uI x < 2 ^ 32 := x.toBitVec.isLt
theorem nI_uI (x : Int32) : nI (uI x) = x := by
  apply Int32.toBitVec_inj.mp
  show BitVec.ofNat 32 x.toBitVec.toNat = x.toBitVec
  simp
theorem uI_nI {n : Nat} (h : n < 2 ^ 32) : uI (nI n) = n := pk_tn h
theorem uI_mod (n : Nat) : uI (nI n) = n % 2 ^ 32 := rfl
theorem lN_uN (x : Int64) : lN (uN x) = x := by
  apply Int64.toBitVec_inj.mp
  show BitVec.ofNat 64 x.toBitVec.toNat = x.toBitVec
  simp
theorem uN_lN {n : Nat} (h : n < 2 ^ 64) : uN (lN n) = n := lN_nat h
theorem uN_modl (n : Nat) : uN (lN n) = n % 2 ^ 64 := rfl
theorem bt_nI (m i : Nat) (hi : i < 32) : bt (nI m) i = m.testBit i := by
  unfold bt
  show (BitVec.ofNat 32 m).getLsbD i = _
  rw [BitVec.getLsbD_ofNat]
  simp [hi]
theorem bt_uI (x : Int32) (i : Nat) : bt x i = (uI x).testBit i := rfl
/-- the byte at bit n -/
theorem i_sb (x : Int32) {n : Nat} (hn : n ≤ 24) : (x >>> (nI n &&& 31)) &&& nI 255 = nI (uI x / 2 ^ n % 256) := by
  apply b_ext
  intro i hi
  rw [b_and, b_sshr n (by omega) x hi, bt_nI _ _ hi, bt_nI _ _ hi, show (256 : Nat) = 2 ^ 8 from rfl, Nat.testBit_mod_two_pow, Nat.testBit_div_two_pow, show (255 : Nat) = 2 ^ 8 - 1 from rfl, Nat.testBit_two_pow_sub_one]
  by_cases h8 : i < 8
  · rw [if_pos (by omega)]
    simp [h8, bt_uI, Nat.add_comm]
  · simp [h8]
theorem i_b0 (x : Int32) : x &&& nI 255 = nI (uI x % 256) := pk_and x 8 rfl
theorem i_shl {a k : Nat} (hk : k < 32) (h : a * 2 ^ k < 2 ^ 32) : nI a <<< (nI k &&& 31) = nI (a * 2 ^ k) := pk_shlN _ k (s_l k hk) h
theorem i_or {k a b : Nat} (h : b < 2 ^ k) : nI (a * 2 ^ k) ||| nI b = nI (a * 2 ^ k + b) := by rw [Nat.mul_comm]; exact fa_or_sum a h
theorem i_shr {a k : Nat} (h : a < 2 ^ 31) (hk : k < 32) : nI a >>> (nI k &&& 31) = nI (a / 2 ^ k) := pk_shrN h _ k (s_l k hk)
theorem uN_i (x : Int32) : uN x.toInt64 % 2 ^ 32 = uI x := by
  show (x.toBitVec.signExtend 64).toNat % 2 ^ 32 = x.toBitVec.toNat
  have h : ((x.toBitVec.signExtend 64).setWidth 32) = x.toBitVec := by
    apply BitVec.eq_of_getLsbD_eq
    intro i hi
    rw [BitVec.getLsbD_setWidth, BitVec.getLsbD_signExtend]
    simp [hi, show i < 64 by omega]
  have h2 := congrArg BitVec.toNat h
  rw [BitVec.toNat_setWidth] at h2
  exact h2
theorem uI_l (x : Int64) : uI x.toInt32 = uN x % 2 ^ 32 := by
  conv => lhs; rw [← lN_uN x]
  rw [lN_i]
  rfl
