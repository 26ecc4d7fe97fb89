/-! ===== the law's loop, its start ===== -/
theorem lt_6 {i N : Nat} (hi : i ≤ 4000) (hN : N ≤ 4000) : nI N - nI 6 < nI i ↔ N < i + 6 := by
  rw [Int32.lt_iff_toInt_lt, Int32.toInt_sub, nI_toInt (by omega), nI_toInt (by omega), nI_toInt (by omega)]
  rw [Int.bmod_eq_of_le (by omega) (by omega)]
  omega
theorem and31 (x : Int32) : ∃ j, j < 32 ∧ x &&& nI 31 = nI j := by
  refine ⟨uI x &&& 31, Nat.lt_of_le_of_lt Nat.and_le_right (by decide), ?_⟩
  conv => lhs; rw [← nI_uI x]
  exact nx_and _ _
section LL
variable {N : Nat} {xs : Nat → Int32}
set_option maxRecDepth 8192 in
theorem lw_end {i : Nat} {h : am_H} : lW N 922 i h := by
  unfold lW
  refine w_ic (k := 922) (x := nI 1) rfl (oi_nI 1) ?_
  exact wp_ireturn (k := 923) rfl rfl
set_option maxRecDepth 8192 in
theorem lw_go {i : Nat} {h : am_H} (hi : i ≤ 3072) (hn : lW N 10 (i + 6) h) : lW N 920 i h := by
  unfold lW at hn ⊢
  refine w_incN (k := 920) (m := 6) rfl (oi_nI 6) rfl ?_
  refine w_ls (ls2 := [some _, some _, some _, some _]) rfl ?_
  refine w_goto (k := 921) (t' := 10) rfl rfl ?_
  exact hn
set_option maxRecDepth 8192 in
theorem lw_loop (hN : N ≤ 3072) : ∀ (f i : Nat) (I : Nat → Nat → Int32) (L : Nat → Nat → Int64) (w : Option Nat) (A : List Nat) (U : UR) (rl : List Nat) (fr : Int64) (n : Int32) (F : FR) (al : Nat → Option AL) (t : Int64) (s : SN) (T : Nat → Int32), i ≤ 3072 → N < i + 6 * (f + 1) → I 3 = xs → INV I L A U rl fr n F al t s T → lW N 10 i (am_SH N, I, L, am_RR w) := by
  intro f
  induction f with
  | zero =>
    intro i I L w A U rl fr n F al t s T hi hf h3 h
    unfold lW
    refine wp_iload (k := 10) rfl rfl ?_
    refine wp_aload (k := 11) rfl rfl ?_
    refine w_alen (k := 12) rfl (by first | assumption | rfl) (by decide) ?_
    refine w_ic (k := 13) (x := nI 6) rfl (oi_nI 6) ?_
    refine wp_isub (k := 14) rfl ?_
    refine w_c_gt (k := 15) (t' := 922) rfl rfl (fun zq => ?_) (fun zq => absurd ((lt_6 (by omega) (by omega)).mpr (by omega)) zq)
    exact lw_end
  | succ f ih =>
    intro i I L w A U rl fr n F al t s T hi hf h3 h
    unfold lW
    refine wp_iload (k := 10) rfl rfl ?_
    refine wp_aload (k := 11) rfl rfl ?_
    refine w_alen (k := 12) rfl (by first | assumption | rfl) (by decide) ?_
    refine w_ic (k := 13) (x := nI 6) rfl (oi_nI 6) ?_
    refine wp_isub (k := 14) rfl ?_
    refine w_c_gt (k := 15) (t' := 922) rfl rfl (fun k1 => ?_) (fun k1 => ?_)
    · exact lw_end
    · have hi6 : i + 6 ≤ N := by
        have := mt (lt_6 (i := i) (N := N) (by omega) (by omega)).mpr k1
        omega
      have nx : NXT N i xs := fun I' L' w' A' U' rl' fr' n' F' al' t' s' T' y1 y2 => lw_go hi (ih (i + 6) I' L' w' A' U' rl' fr' n' F' al' t' s' T' (by omega) (by omega) y1 y2)
      obtain ⟨j, hj, e⟩ := and31 (xs i)
      refine wp_aload (k := 16) rfl rfl ?_
      refine wp_iload (k := 17) rfl rfl ?_
      refine w_iald (k := 18) rfl rfl (by first | assumption | rfl) (by omega) (show I 3 i = xs i by rw [h3]) ?_
      refine w_ic (k := 19) (x := nI 31) rfl (oi_nI 31) ?_
      refine wp_iand (k := 20) rfl ?_
      rw [e]
      match j, hj with
      | 0, _ =>
        refine w_sw (k := 21) (t' := 22) rfl (by decide) ?_
        exact lc_0 h3 hi6 hN h nx
      | 1, _ =>
        refine w_sw (k := 21) (t' := 79) rfl (by decide) ?_
        exact lc_1 h3 hi6 hN h nx
      | 2, _ =>
        refine w_sw (k := 21) (t' := 96) rfl (by decide) ?_
        exact lc_2 h3 hi6 hN h nx
      | 3, _ =>
        refine w_sw (k := 21) (t' := 143) rfl (by decide) ?_
        exact lc_3 h3 hi6 hN h nx
      | 4, _ =>
        refine w_sw (k := 21) (t' := 180) rfl (by decide) ?_
        exact lc_4 h3 hi6 hN h nx
      | 5, _ =>
        refine w_sw (k := 21) (t' := 265) rfl (by decide) ?_
        exact lc_5 h3 hi6 hN h nx
      | 6, _ =>
        refine w_sw (k := 21) (t' := 316) rfl (by decide) ?_
        exact lc_6 h3 hi6 hN h nx
      | 7, _ =>
        refine w_sw (k := 21) (t' := 353) rfl (by decide) ?_
        exact lc_7 h3 hi6 hN h nx
      | 8, _ =>
        refine w_sw (k := 21) (t' := 428) rfl (by decide) ?_
        exact lc_8 h3 hi6 hN h nx
      | 9, _ =>
        refine w_sw (k := 21) (t' := 435) rfl (by decide) ?_
        exact lc_9 h3 hi6 hN h nx
      | 10, _ =>
        refine w_sw (k := 21) (t' := 452) rfl (by decide) ?_
        exact lc_10 h3 hi6 hN h nx
      | 11, _ =>
        refine w_sw (k := 21) (t' := 479) rfl (by decide) ?_
        exact lc_11 h3 hi6 hN h nx
      | 12, _ =>
        refine w_sw (k := 21) (t' := 554) rfl (by decide) ?_
        exact lc_12 h3 hi6 hN h nx
      | 13, _ =>
        refine w_sw (k := 21) (t' := 595) rfl (by decide) ?_
        exact lc_13 h3 hi6 hN h nx
      | 14, _ =>
        refine w_sw (k := 21) (t' := 636) rfl (by decide) ?_
        exact lc_14 h3 hi6 hN h nx
      | 15, _ =>
        refine w_sw (k := 21) (t' := 653) rfl (by decide) ?_
        exact lc_15 h3 hi6 hN h nx
      | 16, _ =>
        refine w_sw (k := 21) (t' := 680) rfl (by decide) ?_
        exact lc_16 h3 hi6 hN h nx
      | 17, _ =>
        refine w_sw (k := 21) (t' := 697) rfl (by decide) ?_
        exact lc_17 h3 hi6 hN h nx
      | 18, _ =>
        refine w_sw (k := 21) (t' := 724) rfl (by decide) ?_
        exact lc_18 h3 hi6 hN h nx
      | 19, _ =>
        refine w_sw (k := 21) (t' := 761) rfl (by decide) ?_
        exact lc_19 h3 hi6 hN h nx
      | 20, _ =>
        refine w_sw (k := 21) (t' := 778) rfl (by decide) ?_
        exact lc_20 h3 hi6 hN h nx
      | 21, _ =>
        refine w_sw (k := 21) (t' := 795) rfl (by decide) ?_
        exact lc_21 h3 hi6 hN h nx
      | 22, _ =>
        refine w_sw (k := 21) (t' := 822) rfl (by decide) ?_
        exact lc_22 h3 hi6 hN h nx
      | 23, _ =>
        refine w_sw (k := 21) (t' := 849) rfl (by decide) ?_
        exact lc_23 h3 hi6 hN h nx
      | 24, _ =>
        refine w_sw (k := 21) (t' := 876) rfl (by decide) ?_
        exact lc_24 h3 hi6 hN h nx
      | 25, _ =>
        refine w_sw (k := 21) (t' := 903) rfl (by decide) ?_
        exact lc_25 h3 hi6 hN h nx
      | 26, _ =>
        refine w_sw (k := 21) (t' := 920) rfl (by decide) ?_
        exact nx I L w A U rl fr n F al t s T h3 h
      | 27, _ =>
        refine w_sw (k := 21) (t' := 920) rfl (by decide) ?_
        exact nx I L w A U rl fr n F al t s T h3 h
      | 28, _ =>
        refine w_sw (k := 21) (t' := 920) rfl (by decide) ?_
        exact nx I L w A U rl fr n F al t s T h3 h
      | 29, _ =>
        refine w_sw (k := 21) (t' := 920) rfl (by decide) ?_
        exact nx I L w A U rl fr n F al t s T h3 h
      | 30, _ =>
        refine w_sw (k := 21) (t' := 920) rfl (by decide) ?_
        exact nx I L w A U rl fr n F al t s T h3 h
      | 31, _ =>
        refine w_sw (k := 21) (t' := 920) rfl (by decide) ?_
        exact nx I L w A U rl fr n F al t s T h3 h
      | n + 32, hj => exact absurd hj (by omega)
end LL
theorem am_I0_z (xs : Nat → Int32) : ∀ m, 4 ≤ m → am_I0 xs m = fun _ => 0
  | 0, h => absurd h (by decide)
  | 1, h => absurd h (by decide)
  | 2, h => absurd h (by decide)
  | 3, h => absurd h (by decide)
  | _ + 4, _ => rfl
theorem z_law {N m k : Nat} (h : am_sl (sT 0 (m + 4)) + k ≤ am_sl (sT 0 4) + 7302249) : am_sl (sT N (m + 4)) + k ≤ am_sl (sT N 4) + 7302249 := by
  have := slN N 0
  rw [slN, show sT N 4 = sT N (0 + 4) from rfl, this]
  show N + am_sl (sT 0 (m + 4)) + k ≤ N + am_sl (sT 0 4) + 7302249
  omega
theorem inv_0 {I : Nat → Nat → Int32} {L : Nat → Nat → Int64} {xs : Nat → Int32} (m1 : mk I) (r1 : I 117 0 = nI 114) (r2 : I 100 28 = nI 1) (r3 : I 100 30 = nI 2) (f : ∀ x, x ≠ 100 → x ≠ 101 → x ≠ 102 → x ≠ 117 → I x = am_u (am_I0 xs) 18 5 (nI 2) x) (f2 : ∀ s, s ≠ 28 → s ≠ 30 → I 100 s = am_u (am_I0 xs) 18 5 (nI 2) 100 s) (g : ∀ x, x ≠ 106 → x ≠ 107 → L x = am_u (fun _ _ => 0) 18 3 (lN 114) x) : INV I L [] [] [114] 0 (nI 2) [] (fun _ => none) 0 (false, 0, 0, 0, []) (fun _ => 0) := by
  have z : ∀ x k, 4 ≤ x → x ≠ 18 → x ≠ 100 → x ≠ 101 → x ≠ 102 → x ≠ 117 → I x k = 0 := fun x k h1 h2 h3 h4 h5 h6 => by rw [f x h3 h4 h5 h6, am_uR h2, am_I0_z xs x h1]
  have z18 : ∀ k, k ≠ 5 → I 18 k = 0 := fun k hk => by rw [f 18 (by decide) (by decide) (by decide) (by decide), am_uw hk rfl]; rfl
  have z100 : ∀ k, k ≠ 28 → k ≠ 30 → I 100 k = 0 := fun k h1 h2 => by rw [f2 k h1 h2, am_uR (by decide)]; rfl
  have zL : ∀ x k, x ≠ 18 → x ≠ 106 → x ≠ 107 → L x k = 0 := fun x k h1 h2 h3 => by rw [g x h2 h3, am_uR h1]
  have rwz : ∀ p b c, 4 ≤ p → p ≠ 18 → p < 100 → rw_B I p b c [] := fun p b c h1 h2 h3 => ⟨Nat.zero_le _, z p 1 h1 h2 (by omega) (by omega) (by omega) (by omega), fun i hi => absurd hi (Nat.not_lt_zero _), fun c hc => absurd hc List.not_mem_nil⟩
  refine ⟨⟨⟨rwz 5 6 400 (by decide) (by decide) (by decide), ⟨fun i hi => ?_, fun i hi => ?_, fun i hi => ?_⟩, ⟨[], rwz _ _ _ (by decide) (by decide) (by decide)⟩, ⟨[], rwz _ _ _ (by decide) (by decide) (by decide)⟩, ⟨[], rwz _ _ _ (by decide) (by decide) (by decide)⟩⟩, ⟨?_, ?_, ?_, ⟨z18 2 (by decide), fun i hi => absurd hi (Nat.not_lt_zero _)⟩, ⟨z 21 2 (by decide) (by decide) (by decide) (by decide) (by decide) (by decide), fun i hi => absurd hi (Nat.not_lt_zero _)⟩⟩, ⟨fun k hk => z _ 0 (by omega) (by omega) (by omega) (by omega) (by omega) (by omega), zL 24 1 (by decide) (by decide) (by decide)⟩, ⟨⟨z 82 3 (by decide) (by decide) (by decide) (by decide) (by decide) (by decide), z 82 4 (by decide) (by decide) (by decide) (by decide) (by decide) (by decide), z 82 5 (by decide) (by decide) (by decide) (by decide) (by decide) (by decide), z 82 6 (by decide) (by decide) (by decide) (by decide) (by decide) (by decide), rwz _ _ _ (by decide) (by decide) (by decide)⟩, ⟨z 85 5 (by decide) (by decide) (by decide) (by decide) (by decide) (by decide), z 85 6 (by decide) (by decide) (by decide) (by decide) (by decide) (by decide), z 85 9 (by decide) (by decide) (by decide) (by decide) (by decide) (by decide), fun h => absurd h (by decide)⟩, fun j hj => z 90 _ (by decide) (by decide) (by decide) (by decide) (by decide) (by decide)⟩⟩, ⟨⟨⟨z100 15 (by decide) (by decide), ⟨fun i hi => absurd hi (Nat.not_lt_zero _), fun c hc => absurd hc List.not_mem_nil⟩, by decide⟩, m1, ⟨r2, fun i hi => ?_, by decide⟩⟩, ⟨zL 100 29 (by decide) (by decide) (by decide), r3, ⟨z100 26 (by decide) (by decide), fun i hi => absurd hi (Nat.not_lt_zero _)⟩, ⟨z100 33 (by decide) (by decide), fun i hi => absurd hi (Nat.not_lt_zero _)⟩⟩, ⟨fun k hk => z 120 k (by decide) (by decide) (by decide) (by decide) (by decide) (by decide), zL 100 34 (by decide) (by decide) (by decide)⟩, ⟨⟨z100 18 (by decide) (by decide), z100 19 (by decide) (by decide), z100 20 (by decide) (by decide), z100 21 (by decide) (by decide), ⟨z100 17 (by decide) (by decide), ⟨fun i hi => absurd hi (Nat.not_lt_zero _), fun c hc => absurd hc List.not_mem_nil⟩, by decide⟩⟩, fun j hj => z100 _ (by omega) (by omega)⟩⟩, ⟨⟨by decide, by decide⟩, ⟨by decide, fun u hu => absurd hu List.not_mem_nil, fun i j _ hj => absurd hj (Nat.not_lt_zero _)⟩, ⟨by decide, fun u hu => absurd hu List.not_mem_nil⟩, ⟨fun k a _ h => (by cases h), fun i j a b _ _ h => (by cases h)⟩, sn_420 (fun _ => rfl) (by decide)⟩⟩
  · rw [f 0 (by decide) (by decide) (by decide) (by decide), am_uR (by decide)]; rfl
  · rw [f 1 (by decide) (by decide) (by decide) (by decide), am_uR (by decide)]; rfl
  · rw [f 2 (by decide) (by decide) (by decide) (by decide), am_uR (by decide)]; rfl
  · rw [g 18 (by decide) (by decide), am_us]; rfl
  · rw [g 18 (by decide) (by decide), am_uw (by decide) rfl]
  · rw [f 18 (by decide) (by decide) (by decide) (by decide), am_us]
  · have : i = 0 := by have : i < 1 := hi; omega
    rw [this]; exact r1
theorem lw_all {N : Nat} {xs : Nat → Int32} (hN : N ≤ 3072) : am_WP am_rc am_na am_mc am_ms (4 + 600000) (am_sl (am_h0 N xs).1 + 7302249) (am_cs am_NM) (am_call 12) (fun r _ => r = some (.int 1)) 0 [some (.ref 3), none, none, none] [] (am_h0 N xs) := by
  have hI := am_I0_z xs
  have e : am_cs am_NM = am_c271 := rfl
  rw [e]
  show am_WP am_rc am_na am_mc am_ms (4 + 600000) (am_sl (sT N 4) + 7302249) am_c271 (am_call 12) lZ 0 [some (.ref 3), none, none, none] [] (sT N 4, am_I0 xs, fun _ _ => 0, fun _ _ => none)
  refine k_new (k := 0) (m := 4) rfl rfl rfl (hI 4 (by decide)) rfl rfl (by decide) (z_law (m := 0) (by decide)) ?_
  refine wp_dup (k := 1) rfl rfl ?_
  refine w_Iv (k := 2) [] rfl rfl rfl (Nat.le_of_ble_eq_true rfl) rfl (Or.inr ⟨Nat.le_of_ble_eq_true rfl, z_law (m := 1) (by decide)⟩) ?_
  refine c_138 hI ⟨rfl, ?_⟩
  refine wp_astore (k := 3) (ls2 := [some _, some _, none, none]) rfl rfl ?_
  refine k_new (k := 4) (m := 100) rfl rfl rfl (by rw [am_uR (by decide)]; exact hI _ (by decide)) rfl rfl (by decide) (z_law (m := 96) (by decide +kernel)) ?_
  refine wp_dup (k := 5) rfl rfl ?_
  refine w_Iv (k := 6) [] rfl rfl rfl (Nat.le_of_ble_eq_true rfl) rfl (Or.inr ⟨Nat.le_of_ble_eq_true rfl, z_law (m := 97) (by decide +kernel)⟩) ?_
  refine c_165 (fun m hm => by rw [am_uR (by omega)]; exact hI m (by omega)) (fun m hm => by rw [am_uR (by omega)]) (fun I' L' m1 r1 r2 r3 f f2 g => ⟨rfl, ?_⟩)
  refine wp_astore (k := 7) (ls2 := [some _, some _, some _, none]) rfl rfl ?_
  refine w_ic (k := 8) (x := nI 0) rfl (oi_nI 0) ?_
  refine wp_istore (k := 9) (ls2 := [some _, some _, some _, some _]) rfl rfl ?_
  exact lw_loop (xs := xs) hN 600 0 I' L' none [] [] [114] 0 (nI 2) [] (fun _ => none) 0 (false, 0, 0, 0, []) (fun _ => 0) (by decide) (by omega) (by rw [f 3 (by decide) (by decide) (by decide) (by decide), am_uR (by decide)]; rfl) (inv_0 m1 r1 r2 r3 f f2 g)
