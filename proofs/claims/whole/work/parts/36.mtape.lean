/-! ===== the reference's tape and what it has sent ===== -/
/-- all else is as it was: places but P, slots of the reference but S -/
def fx (P S : List Nat) (I I' : Nat → Nat → Int32) : Prop := (∀ x, x ≠ 100 → x ∉ P → I' x = I x) ∧ ∀ s, s ∉ S → I' 100 s = I 100 s
theorem fx_rf {P S : List Nat} {I : Nat → Nat → Int32} : fx P S I I := ⟨fun _ _ _ => rfl, fun _ _ => rfl⟩
theorem fx_tr {P S P' S' : List Nat} {I I1 I2 : Nat → Nat → Int32} (h1 : fx P S I I1) (h2 : fx P' S' I1 I2) : fx (P ++ P') (S ++ S') I I2 :=
  ⟨fun x h hx => by rw [h2.1 x h (fun q => hx (List.mem_append_right _ q)), h1.1 x h (fun q => hx (List.mem_append_left _ q))], fun s hs => by rw [h2.2 s (fun q => hs (List.mem_append_right _ q)), h1.2 s (fun q => hs (List.mem_append_left _ q))]⟩
theorem fx_mo {P S P' S' : List Nat} {I I1 : Nat → Nat → Int32} (h : fx P S I I1) (hp : ∀ x ∈ P, x ∈ P') (hs : ∀ x ∈ S, x ∈ S') : fx P' S' I I1 := ⟨fun x h1 hx => h.1 x h1 (fun q => hx (hp x q)), fun s h1 => h.2 s (fun q => h1 (hs s q))⟩
theorem fx_t {P S : List Nat} {I I1 I2 : Nat → Nat → Int32} (h1 : fx P S I I1) (h2 : fx P S I1 I2) : fx P S I I2 := fx_mo (fx_tr h1 h2) (by simp) (by simp)
theorem fx_s {P S : List Nat} {I : Nat → Nat → Int32} {s : Nat} {v : Int32} (hs : s ∈ S) : fx P S I (am_u I 100 s v) := ⟨fun x h _ => am_uR h, fun t ht => am_uw (fun (q : t = s) => ht (by rw [q]; exact hs)) rfl⟩
theorem fx_p {P S : List Nat} {I : Nat → Nat → Int32} {p k : Nat} {v : Int32} (hp : p ∈ P) (h100 : p ≠ 100) : fx P S I (am_u I p k v) := ⟨fun x _ hx => am_uR (fun q => hx (q ▸ hp)), fun t _ => by rw [am_uR h100.symm]⟩
theorem fx_a {P S : List Nat} {I I' : Nat → Nat → Int32} {a : Nat} (h : ∀ x, x ≠ a → I' x = I x) (ha : a ∈ P) (h100 : a ≠ 100) : fx P S I I' := ⟨fun x _ hx => h x (fun q => hx (q ▸ ha)), fun s _ => by rw [h 100 h100.symm]⟩
def mT (I : Nat → Nat → Int32) (A : List Nat) : Prop := I 100 15 = nI A.length ∧ av I 112 A ∧ A.length ≤ 400
def mS (I : Nat → Nat → Int32) (A : List Nat) : Prop := I 100 17 = nI A.length ∧ av I 113 A ∧ A.length ≤ 500
theorem mT_k {P S : List Nat} {I I' : Nat → Nat → Int32} {A : List Nat} (h : mT I A) (f : fx P S I I') (hp : 112 ∉ P) (hs : 15 ∉ S) : mT I' A := ⟨by rw [f.2 15 hs]; exact h.1, av_keep h.2.1 (f.1 112 (by decide) hp), h.2.2⟩
theorem mS_k {P S : List Nat} {I I' : Nat → Nat → Int32} {A : List Nat} (h : mS I A) (f : fx P S I I') (hp : 113 ∉ P) (hs : 17 ∉ S) : mS I' A := ⟨by rw [f.2 17 hs]; exact h.1, av_keep h.2.1 (f.1 113 (by decide) hp), h.2.2⟩
theorem wr_app {A X bs : List Nat} {s : Nat} (h : s + bs.length ≤ A.length) : wr (A ++ X) s bs = wr A s bs ++ X := by
  unfold wr
  rw [List.take_append_of_le_length (by omega), List.drop_append_of_le_length h]
  simp [List.append_assoc]
theorem wr_fill {X bs : List Nat} {k : Nat} (h : bs.length ≤ k) : wr (X ++ List.replicate k 0) X.length bs = X ++ (bs ++ List.replicate (k - bs.length) 0) := by
  unfold wr
  rw [List.take_left', List.append_assoc]
  · congr 2
    rw [← List.drop_drop, List.drop_left', List.drop_replicate]
    rfl
  · rfl
theorem be_get : ∀ (w m k : Nat), k < w → (be w m).getD k 0 = m / 256 ^ (w - 1 - k) % 256
  | 0, _, _, h => absurd h (Nat.not_lt_zero _)
  | w + 1, m, 0, _ => by simp [be]
  | w + 1, m, k + 1, h => by
    rw [be, List.getD_cons_succ, be_get w m k (by omega)]
    congr 3
    omega
theorem tk_app {bs : List Nat} {k : Nat} (h : k < bs.length) : bs.take k ++ [bs.getD k 0] = bs.take (k + 1) := by
  rw [List.take_add_one, List.getD_eq_getElem?_getD, List.getElem?_eq_getElem h]
  rfl
theorem av_step {I : Nat → Nat → Int32} {a s k : Nat} {X bs : List Nat} (h : av I a (wr X s (bs.take k))) (hk : k < bs.length) (hs : s ≤ X.length) (hb : ∀ c ∈ bs, c < 256) : av (am_u I a (s + k) (nI (bs.getD k 0))) a (wr X s (bs.take (k + 1))) := by
  have hl : (bs.take k).length = k := by simp; omega
  have h1 := av_w1 h (s := s + k) (by rw [wr_len hs, hl]; omega) (gd_lt hb k)
  rw [wr_wr hs (by rw [hl]), tk_app hk] at h1
  exact h1
theorem in_kd (x : Int32) {a b : Nat} (ha : a < 2 ^ 31) (hb : b < 2 ^ 31) : (lN a ≤ x.toInt64 ∧ x.toInt64 ≤ lN b) ↔ (¬ x < nI a ∧ ¬ nI b < x) := by
  rw [← nI_l ha, ← nI_l hb, fa_wide_le, fa_wide_le, Int32.not_lt, Int32.not_lt]
section MT
variable {d N : Nat} {I : Nat → Nat → Int32} {L : Nat → Nat → Int64} {w : Option Nat} {Q : am_Q} {A : List Nat}
theorem c_186_core (hA : mT I A) (h20 : 20 ≤ A.length) {kd : Int32} {m : Nat} (hm : A.length + 4 + pad4 m ≤ 400) (hd' : ∀ I', mT I' (hd_ A (uI kd) m ++ List.replicate (pad4 m) 0) → fx [112] [15] I I' → am_V 186 am_c186 (d + 1) (am_SH N) Q 76 [some (.ref 100), some (.int kd), some (.int (nI m)), some (.int (nI (4 + pad4 m))), some (.int (nI (4 + pad4 m)))] [] (am_SH N, I', L, am_RR w)) : am_V 186 am_c186 (d + 1) (am_SH N) Q 33 [some (.ref 100), some (.int kd), some (.int (nI m)), some (.int (nI (4 + pad4 m))), none] [] (am_SH N, I, L, am_RR w) := by
  obtain ⟨g1, g2, g3⟩ := id hA
  have hp := pad4_ge m
  refine wp_aload (k := 33) rfl rfl ?_
  refine w_gr (k := 34) (s := 14) rfl rfl (by first | assumption | rfl) (by first | assumption | rfl) ?_
  refine wp_aload (k := 35) rfl rfl ?_
  refine w_gi (k := 36) (s := 15) rfl rfl (by first | assumption | rfl) (by first | assumption | rfl) ?_
  refine wp_iload (k := 37) rfl rfl ?_
  refine w_Sv (k := 38) [_, _, _] rfl rfl rfl (Nat.le_of_ble_eq_true rfl) (Or.inl ⟨rfl, rfl⟩) ?_
  refine (c_181 rfl (by decide) (by decide) g2 (Nat.le_refl _) (by omega) (fun I1 k1 f1 => ⟨rfl, ?_⟩))
  rw [wr_end] at k1
  refine wp_aload (k := 39) rfl rfl ?_
  refine w_gr (k := 40) (s := 14) rfl rfl (by first | assumption | rfl) (by first | assumption | rfl) ?_
  refine wp_aload (k := 41) rfl rfl ?_
  refine w_gi (k := 42) (s := 15) rfl rfl (by first | assumption | rfl) (show I1 100 15 = nI A.length from by rw [f1 100 (by decide)]; exact g1) ?_
  refine w_ic (k := 43) (x := nI 2) rfl (oi_nI 2) ?_
  refine w_addN (k := 44) rfl ?_
  refine wp_iload (k := 45) rfl rfl ?_
  refine w_Sv (k := 46) [_, _, _] rfl rfl rfl (Nat.le_of_ble_eq_true rfl) (Or.inl ⟨rfl, rfl⟩) ?_
  refine (c_181 rfl (by decide) (by decide) k1 (s := A.length + 2) (by simp [be_len]) (by omega) (fun I2 k2 f2 => ⟨rfl, ?_⟩))
  rw [show A.length + 2 = (A ++ be 2 (uI kd)).length by rw [List.length_append, be_len], wr_end, uI_nI (by omega)] at k2
  have s2 : I2 100 15 = nI A.length := by rw [f2 100 (by decide), f1 100 (by decide)]; exact g1
  have loop : ∀ (r j : Nat) (I3 : Nat → Nat → Int32), j + r = pad4 m → av I3 112 (A ++ be 2 (uI kd) ++ be 2 m ++ List.replicate j 0) → (∀ x, x ≠ 112 → I3 x = I x) → am_V 186 am_c186 (d + 1) (am_SH N) Q 49 ([some (.ref 100), some (.int kd), some (.int (nI m)), some (.int (nI (4 + pad4 m))), some (.int (nI (4 + j)))]) [] (am_SH N, I3, L, am_RR w) := by
    intro r
    induction r with
    | zero =>
      intro j I3 hj k3 f3
      have hj : j = pad4 m := by omega
      subst hj
      have s3 : I3 100 15 = nI A.length := by rw [f3 100 (by decide)]; exact g1
      refine wp_iload (k := 49) rfl rfl ?_
      refine wp_iload (k := 50) rfl rfl ?_
      refine w_n_ge (k := 51) (t' := 62) rfl rfl (by omega) (fun q => ?_) (fun q => absurd q (by omega))
      refine wp_aload (k := 62) rfl rfl ?_
      refine wp_dup (k := 63) rfl rfl ?_
      refine w_gi (k := 64) (s := 15) rfl rfl (by first | assumption | rfl) (by first | assumption | rfl) ?_
      refine wp_iload (k := 65) rfl rfl ?_
      refine w_addN (k := 66) rfl ?_
      refine w_pi (k := 67) (s := 15) rfl rfl (by first | assumption | rfl) ?_
      have k4 : av (am_u I3 100 15 (nI (A.length + (4 + pad4 m)))) 112 (A ++ be 2 (uI kd) ++ be 2 m ++ List.replicate (pad4 m) 0) := av_keep k3 (am_uR (by decide))
      refine wp_aload (k := 68) rfl rfl ?_
      refine w_gr (k := 69) (s := 14) rfl rfl (by first | assumption | rfl) (by first | assumption | rfl) ?_
      refine w_ic (k := 70) (x := nI 2) rfl (oi_nI 2) ?_
      refine wp_aload (k := 71) rfl rfl ?_
      refine w_gi (k := 72) (s := 15) rfl rfl (by first | assumption | rfl) am_us ?_
      refine w_ic (k := 73) (x := nI 20) rfl (oi_nI 20) ?_
      refine w_subN (k := 74) rfl (by omega) ?_
      refine w_Sv (k := 75) [_, _, _] rfl rfl rfl (Nat.le_of_ble_eq_true rfl) (Or.inl ⟨rfl, rfl⟩) ?_
      refine (c_181 rfl (by decide) (by decide) k4 (s := 2) (by simp [be_len]; omega) (by omega) (fun I5 k5 f5 => ⟨rfl, ?_⟩))
      rw [uI_nI (by omega)] at k5
      have e5 : wr (A ++ be 2 (uI kd) ++ be 2 m ++ List.replicate (pad4 m) 0) 2 (be 2 (A.length + (4 + pad4 m) - 20)) = hd_ A (uI kd) m ++ List.replicate (pad4 m) 0 := by
        rw [List.append_assoc, List.append_assoc, wr_app (by rw [be_len]; omega)]
        unfold hd_
        rw [Nat.add_assoc, List.append_assoc, List.append_assoc]
      rw [e5] at k5
      refine hd' I5 ⟨?_, k5, ?_⟩ ⟨fun x h1 h2 => ?_, fun s hs => ?_⟩
      · rw [f5 100 (by decide), am_us, List.length_append, hd_len (by omega), List.length_replicate, Nat.add_assoc]
      · rw [List.length_append, hd_len (by omega), List.length_replicate]; exact hm
      · have h2 : x ≠ 112 := by simpa using h2
        rw [f5 x h2, am_uR h1, f3 x h2]
      · have hs : s ≠ 15 := by simpa using hs
        rw [f5 100 (by decide), am_u_app, if_neg (fun q => hs q.2), f3 100 (by decide)]
    | succ r ih =>
      intro j I3 hj k3 f3
      have s3 : I3 100 15 = nI A.length := by rw [f3 100 (by decide)]; exact g1
      have hl : (A ++ be 2 (uI kd) ++ be 2 m ++ List.replicate j 0).length = A.length + (4 + j) := by simp [be_len]; omega
      refine wp_iload (k := 49) rfl rfl ?_
      refine wp_iload (k := 50) rfl rfl ?_
      refine w_n_ge (k := 51) (t' := 62) rfl rfl (by omega) (fun q => absurd q (by omega)) (fun q => ?_)
      refine wp_aload (k := 52) rfl rfl ?_
      refine w_gr (k := 53) (s := 14) rfl rfl (by first | assumption | rfl) (by first | assumption | rfl) ?_
      refine wp_aload (k := 54) rfl rfl ?_
      refine w_gi (k := 55) (s := 15) rfl rfl (by first | assumption | rfl) (by first | assumption | rfl) ?_
      refine wp_iload (k := 56) rfl rfl ?_
      refine w_addN (k := 57) rfl ?_
      refine w_ic (k := 58) (x := nI 0) rfl (oi_nI 0) ?_
      refine w_iast (k := 59) rfl rfl (by omega) (by first | assumption | rfl) (by omega) ?_
      refine w_incN (k := 60) (m := 1) rfl (oi_nI 1) rfl ?_
      refine w_goto (k := 61) (t' := 49) rfl rfl ?_
      have k4 := av_w1 k3 (s := A.length + (4 + j)) (by omega) (c := 0) (by decide)
      rw [← hl, wr_end, hl, List.append_assoc, ← List.replicate_succ'] at k4
      exact ih (j + 1) _ (by omega) k4 (fun x hx => by rw [am_uR hx, f3 x hx])
  refine w_ic (k := 47) (x := nI 4) rfl (oi_nI 4) ?_
  refine wp_istore (k := 48) rfl rfl ?_
  exact loop (pad4 m) 0 I2 (by omega) (by simpa using k2) (fun x hx => by rw [f2 x hx, f1 x hx])
theorem c_229_core (hA : mS I A) (h20 : 20 ≤ A.length) {kd : Int32} {m : Nat} (hm : A.length + 4 + pad4 m ≤ 500) (hd' : ∀ I', mS I' (hd_ A (uI kd) m ++ List.replicate (pad4 m) 0) → fx [113] [17] I I' → am_V 229 am_c229 (d + 1) (am_SH N) Q 58 [some (.ref 100), some (.int kd), some (.int (nI m)), some (.int (nI (A.length + 4))), some (.int (nI (4 + pad4 m))), some (.int (nI (4 + pad4 m)))] [] (am_SH N, I', L, am_RR w)) : am_V 229 am_c229 (d + 1) (am_SH N) Q 5 [some (.ref 100), some (.int kd), some (.int (nI m)), some (.int (nI (A.length + 4))), none, none] [] (am_SH N, I, L, am_RR w) := by
  obtain ⟨g1, g2, g3⟩ := id hA
  have hp := pad4_ge m
  refine wp_aload (k := 5) rfl rfl ?_
  refine w_gr (k := 6) (s := 16) rfl rfl (by first | assumption | rfl) (by first | assumption | rfl) ?_
  refine wp_aload (k := 7) rfl rfl ?_
  refine w_gi (k := 8) (s := 17) rfl rfl (by first | assumption | rfl) (by first | assumption | rfl) ?_
  refine wp_iload (k := 9) rfl rfl ?_
  refine w_Sv (k := 10) [_, _, _] rfl rfl rfl (Nat.le_of_ble_eq_true rfl) (Or.inl ⟨rfl, rfl⟩) ?_
  refine (c_181 rfl (by decide) (by decide) g2 (Nat.le_refl _) (by omega) (fun I1 k1 f1 => ⟨rfl, ?_⟩))
  rw [wr_end] at k1
  refine wp_aload (k := 11) rfl rfl ?_
  refine w_gr (k := 12) (s := 16) rfl rfl (by first | assumption | rfl) (by first | assumption | rfl) ?_
  refine wp_aload (k := 13) rfl rfl ?_
  refine w_gi (k := 14) (s := 17) rfl rfl (by first | assumption | rfl) (show I1 100 17 = nI A.length from by rw [f1 100 (by decide)]; exact g1) ?_
  refine w_ic (k := 15) (x := nI 2) rfl (oi_nI 2) ?_
  refine w_addN (k := 16) rfl ?_
  refine wp_iload (k := 17) rfl rfl ?_
  refine w_Sv (k := 18) [_, _, _] rfl rfl rfl (Nat.le_of_ble_eq_true rfl) (Or.inl ⟨rfl, rfl⟩) ?_
  refine (c_181 rfl (by decide) (by decide) k1 (s := A.length + 2) (by simp [be_len]) (by omega) (fun I2 k2 f2 => ⟨rfl, ?_⟩))
  rw [show A.length + 2 = (A ++ be 2 (uI kd)).length by rw [List.length_append, be_len], wr_end, uI_nI (by omega)] at k2
  have s2 : I2 100 17 = nI A.length := by rw [f2 100 (by decide), f1 100 (by decide)]; exact g1
  have loop : ∀ (r j : Nat) (I3 : Nat → Nat → Int32), j + r = pad4 m → av I3 113 (A ++ be 2 (uI kd) ++ be 2 m ++ List.replicate j 0) → (∀ x, x ≠ 113 → I3 x = I x) → am_V 229 am_c229 (d + 1) (am_SH N) Q 31 ([some (.ref 100), some (.int kd), some (.int (nI m)), some (.int (nI (A.length + 4))), some (.int (nI (4 + pad4 m))), some (.int (nI (4 + j)))]) [] (am_SH N, I3, L, am_RR w) := by
    intro r
    induction r with
    | zero =>
      intro j I3 hj k3 f3
      have hj : j = pad4 m := by omega
      subst hj
      have s3 : I3 100 17 = nI A.length := by rw [f3 100 (by decide)]; exact g1
      refine wp_iload (k := 31) rfl rfl ?_
      refine wp_iload (k := 32) rfl rfl ?_
      refine w_n_ge (k := 33) (t' := 44) rfl rfl (by omega) (fun q => ?_) (fun q => absurd q (by omega))
      refine wp_aload (k := 44) rfl rfl ?_
      refine wp_dup (k := 45) rfl rfl ?_
      refine w_gi (k := 46) (s := 17) rfl rfl (by first | assumption | rfl) (by first | assumption | rfl) ?_
      refine wp_iload (k := 47) rfl rfl ?_
      refine w_addN (k := 48) rfl ?_
      refine w_pi (k := 49) (s := 17) rfl rfl (by first | assumption | rfl) ?_
      have k4 : av (am_u I3 100 17 (nI (A.length + (4 + pad4 m)))) 113 (A ++ be 2 (uI kd) ++ be 2 m ++ List.replicate (pad4 m) 0) := av_keep k3 (am_uR (by decide))
      refine wp_aload (k := 50) rfl rfl ?_
      refine w_gr (k := 51) (s := 16) rfl rfl (by first | assumption | rfl) (by first | assumption | rfl) ?_
      refine w_ic (k := 52) (x := nI 2) rfl (oi_nI 2) ?_
      refine wp_aload (k := 53) rfl rfl ?_
      refine w_gi (k := 54) (s := 17) rfl rfl (by first | assumption | rfl) am_us ?_
      refine w_ic (k := 55) (x := nI 20) rfl (oi_nI 20) ?_
      refine w_subN (k := 56) rfl (by omega) ?_
      refine w_Sv (k := 57) [_, _, _] rfl rfl rfl (Nat.le_of_ble_eq_true rfl) (Or.inl ⟨rfl, rfl⟩) ?_
      refine (c_181 rfl (by decide) (by decide) k4 (s := 2) (by simp [be_len]; omega) (by omega) (fun I5 k5 f5 => ⟨rfl, ?_⟩))
      rw [uI_nI (by omega)] at k5
      have e5 : wr (A ++ be 2 (uI kd) ++ be 2 m ++ List.replicate (pad4 m) 0) 2 (be 2 (A.length + (4 + pad4 m) - 20)) = hd_ A (uI kd) m ++ List.replicate (pad4 m) 0 := by
        rw [List.append_assoc, List.append_assoc, wr_app (by rw [be_len]; omega)]
        unfold hd_
        rw [Nat.add_assoc, List.append_assoc, List.append_assoc]
      rw [e5] at k5
      refine hd' I5 ⟨?_, k5, ?_⟩ ⟨fun x h1 h2 => ?_, fun s hs => ?_⟩
      · rw [f5 100 (by decide), am_us, List.length_append, hd_len (by omega), List.length_replicate, Nat.add_assoc]
      · rw [List.length_append, hd_len (by omega), List.length_replicate]; exact hm
      · have h2 : x ≠ 113 := by simpa using h2
        rw [f5 x h2, am_uR h1, f3 x h2]
      · have hs : s ≠ 17 := by simpa using hs
        rw [f5 100 (by decide), am_u_app, if_neg (fun q => hs q.2), f3 100 (by decide)]
    | succ r ih =>
      intro j I3 hj k3 f3
      have s3 : I3 100 17 = nI A.length := by rw [f3 100 (by decide)]; exact g1
      have hl : (A ++ be 2 (uI kd) ++ be 2 m ++ List.replicate j 0).length = A.length + (4 + j) := by simp [be_len]; omega
      refine wp_iload (k := 31) rfl rfl ?_
      refine wp_iload (k := 32) rfl rfl ?_
      refine w_n_ge (k := 33) (t' := 44) rfl rfl (by omega) (fun q => absurd q (by omega)) (fun q => ?_)
      refine wp_aload (k := 34) rfl rfl ?_
      refine w_gr (k := 35) (s := 16) rfl rfl (by first | assumption | rfl) (by first | assumption | rfl) ?_
      refine wp_aload (k := 36) rfl rfl ?_
      refine w_gi (k := 37) (s := 17) rfl rfl (by first | assumption | rfl) (by first | assumption | rfl) ?_
      refine wp_iload (k := 38) rfl rfl ?_
      refine w_addN (k := 39) rfl ?_
      refine w_ic (k := 40) (x := nI 0) rfl (oi_nI 0) ?_
      refine w_iast (k := 41) rfl rfl (by omega) (by first | assumption | rfl) (by omega) ?_
      refine w_incN (k := 42) (m := 1) rfl (oi_nI 1) rfl ?_
      refine w_goto (k := 43) (t' := 31) rfl rfl ?_
      have k4 := av_w1 k3 (s := A.length + (4 + j)) (by omega) (c := 0) (by decide)
      rw [← hl, wr_end, hl, List.append_assoc, ← List.replicate_succ'] at k4
      exact ih (j + 1) _ (by omega) k4 (fun x hx => by rw [am_uR hx, f3 x hx])
  refine w_ic (k := 19) (x := nI 4) rfl (oi_nI 4) ?_
  refine wp_iload (k := 20) rfl rfl ?_
  refine w_ic (k := 21) (x := nI 3) rfl (oi_nI 3) ?_
  refine w_addN (k := 22) rfl ?_
  refine w_ic (k := 23) (x := nI 4) rfl (oi_nI 4) ?_
  refine wp_idiv (k := 24) rfl (by decide) ?_
  rw [pk_div (by omega) (by decide) (by decide)]
  refine w_ic (k := 25) (x := nI 4) rfl (oi_nI 4) ?_
  refine w_mulN (k := 26) rfl ?_
  refine w_addN (k := 27) rfl ?_
  refine wp_istore (k := 28) rfl rfl ?_
  refine w_ic (k := 29) (x := nI 4) rfl (oi_nI 4) ?_
  refine wp_istore (k := 30) rfl rfl ?_
  exact loop (pad4 m) 0 I2 (by omega) (by simpa using k2) (fun x hx => by rw [f2 x hx, f1 x hx])
theorem c_186 (hA : mT I A) {kd : Int32} {m : Nat} (hm : m ≤ 100) (hf : tk A kd m 400 = false → Q (some (.int (bI false))) (am_SH N, I, L, am_RR w)) (ht : tk A kd m 400 = true → ∀ I', mT I' (hd_ A (uI kd) m ++ List.replicate (pad4 m) 0) → fx [112] [15] I I' → Q (some (.int (bI true))) (am_SH N, I', L, am_RR w)) : am_call (d + 2) 186 [.ref 100, .int kd, .int (nI m)] (am_SH N, I, L, am_RR w) Q := by
  obtain ⟨g1, g2, g3⟩ := id hA
  have hp := pad4_ge m
  have no : ∀ ls, tk A kd m 400 = false → am_V 186 am_c186 (d + 1) (am_SH N) Q 31 ls [] (am_SH N, I, L, am_RR w) := by
    intro ls h
    refine w_ic (k := 31) (x := bI false) rfl rfl ?_
    refine w_rz (k := 32) rfl rfl rfl ?_
    exact hf h
  refine am_enter (ls := [some _, some _, some _, none, none]) (cs := am_c186) rfl rfl (Nat.le_of_ble_eq_true rfl) rfl ?_
  refine w_ic (k := 0) (x := nI 4) rfl (oi_nI 4) ?_
  refine wp_iload (k := 1) rfl rfl ?_
  refine w_ic (k := 2) (x := nI 3) rfl (oi_nI 3) ?_
  refine w_addN (k := 3) rfl ?_
  refine w_ic (k := 4) (x := nI 4) rfl (oi_nI 4) ?_
  refine wp_idiv (k := 5) rfl (by decide) ?_
  rw [pk_div (by omega) (by decide) (by decide)]
  refine w_ic (k := 6) (x := nI 4) rfl (oi_nI 4) ?_
  refine w_mulN (k := 7) rfl ?_
  refine w_addN (k := 8) rfl ?_
  refine wp_istore (k := 9) rfl rfl ?_
  refine wp_iload (k := 10) rfl rfl ?_
  refine wp_i2l (k := 11) rfl ?_
  refine w_lc (k := 12) (x := lN 0) rfl (ol_lN 0) ?_
  refine w_lc (k := 13) (x := lN 65535) rfl (ol_lN 65535) ?_
  refine w_Si (k := 14) [_, _, _] rfl rfl rfl (Nat.le_of_ble_eq_true rfl) (Or.inl ⟨rfl, rfl⟩) ?_
  refine (c_166 ?_)
  refine ⟨_, rfl, ?_⟩
  rw [show decide (lN 0 ≤ kd.toInt64 ∧ kd.toInt64 ≤ lN 65535) = decide (¬ kd < 0 ∧ ¬ nI 65535 < kd) from decide_eq_decide.mpr (in_kd kd (by decide) (by decide))]
  refine w_b_eq (k := 15) (t' := 31) rfl rfl (fun k1 => ?_) (fun k1 => ?_)
  · have k1 := of_decide_eq_false k1
    exact no _ (decide_eq_false (fun q => k1 ⟨q.1, q.2.1⟩))
  · have k1 := of_decide_eq_true k1
    refine wp_aload (k := 16) rfl rfl ?_
    refine w_gi (k := 17) (s := 15) rfl rfl (by first | assumption | rfl) (by first | assumption | rfl) ?_
    refine w_ic (k := 18) (x := nI 20) rfl (oi_nI 20) ?_
    refine w_n_lt (k := 19) (t' := 31) rfl rfl (by omega) (fun k2 => ?_) (fun k2 => ?_)
    · exact no _ (decide_eq_false (fun q => absurd q.2.2.1 (by omega)))
    · refine wp_aload (k := 20) rfl rfl ?_
      refine w_gi (k := 21) (s := 15) rfl rfl (by first | assumption | rfl) (by first | assumption | rfl) ?_
      refine w_ic (k := 22) (x := nI 4) rfl (oi_nI 4) ?_
      refine wp_irem (k := 23) rfl (by decide) ?_
      rw [pk_rem (by omega) (by decide) (by decide)]
      refine w_m_ne (k := 24) (t' := 31) rfl rfl (by omega) (fun k3 => ?_) (fun k3 => ?_)
      · exact no _ (decide_eq_false (fun q => absurd q.2.2.2.1 (by omega)))
      · refine wp_aload (k := 25) rfl rfl ?_
        refine w_gi (k := 26) (s := 15) rfl rfl (by first | assumption | rfl) (by first | assumption | rfl) ?_
        refine wp_iload (k := 27) rfl rfl ?_
        refine w_addN (k := 28) rfl ?_
        refine w_ic (k := 29) (x := nI 400) rfl (oi_nI 400) ?_
        refine w_n_le (k := 30) (t' := 33) rfl rfl (by omega) (fun k4 => ?_) (fun k4 => ?_)
        · have k4 : A.length + (4 + pad4 m) ≤ 400 := k4
          refine c_186_core (kd := kd) (m := m) hA k2 (by omega) (fun I' h1 h2 => ?_)
          refine w_ic (k := 76) (x := bI true) rfl rfl ?_
          refine w_rz (k := 77) rfl rfl rfl ?_
          exact ht (decide_eq_true ⟨k1.1, k1.2, k2, k3, by omega⟩) I' h1 h2
        · have k4 : 400 < A.length + (4 + pad4 m) := k4
          exact no _ (decide_eq_false (fun q => absurd q.2.2.2.2 (by omega)))
theorem c_229 (hA : mS I A) (h20 : 20 ≤ A.length) {kd : Int32} {m : Nat} (hm : A.length + 4 + pad4 m ≤ 500) (hq : ∀ I', mS I' (hd_ A (uI kd) m ++ List.replicate (pad4 m) 0) → fx [113] [17] I I' → Q (some (.int (nI (A.length + 4)))) (am_SH N, I', L, am_RR w)) : am_call (d + 2) 229 [.ref 100, .int kd, .int (nI m)] (am_SH N, I, L, am_RR w) Q := by
  obtain ⟨g1, g2, g3⟩ := id hA
  refine am_enter (ls := [some _, some _, some _, none, none, none]) (cs := am_c229) rfl rfl (Nat.le_of_ble_eq_true rfl) rfl ?_
  refine wp_aload (k := 0) rfl rfl ?_
  refine w_gi (k := 1) (s := 17) rfl rfl (by first | assumption | rfl) (by first | assumption | rfl) ?_
  refine w_ic (k := 2) (x := nI 4) rfl (oi_nI 4) ?_
  refine w_addN (k := 3) rfl ?_
  refine wp_istore (k := 4) rfl rfl ?_
  refine c_229_core (kd := kd) (m := m) hA h20 hm (fun I' h1 h2 => ?_)
  refine wp_iload (k := 58) rfl rfl ?_
  refine w_ri (k := 59) rfl rfl rfl rfl ?_
  exact hq I' h1 h2
theorem at_fill {A bs : List Nat} {kd m : Nat} (h4 : 4 ≤ A.length) (hm : bs.length = m) : wr (hd_ A kd m ++ List.replicate (pad4 m) 0) (A.length + 4) bs = at_ A kd bs := by
  subst hm
  have := pad4_ge bs.length
  rw [← hd_len h4 kd bs.length, wr_fill (by omega)]
  rfl
end MT
