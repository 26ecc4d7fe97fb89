/-! ===== time passes: an allocation, permissions, channels run out ===== -/
def fp_ (now : Int64) (P : PM) : PM := P.filter (fun p => decide (now < p.2))
def fch (now : Int64) (C : CH) : CH := C.filter (fun c => decide (now < c.2.2.2))
theorem fil_step {α : Type} (f : α → Bool) (d : α) {P : List α} {i : Nat} (h : i < P.length) : (P.take (i + 1)).filter f = (P.take i).filter f ++ (if f (P.getD i d) then [P.getD i d] else []) := by
  rw [List.take_add_one, List.filter_append, List.getD_eq_getElem?_getD, List.getElem?_eq_getElem h]
  simp only [Option.toList_some, Option.getD_some, List.filter_cons, List.filter_nil]
theorem fil_len {α : Type} (f : α → Bool) {P : List α} {i : Nat} : ((P.take i).filter f).length ≤ i := by
  have := List.length_filter_le f (P.take i)
  simp at this
  omega
theorem cp_step0 {α : Type} {hold hold' : Nat → α → Prop} {i : Nat} {K P : List α} {d : α} (hk : ∀ j, j < K.length → hold j (K.getD j d)) (hr : ∀ j, i ≤ j → j < P.length → hold j (P.getD j d)) (hi : K.length ≤ i) (h1 : hold' K.length (P.getD i d)) (h2 : ∀ m x, m ≠ K.length → hold m x → hold' m x) : (∀ j, j < (K ++ [P.getD i d]).length → hold' j ((K ++ [P.getD i d]).getD j d)) ∧ ∀ j, i + 1 ≤ j → j < P.length → hold' j (P.getD j d) := by
  have := cp_step (o := 0) (hold := hold) (hold' := hold') (d := d) (by simpa using hk) (by simpa using hr) hi (by simpa using h1) (by simpa using h2)
  simpa using this
section DRP
variable {d : Nat} {sh : List (Nat × Nat)} {I : Nat → Nat → Int32} {L : Nat → Nat → Int64} {R : Nat → Nat → Option Nat} {Q : am_Q} {q : Nat} {P : PM} {C : CH}
theorem c_6 (ha : aq sh R q) (hP : pm_c I L q P) (hC : ch_c I L q C) {t now : Int64} (h5 : L q 5 = t) (hq : ∀ I' L', I' q 0 = bI (decide (now < t)) → pm_c I' L' q (fp_ now P) → ch_c I' L' q (fch now C) → fq q I I' → fq q L L' → (∀ s, s ≠ 0 → s ≠ 10 → s ≠ 15 → I' q s = I q s) → L' q = L q → Q none (sh, I', L', R)) : am_call (d + 1) 6 [.ref q, .long now] (sh, I, L, R) Q := by
  obtain ⟨a0, a1, a2, a3, a4, a5, a6, b1, b2, b3, b4, b5, b6, a9⟩ := ha
  obtain ⟨p1, p2, p3⟩ := hP
  obtain ⟨c1, c2, c3⟩ := hC
  -- the channels
  have lc : ∀ (r i : Nat) (K : CH) (I0 I1 : Nat → Nat → Int32) (L0 L1 : Nat → Nat → Int64), i + r = C.length → K = (C.take i).filter (fun c => decide (now < c.2.2.2)) → (∀ j, j < K.length → hc I1 L1 q j (K.getD j c0)) → (∀ j, i ≤ j → j < C.length → hc I1 L1 q j (C.getD j c0)) → I1 q 15 = nI C.length → (∀ x, x ≠ q + 3 → x ≠ q + 4 → x ≠ q + 5 → I1 x = I0 x) → (∀ x, x ≠ q + 6 → L1 x = L0 x) → I0 q 0 = bI (decide (now < t)) → pm_c I0 L0 q (fp_ now P) → fq q I I0 → fq q L L0 → (∀ s, s ≠ 0 → s ≠ 10 → s ≠ 15 → I0 q s = I q s) → L0 q = L q → am_V 6 am_c6 d sh Q 54 [some (.ref q), some (.long now), none, some (.int (nI K.length)), some (.int (nI i))] [] (sh, I1, L1, R) := by
    intro r
    induction r with
    | zero =>
      intro i K I0 I1 L0 L1 hi hK hk hr hz f1 g1 e0 pm0 fi fl s0 l0
      have hq0 : I1 q = I0 q := f1 q (by omega) (by omega) (by omega)
      have hKC : K = fch now C := by rw [hK, List.take_of_length_le (by omega)]; rfl
      have hKl : K.length ≤ i := by rw [hK]; exact fil_len _
      refine wp_iload (k := 54) rfl rfl ?_
      refine wp_aload (k := 55) rfl rfl ?_
      refine w_gi (k := 56) (s := 15) rfl rfl (by first | assumption | rfl) (by first | assumption | rfl) ?_
      refine w_n_ge (k := 57) (t' := 103) rfl rfl (by omega) (fun zq => ?_) (fun zq => absurd zq (by omega))
      refine wp_aload (k := 103) rfl rfl ?_
      refine wp_iload (k := 104) rfl rfl ?_
      refine w_pi (k := 105) (s := 15) rfl rfl (by first | assumption | rfl) ?_
      refine w_rv (k := 106) rfl rfl rfl rfl ?_
      refine hq _ _ ?_ ?_ ?_ ?_ ?_ ?_ ?_
      · rw [am_u_app, if_neg (by omega), hq0]; exact e0
      · refine pm_k pm0 ?_ ?_ ?_
        · rw [am_u_app, if_neg (by omega), hq0]
        · rw [am_uR (by omega), f1 _ (by omega) (by omega) (by omega)]
        · exact g1 _ (by omega)
      · rw [← hKC]
        refine ⟨am_us, by omega, fun j hj => ?_⟩
        have := hk j hj
        unfold hc at this ⊢
        rw [am_uR (by omega), am_uR (by omega), am_uR (by omega)]
        exact this
      · exact fq_t fi (fun x hx => by rw [am_uR (by omega), f1 x (by omega) (by omega) (by omega)])
      · exact fq_t fl (fun x hx => g1 x (by omega))
      · intro s h1 h2 h3
        rw [am_uw h3 rfl, hq0]
        exact s0 s h1 h2 h3
      · rw [g1 q (by omega)]; exact l0
    | succ r ih =>
      intro i K I0 I1 L0 L1 hi hK hk hr hz f1 g1 e0 pm0 fi fl s0 l0
      have hKl : K.length ≤ i := by rw [hK]; exact fil_len _
      have hst := fil_step (fun c : Int32 × Int32 × Int32 × Int64 => decide (now < c.2.2.2)) c0 (P := C) (i := i) (by omega)
      rw [← hK] at hst
      obtain ⟨v1, v2, v3, v4⟩ := hr i (Nat.le_refl _) (by omega)
      refine wp_iload (k := 54) rfl rfl ?_
      refine wp_aload (k := 55) rfl rfl ?_
      refine w_gi (k := 56) (s := 15) rfl rfl (by first | assumption | rfl) (by first | assumption | rfl) ?_
      refine w_n_ge (k := 57) (t' := 103) rfl rfl (by omega) (fun zq => absurd zq (by omega)) (fun zq => ?_)
      refine wp_iload (k := 58) rfl rfl ?_
      refine w_ic (k := 59) (x := nI 8) rfl (oi_nI 8) ?_
      refine w_n_ge (k := 60) (t' := 103) rfl rfl (by omega) (fun zq => absurd zq (by omega)) (fun zq => ?_)
      refine wp_aload (k := 61) rfl rfl ?_
      refine w_gr (k := 62) (s := 14) rfl rfl (by first | assumption | rfl) (by first | assumption | rfl) ?_
      refine wp_iload (k := 63) rfl rfl ?_
      refine w_lald (k := 64) rfl rfl (by first | assumption | rfl) (by omega) v4 ?_
      refine wp_lload (k := 65) rfl rfl ?_
      refine w_L_le (k := 66) (t' := 101) rfl rfl rfl (fun k => ?_) (fun k => ?_)
      · rw [if_neg (by simpa using k), List.append_nil] at hst
        refine w_incN (k := 101) (m := 1) rfl (oi_nI 1) rfl ?_
        refine w_goto (k := 102) (t' := 54) rfl rfl ?_
        exact ih (i + 1) K I0 I1 L0 L1 (by omega) hst.symm hk (fun j h1 h2 => hr j (by omega) h2) hz f1 g1 e0 pm0 fi fl s0 l0
      · rw [if_pos (by simpa using k)] at hst
        refine wp_aload (k := 68) rfl rfl ?_
        refine w_gr (k := 69) (s := 11) rfl rfl (by first | assumption | rfl) (by first | assumption | rfl) ?_
        refine wp_iload (k := 70) rfl rfl ?_
        refine wp_aload (k := 71) rfl rfl ?_
        refine w_gr (k := 72) (s := 11) rfl rfl (by first | assumption | rfl) (by first | assumption | rfl) ?_
        refine wp_iload (k := 73) rfl rfl ?_
        refine w_iald (k := 74) rfl rfl (by first | assumption | rfl) (by omega) v1 ?_
        refine w_iast (k := 75) rfl rfl (by omega) (by first | assumption | rfl) (by omega) ?_
        refine wp_aload (k := 76) rfl rfl ?_
        refine w_gr (k := 77) (s := 12) rfl rfl (by first | assumption | rfl) (by first | assumption | rfl) ?_
        refine wp_iload (k := 78) rfl rfl ?_
        refine wp_aload (k := 79) rfl rfl ?_
        refine w_gr (k := 80) (s := 12) rfl rfl (by first | assumption | rfl) (by first | assumption | rfl) ?_
        refine wp_iload (k := 81) rfl rfl ?_
        refine w_iald (k := 82) rfl rfl (by first | assumption | rfl) (by omega) (am_uv (by omega) v2) ?_
        refine w_iast (k := 83) rfl rfl (by omega) (by first | assumption | rfl) (by omega) ?_
        refine wp_aload (k := 84) rfl rfl ?_
        refine w_gr (k := 85) (s := 13) rfl rfl (by first | assumption | rfl) (by first | assumption | rfl) ?_
        refine wp_iload (k := 86) rfl rfl ?_
        refine wp_aload (k := 87) rfl rfl ?_
        refine w_gr (k := 88) (s := 13) rfl rfl (by first | assumption | rfl) (by first | assumption | rfl) ?_
        refine wp_iload (k := 89) rfl rfl ?_
        refine w_iald (k := 90) rfl rfl (by first | assumption | rfl) (by omega) (am_uv (by omega) (am_uv (by omega) v3)) ?_
        refine w_iast (k := 91) rfl rfl (by omega) (by first | assumption | rfl) (by omega) ?_
        refine wp_aload (k := 92) rfl rfl ?_
        refine w_gr (k := 93) (s := 14) rfl rfl (by first | assumption | rfl) (by first | assumption | rfl) ?_
        refine wp_iload (k := 94) rfl rfl ?_
        refine wp_aload (k := 95) rfl rfl ?_
        refine w_gr (k := 96) (s := 14) rfl rfl (by first | assumption | rfl) (by first | assumption | rfl) ?_
        refine wp_iload (k := 97) rfl rfl ?_
        refine w_lald (k := 98) rfl rfl (by first | assumption | rfl) (by omega) v4 ?_
        refine w_last (k := 99) rfl rfl (by first | assumption | rfl) (by omega) ?_
        refine w_incN (k := 100) (m := 1) rfl (oi_nI 1) rfl ?_
        refine w_incN (k := 101) (m := 1) rfl (oi_nI 1) rfl ?_
        refine w_goto (k := 102) (t' := 54) rfl rfl ?_
        have cp := cp_step0 (hold := hc I1 L1 q) (hold' := hc (am_u (am_u (am_u I1 (q + 3) K.length (C.getD i c0).1) (q + 4) K.length (C.getD i c0).2.1) (q + 5) K.length (C.getD i c0).2.2.1) (am_u L1 (q + 6) K.length (C.getD i c0).2.2.2) q) hk hr hKl (by unfold hc; simp [am_u_app]) (fun m x hm hx => by unfold hc at hx ⊢; simp [am_u_app, hm]; exact hx)
        have hl : (K ++ [C.getD i c0]).length = K.length + 1 := by simp
        rw [← hl]
        refine ih (i + 1) _ I0 _ L0 _ (by omega) hst.symm cp.1 cp.2 (by rw [am_uR (by omega), am_uR (by omega), am_uR (by omega)]; exact hz) (fun x x1 x2 x3 => by rw [am_uR x3, am_uR x2, am_uR x1, f1 x x1 x2 x3]) (fun x x1 => by rw [am_uR x1, g1 x x1]) e0 pm0 fi fl s0 l0
  have lp : ∀ (r i : Nat) (K : PM) (I0 I1 : Nat → Nat → Int32) (L1 : Nat → Nat → Int64), i + r = P.length → K = (P.take i).filter (fun p => decide (now < p.2)) → (∀ j, j < K.length → hp I1 L1 q j (K.getD j p0)) → (∀ j, i ≤ j → j < P.length → hp I1 L1 q j (P.getD j p0)) → (∀ x, x ≠ q + 1 → I1 x = I0 x) → (∀ x, x ≠ q + 2 → L1 x = L x) → I0 q 0 = bI (decide (now < t)) → fq q I I0 → (∀ s, s ≠ 0 → I0 q s = I q s) → (∀ x, x ≠ q → I0 x = I x) → am_V 6 am_c6 d sh Q 14 [some (.ref q), some (.long now), none, some (.int (nI K.length)), some (.int (nI i))] [] (sh, I1, L1, R) := by
    intro r
    induction r with
    | zero =>
      intro i K I0 I1 L1 hi hK hk hr f1 g1 e0 fi s0 x0
      have hq0 : I1 q = I0 q := f1 q (by omega)
      have hz : I1 q 10 = nI P.length := by rw [hq0, s0 10 (by decide)]; exact p1
      have hKC : K = fp_ now P := by rw [hK, List.take_of_length_le (by omega)]; rfl
      have hKl : K.length ≤ i := by rw [hK]; exact fil_len _
      refine wp_iload (k := 14) rfl rfl ?_
      refine wp_aload (k := 15) rfl rfl ?_
      refine w_gi (k := 16) (s := 10) rfl rfl (by first | assumption | rfl) (by first | assumption | rfl) ?_
      refine w_n_ge (k := 17) (t' := 47) rfl rfl (by omega) (fun zq => ?_) (fun zq => absurd zq (by omega))
      refine wp_aload (k := 47) rfl rfl ?_
      refine wp_iload (k := 48) rfl rfl ?_
      refine w_pi (k := 49) (s := 10) rfl rfl (by first | assumption | rfl) ?_
      refine w_ic (k := 50) (x := nI 0) rfl (oi_nI 0) ?_
      refine wp_istore (k := 51) rfl rfl ?_
      refine w_ic (k := 52) (x := nI 0) rfl (oi_nI 0) ?_
      refine wp_istore (k := 53) rfl rfl ?_
      have hcc : ∀ j, j < C.length → hc (am_u I1 q 10 (nI K.length)) L1 q j (C.getD j c0) := by
        intro j hj
        have := c3 j hj
        unfold hc at this ⊢
        rw [am_uR (by omega), am_uR (by omega), am_uR (by omega), f1 _ (by omega), f1 _ (by omega), f1 _ (by omega), x0 _ (by omega), x0 _ (by omega), x0 _ (by omega), g1 _ (by omega)]
        exact this
      refine lc _ 0 [] (am_u I1 q 10 (nI K.length)) _ L1 _ (Nat.zero_add _) (by simp) (fun j hj => absurd hj (Nat.not_lt_zero j)) (fun j _ hj => hcc j hj) ?_ (fun _ _ _ _ => rfl) (fun _ _ => rfl) ?_ ?_ ?_ ?_ ?_ ?_
      · rw [am_u_app, if_neg (by omega), hq0, s0 15 (by decide)]; exact c1
      · rw [am_u_app, if_neg (by omega), hq0]; exact e0
      · rw [← hKC]
        refine ⟨am_us, by omega, fun j hj => ?_⟩
        have := hk j hj
        unfold hp at this ⊢
        rw [am_uR (by omega)]
        exact this
      · exact fq_t fi (fun x hx => by rw [am_uR (by omega), f1 x (by omega)])
      · exact fun x hx => g1 x (by omega)
      · intro s h1 h2 h3
        rw [am_uw h2 rfl, hq0]
        exact s0 s h1
      · exact g1 q (by omega)
    | succ r ih =>
      intro i K I0 I1 L1 hi hK hk hr f1 g1 e0 fi s0 x0
      have hq0 : I1 q = I0 q := f1 q (by omega)
      have hz : I1 q 10 = nI P.length := by rw [hq0, s0 10 (by decide)]; exact p1
      have hKl : K.length ≤ i := by rw [hK]; exact fil_len _
      have hst := fil_step (fun p : Int32 × Int64 => decide (now < p.2)) p0 (P := P) (i := i) (by omega)
      rw [← hK] at hst
      obtain ⟨v1, v2⟩ := hr i (Nat.le_refl _) (by omega)
      refine wp_iload (k := 14) rfl rfl ?_
      refine wp_aload (k := 15) rfl rfl ?_
      refine w_gi (k := 16) (s := 10) rfl rfl (by first | assumption | rfl) (by first | assumption | rfl) ?_
      refine w_n_ge (k := 17) (t' := 47) rfl rfl (by omega) (fun zq => absurd zq (by omega)) (fun zq => ?_)
      refine wp_iload (k := 18) rfl rfl ?_
      refine w_ic (k := 19) (x := nI 16) rfl (oi_nI 16) ?_
      refine w_n_ge (k := 20) (t' := 47) rfl rfl (by omega) (fun zq => absurd zq (by omega)) (fun zq => ?_)
      refine wp_aload (k := 21) rfl rfl ?_
      refine w_gr (k := 22) (s := 9) rfl rfl (by first | assumption | rfl) (by first | assumption | rfl) ?_
      refine wp_iload (k := 23) rfl rfl ?_
      refine w_lald (k := 24) rfl rfl (by first | assumption | rfl) (by omega) v2 ?_
      refine wp_lload (k := 25) rfl rfl ?_
      refine w_L_le (k := 26) (t' := 45) rfl rfl rfl (fun k => ?_) (fun k => ?_)
      · rw [if_neg (by simpa using k), List.append_nil] at hst
        refine w_incN (k := 45) (m := 1) rfl (oi_nI 1) rfl ?_
        refine w_goto (k := 46) (t' := 14) rfl rfl ?_
        exact ih (i + 1) K I0 I1 L1 (by omega) hst.symm hk (fun j h1 h2 => hr j (by omega) h2) f1 g1 e0 fi s0 x0
      · rw [if_pos (by simpa using k)] at hst
        refine wp_aload (k := 28) rfl rfl ?_
        refine w_gr (k := 29) (s := 8) rfl rfl (by first | assumption | rfl) (by first | assumption | rfl) ?_
        refine wp_iload (k := 30) rfl rfl ?_
        refine wp_aload (k := 31) rfl rfl ?_
        refine w_gr (k := 32) (s := 8) rfl rfl (by first | assumption | rfl) (by first | assumption | rfl) ?_
        refine wp_iload (k := 33) rfl rfl ?_
        refine w_iald (k := 34) rfl rfl (by first | assumption | rfl) (by omega) v1 ?_
        refine w_iast (k := 35) rfl rfl (by omega) (by first | assumption | rfl) (by omega) ?_
        refine wp_aload (k := 36) rfl rfl ?_
        refine w_gr (k := 37) (s := 9) rfl rfl (by first | assumption | rfl) (by first | assumption | rfl) ?_
        refine wp_iload (k := 38) rfl rfl ?_
        refine wp_aload (k := 39) rfl rfl ?_
        refine w_gr (k := 40) (s := 9) rfl rfl (by first | assumption | rfl) (by first | assumption | rfl) ?_
        refine wp_iload (k := 41) rfl rfl ?_
        refine w_lald (k := 42) rfl rfl (by first | assumption | rfl) (by omega) v2 ?_
        refine w_last (k := 43) rfl rfl (by first | assumption | rfl) (by omega) ?_
        refine w_incN (k := 44) (m := 1) rfl (oi_nI 1) rfl ?_
        refine w_incN (k := 45) (m := 1) rfl (oi_nI 1) rfl ?_
        refine w_goto (k := 46) (t' := 14) rfl rfl ?_
        have cp := cp_step0 (hold := hp I1 L1 q) (hold' := hp (am_u I1 (q + 1) K.length (P.getD i p0).1) (am_u L1 (q + 2) K.length (P.getD i p0).2) q) hk hr hKl (by unfold hp; simp [am_u_app]) (fun m x hm hx => by unfold hp at hx ⊢; simp [am_u_app, hm]; exact hx)
        have hl : (K ++ [P.getD i p0]).length = K.length + 1 := by simp
        rw [← hl]
        exact ih (i + 1) _ I0 _ _ (by omega) hst.symm cp.1 cp.2 (fun x x1 => by rw [am_uR x1, f1 x x1]) (fun x x1 => by rw [am_uR x1, g1 x x1]) e0 fi s0 x0
  have rest : ∀ b : Bool, b = decide (now < t) → am_V 6 am_c6 d sh Q 9 [some (.ref q), some (.long now), none, none, none] [.int (bI b), .ref q] (sh, I, L, R) := by
    intro b hb
    subst hb
    refine w_pz (k := 9) (s := 0) rfl rfl (by first | assumption | rfl) (bI_01 _) ?_
    refine w_ic (k := 10) (x := nI 0) rfl (oi_nI 0) ?_
    refine wp_istore (k := 11) rfl rfl ?_
    refine w_ic (k := 12) (x := nI 0) rfl (oi_nI 0) ?_
    refine wp_istore (k := 13) rfl rfl ?_
    refine lp _ 0 [] _ _ L (Nat.zero_add _) (by simp) (fun j hj => absurd hj (Nat.not_lt_zero j)) (fun j _ hj => ?_) (fun _ _ => rfl) (fun _ _ => rfl) am_us (fq_p (by omega)) (fun s hs => am_uw hs rfl) (fun x hx => am_uR hx)
    have := p3 j hj
    unfold hp at this ⊢
    rw [am_uR (by omega)]
    exact this
  refine am_enter (ls := [some _, some _, none, none, none]) (cs := am_c6) rfl rfl (Nat.le_of_ble_eq_true rfl) rfl ?_
  refine wp_aload (k := 0) rfl rfl ?_
  refine wp_aload (k := 1) rfl rfl ?_
  refine w_gl (k := 2) (s := 5) rfl rfl (by first | assumption | rfl) (by first | assumption | rfl) ?_
  refine wp_lload (k := 3) rfl rfl ?_
  refine w_L_le (k := 4) (t' := 8) rfl rfl rfl (fun k => ?_) (fun k => ?_)
  · refine w_ic (k := 8) (x := bI false) rfl rfl ?_
    exact rest false (decide_eq_false (Int64.not_lt.mpr k)).symm
  · refine w_ic (k := 6) (x := bI true) rfl rfl ?_
    refine w_goto (k := 7) (t' := 9) rfl rfl ?_
    exact rest true (decide_eq_true (Int64.not_le.mp k)).symm
end DRP
