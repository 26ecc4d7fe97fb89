/-! ===== rows of bytes ===== -/
theorem am_u_app {α : Type} (f : Nat → Nat → α) (p k : Nat) (v : α) (x y : Nat) : am_u f p k v x y = if x = p ∧ y = k then v else f x y := by
  unfold am_u va_up
  by_cases h : x = p
  · by_cases h2 : y = k
    · simp [h, h2]
    · simp [h, h2]
  · simp [h]
theorem am_uR {α : Type} {f : Nat → Nat → α} {p k : Nat} {v : α} {x : Nat} (h : x ≠ p) : am_u f p k v x = f x := by
  unfold am_u va_up
  simp [h]
theorem am_uv {α : Type} {f : Nat → Nat → α} {p k : Nat} {v : α} {x y : Nat} {w : α} (h : x ≠ p) (e : f x y = w) : am_u f p k v x y = w := by rw [am_uR h]; exact e
theorem am_uw {α : Type} {f : Nat → Nat → α} {p k : Nat} {v : α} {x y : Nat} {w : α} (h : y ≠ k) (e : f x y = w) : am_u f p k v x y = w := by rw [am_u_app, if_neg (fun q => h q.2)]; exact e
theorem am_us {α : Type} {f : Nat → Nat → α} {p k : Nat} {v : α} : am_u f p k v p k = v := by rw [am_u_app, if_pos ⟨rfl, rfl⟩]
def be : Nat → Nat → List Nat
  | 0, _ => []
  | w + 1, m => (m / 256 ^ w % 256) :: be w m
theorem be_len : ∀ (w m : Nat), (be w m).length = w
  | 0, _ => rfl
  | w + 1, m => by simp [be, be_len w m]
theorem be_lt : ∀ (w m c : Nat), c ∈ be w m → c < 256
  | 0, _, _, h => by simp [be] at h
  | w + 1, m, c, h => by
    rcases List.mem_cons.mp h with e | e
    · rw [e]; exact Nat.mod_lt _ (by decide)
    · exact be_lt w m c e
/-- the number that w bytes from place s on make; nothing there: 0 -/
def nb (B : List Nat) (s : Nat) : Nat → Nat
  | 0 => 0
  | w + 1 => nb B s w * 256 + B.getD (s + w) 0
def rw_at (sh : List (Nat × Nat)) (R : Nat → Nat → Option Nat) (p b n : Nat) : Prop := sh[p]? = some (6, 2) ∧ sh[b]? = some (52, n) ∧ R p 0 = some b ∧ p ≠ b ∧ n < 1000
def rw_B (I : Nat → Nat → Int32) (p b n : Nat) (B : List Nat) : Prop := B.length ≤ n ∧ I p 1 = nI B.length ∧ (∀ i, i < B.length → I b i = sb_b (B.getD i 0)) ∧ ∀ c ∈ B, c < 256
theorem rw_keep {I I' : Nat → Nat → Int32} {p b n : Nat} {B : List Nat} (h : rw_B I p b n B) (hp : I' p = I p) (hb : I' b = I b) : rw_B I' p b n B := by
  obtain ⟨h1, h2, h3, h4⟩ := h
  exact ⟨h1, by rw [hp]; exact h2, fun i hi => by rw [hb]; exact h3 i hi, h4⟩
theorem gd_lt {B : List Nat} (h : ∀ c ∈ B, c < 256) (i : Nat) : B.getD i 0 < 256 := by
  rw [List.getD_eq_getElem?_getD]
  cases e : B[i]? with
  | none => decide
  | some c => exact h c (List.mem_of_getElem? e)
theorem gd_app1 {A B : List Nat} {i : Nat} (h : i < A.length) : (A ++ B).getD i 0 = A.getD i 0 := by
  rw [List.getD_eq_getElem?_getD, List.getD_eq_getElem?_getD, List.getElem?_append_left h]
theorem gd_app2 {A B : List Nat} {i : Nat} (h : A.length ≤ i) : (A ++ B).getD i 0 = B.getD (i - A.length) 0 := by
  rw [List.getD_eq_getElem?_getD, List.getD_eq_getElem?_getD, List.getElem?_append_right h]
theorem rw_push {I : Nat → Nat → Int32} {p b n c : Nat} {B : List Nat} (h : rw_B I p b n B) (hl : B.length < n) (hc : c < 256) (hpb : p ≠ b) : rw_B (am_u (am_u I b B.length (sb_b c)) p 1 (nI (B.length + 1))) p b n (B ++ [c]) := by
  obtain ⟨h1, h2, h3, h4⟩ := h
  refine ⟨by simp; omega, by rw [am_us]; simp, fun i hi => ?_, fun x hx => ?_⟩
  · rw [am_uR (Ne.symm hpb), am_u_app]
    simp only [List.length_append, List.length_cons, List.length_nil] at hi
    by_cases e : i = B.length
    · subst e
      rw [if_pos ⟨rfl, rfl⟩, gd_app2 (Nat.le_refl _)]
      simp
    · rw [if_neg (fun q => e q.2), gd_app1 (by omega)]
      exact h3 i (by omega)
  · rcases List.mem_append.mp hx with q | q
    · exact h4 x q
    · simp at q; omega
theorem by_n (m : Nat) : (nI m).toInt8.toInt32 = sb_b m := rfl
theorem sb_mod (m : Nat) : sb_b (m % 256) = sb_b m := by
  unfold sb_b
  congr 1
  apply Int8.toBitVec_inj.mp
  rw [Int32.toBitVec_toInt8, Int32.toBitVec_toInt8]
  apply BitVec.eq_of_toNat_eq
  rw [BitVec.signExtend_eq_setWidth_of_le _ (by decide), BitVec.signExtend_eq_setWidth_of_le _ (by decide), BitVec.toNat_setWidth, BitVec.toNat_setWidth]
  show (m % 256) % 2 ^ 32 % 2 ^ 8 = m % 2 ^ 32 % 2 ^ 8
  omega
theorem i_nI (x : Int32) : x = nI x.toBitVec.toNat := by
  apply Int32.toBitVec_inj.mp
  show x.toBitVec = BitVec.ofNat 32 x.toBitVec.toNat
  simp
theorem l_lN (x : Int64) : x = lN (uN x) := by
  apply Int64.toBitVec_inj.mp
  show x.toBitVec = BitVec.ofNat 64 x.toBitVec.toNat
  simp
theorem by_l (y : Int64) : vp_nar .byte y.toInt32.toInt8.toInt32 = sb_b (uN y % 256) := by
  rw [pk_vb, sb_mod]
  conv => lhs; rw [l_lN y]
  rw [lN_i]
  rfl
theorem by_sh (v : Int64) {k : Nat} (hk : k < 64) : vp_nar .byte ((v.toUInt64 >>> ((nI k).toInt64.toUInt64 &&& Int64.toUInt64 63)).toInt64.toInt32.toInt8.toInt32) = sb_b (uN v / 2 ^ k % 256) := by
  rw [by_l, uN_sk v hk]
theorem sb_255 {c : Nat} (h : c < 256) : sb_b c &&& nI 255 = nI c := (sb_byte c h).1
theorem m8 (r : Nat) : nI (8 * r) + Int32.ofInt (-8) = nI (8 * r) - nI 8 := by
  have h : Int32.ofInt (-8) = - nI 8 := by decide
  rw [h, Int32.sub_eq_add_neg]
theorem e8 (w : Nat) : nI 8 * (nI w - nI 1) = nI (8 * w) - nI 8 := by
  have h1 : nI 1 = 1 := rfl
  rw [h1, Int32.mul_sub, Int32.mul_one, pk_mul]
section ROWS
variable {d : Nat} {sh : List (Nat × Nat)} {I : Nat → Nat → Int32} {L : Nat → Nat → Int64} {R : Nat → Nat → Option Nat} {Q : am_Q} {p b n : Nat} {B : List Nat}
theorem c_82 (hr : rw_at sh R p b n) (hB : rw_B I p b n B) (hq : Q (some (.int (nI B.length))) (sh, I, L, R)) : am_call (d + 1) 82 [.ref p] (sh, I, L, R) Q := by
  obtain ⟨r1, r2, r3, r4, r5⟩ := hr
  obtain ⟨g1, g2, g3, g4⟩ := hB
  refine am_enter (ls := [some _]) (cs := am_c82) rfl rfl (Nat.le_of_ble_eq_true rfl) rfl ?_
  refine wp_aload (k := 0) rfl rfl ?_
  refine w_gi (k := 1) (s := 1) rfl rfl (by first | assumption | rfl) (by first | assumption | rfl) ?_
  refine w_ri (k := 2) rfl rfl rfl rfl ?_
  exact hq
theorem c_83 (hr : rw_at sh R p b n) (hq : Q (some (.int (nI n))) (sh, I, L, R)) : am_call (d + 1) 83 [.ref p] (sh, I, L, R) Q := by
  obtain ⟨r1, r2, r3, r4, r5⟩ := hr
  refine am_enter (ls := [some _]) (cs := am_c83) rfl rfl (Nat.le_of_ble_eq_true rfl) rfl ?_
  refine wp_aload (k := 0) rfl rfl ?_
  refine w_gr (k := 1) (s := 0) rfl rfl (by first | assumption | rfl) (by first | assumption | rfl) ?_
  refine w_alen (k := 2) rfl (by first | assumption | rfl) (by decide) ?_
  refine w_ri (k := 3) rfl rfl rfl rfl ?_
  exact hq
/-- what stands at place i, for any i: -1 outside -/
def byA (B : List Nat) (i : Int32) : Int32 := if i < 0 ∨ nI B.length ≤ i then -1 else nI (B.getD i.toNatClampNeg 0)
theorem byA_n {B : List Nat} {j : Nat} (h : j < B.length) (hl : B.length < 2 ^ 31) : byA B (nI j) = nI (B.getD j 0) := by
  unfold byA
  rw [if_neg (fun q => q.elim (nI_pos (by omega)) (nI_ge h hl)), nI_clamp (by omega)]
theorem byA_o {B : List Nat} {j : Nat} (h : B.length ≤ j) (hl : j < 2 ^ 31) : byA B (nI j) = -1 := by
  unfold byA
  rw [if_pos (Or.inr (nI_le h hl))]
theorem c_84 (hr : rw_at sh R p b n) (hB : rw_B I p b n B) {i : Int32} (hq : Q (some (.int (byA B i))) (sh, I, L, R)) : am_call (d + 1) 84 [.ref p, .int i] (sh, I, L, R) Q := by
  obtain ⟨r1, r2, r3, r4, r5⟩ := hr
  obtain ⟨g1, g2, g3, g4⟩ := hB
  refine am_enter (ls := [some _, some _]) (cs := am_c84) rfl rfl (Nat.le_of_ble_eq_true rfl) rfl ?_
  refine wp_iload (k := 0) rfl rfl ?_
  refine w_z_lt (k := 1) (t' := 13) rfl rfl (fun c1 => ?_) (fun c1 => ?_)
  · refine w_ic (k := 13) (x := (-1)) rfl (by decide) ?_
    refine w_ri (k := 14) rfl rfl rfl rfl ?_
    unfold byA at hq
    rw [if_pos (Or.inl c1)] at hq
    exact hq
  · refine wp_iload (k := 2) rfl rfl ?_
    refine wp_aload (k := 3) rfl rfl ?_
    refine w_gi (k := 4) (s := 1) rfl rfl (by first | assumption | rfl) (by first | assumption | rfl) ?_
    refine w_c_ge (k := 5) (t' := 13) rfl rfl (fun c2 => ?_) (fun c2 => ?_)
    · refine w_ic (k := 13) (x := (-1)) rfl (by decide) ?_
      refine w_ri (k := 14) rfl rfl rfl rfl ?_
      unfold byA at hq
      rw [if_pos (Or.inr c2)] at hq
      exact hq
    · obtain ⟨j, hj, rfl⟩ := nI_of c1
      have hj2 : j < B.length := by
        rcases Nat.lt_or_ge j B.length with q | q
        · exact q
        · exact absurd (nI_le q hj) c2
      rw [byA_n hj2 (by omega)] at hq
      refine wp_aload (k := 6) rfl rfl ?_
      refine w_gr (k := 7) (s := 0) rfl rfl (by first | assumption | rfl) (by first | assumption | rfl) ?_
      refine wp_iload (k := 8) rfl rfl ?_
      refine w_bald (k := 9) rfl rfl (by first | assumption | rfl) (by omega) (g3 j hj2) ?_
      refine w_ic (k := 10) (x := nI 255) rfl (oi_nI 255) ?_
      refine wp_iand (k := 11) rfl ?_
      rw [sb_255 (gd_lt g4 j)]
      refine w_goto (k := 12) (t' := 14) rfl rfl ?_
      refine w_ri (k := 14) rfl rfl rfl rfl ?_
      exact hq
theorem rw_set {I : Nat → Nat → Int32} {p b n c j : Nat} {B : List Nat} (h : rw_B I p b n B) (hj : j < B.length) (hc : c < 256) (hpb : p ≠ b) : rw_B (am_u I b j (sb_b c)) p b n (B.set j c) := by
  obtain ⟨h1, h2, h3, h4⟩ := h
  refine ⟨by simpa using h1, by rw [am_uR hpb]; simpa using h2, fun i hi => ?_, fun x hx => ?_⟩
  · rw [am_u_app]
    have hi : i < B.length := by simpa using hi
    rw [List.getD_eq_getElem?_getD, List.getElem?_set]
    by_cases e : i = j
    · subst e
      rw [if_pos ⟨rfl, rfl⟩]
      simp [hj]
    · rw [if_neg (fun q => e q.2), if_neg (fun q => e q.symm), h3 i hi, List.getD_eq_getElem?_getD]
  · rcases List.mem_or_eq_of_mem_set hx with q | q
    · exact h4 x q
    · omega
theorem c_85 (hr : rw_at sh R p b n) (hB : rw_B I p b n B) {j : Nat} {x : Int32} (hj : j < B.length) (hq : ∀ I', rw_B I' p b n (B.set j (x.toBitVec.toNat % 256)) → (∀ y, y ≠ b → I' y = I y) → Q none (sh, I', L, R)) : am_call (d + 1) 85 [.ref p, .int (nI j), .int x] (sh, I, L, R) Q := by
  obtain ⟨r1, r2, r3, r4, r5⟩ := hr
  obtain ⟨g1, g2, g3, g4⟩ := id hB
  have e : vp_nar .byte x.toInt8.toInt32 = sb_b (x.toBitVec.toNat % 256) := by
    rw [pk_vb, sb_mod]
    conv => lhs; rw [i_nI x]
    rfl
  refine am_enter (ls := [some _, some _, some _]) (cs := am_c85) rfl rfl (Nat.le_of_ble_eq_true rfl) rfl ?_
  refine wp_iload (k := 0) rfl rfl ?_
  refine w_m_lt (k := 1) (t' := 12) rfl rfl (by omega) (fun q => absurd q (by omega)) (fun q => ?_)
  refine wp_iload (k := 2) rfl rfl ?_
  refine wp_aload (k := 3) rfl rfl ?_
  refine w_gi (k := 4) (s := 1) rfl rfl (by first | assumption | rfl) (by first | assumption | rfl) ?_
  refine w_n_ge (k := 5) (t' := 12) rfl rfl (by omega) (fun q => absurd q (by omega)) (fun q => ?_)
  refine wp_aload (k := 6) rfl rfl ?_
  refine w_gr (k := 7) (s := 0) rfl rfl (by first | assumption | rfl) (by first | assumption | rfl) ?_
  refine wp_iload (k := 8) rfl rfl ?_
  refine wp_iload (k := 9) rfl rfl ?_
  refine wp_i2b (k := 10) rfl ?_
  refine w_bast (k := 11) rfl rfl (by first | assumption | rfl) (by omega) e ?_
  refine w_rv (k := 12) rfl rfl rfl rfl ?_
  exact hq _ (rw_set hB hj (Nat.mod_lt _ (by decide)) r4) (fun y hy => am_uR hy)
theorem c_86 (hr : rw_at sh R p b n) (hB : rw_B I p b n B) {m : Nat} (hm : m ≤ B.length) (hq : ∀ I', rw_B I' p b n (B.take m) → (∀ y, y ≠ p → I' y = I y) → Q none (sh, I', L, R)) : am_call (d + 1) 86 [.ref p, .int (nI m)] (sh, I, L, R) Q := by
  obtain ⟨r1, r2, r3, r4, r5⟩ := hr
  obtain ⟨g1, g2, g3, g4⟩ := id hB
  refine am_enter (ls := [some _, some _]) (cs := am_c86) rfl rfl (Nat.le_of_ble_eq_true rfl) rfl ?_
  refine wp_iload (k := 0) rfl rfl ?_
  refine w_m_lt (k := 1) (t' := 9) rfl rfl (by omega) (fun q => absurd q (by omega)) (fun q => ?_)
  refine wp_iload (k := 2) rfl rfl ?_
  refine wp_aload (k := 3) rfl rfl ?_
  refine w_gi (k := 4) (s := 1) rfl rfl (by first | assumption | rfl) (by first | assumption | rfl) ?_
  refine w_n_ge (k := 5) (t' := 9) rfl rfl (by omega) (fun c1 => ?_) (fun c1 => ?_)
  · refine w_rv (k := 9) rfl rfl rfl rfl ?_
    exact hq I (by rw [List.take_of_length_le c1]; exact hB) (fun _ _ => rfl)
  · refine wp_aload (k := 6) rfl rfl ?_
    refine wp_iload (k := 7) rfl rfl ?_
    refine w_pi (k := 8) (s := 1) rfl rfl (by first | assumption | rfl) ?_
    refine w_rv (k := 9) rfl rfl rfl rfl ?_
    refine hq _ ⟨by simp; omega, by rw [am_us]; simp; rw [Nat.min_eq_left hm], fun i hi => ?_, fun c hc => g4 c (List.mem_of_mem_take hc)⟩ (fun y hy => am_uR hy)
    have hi : i < m ∧ i < B.length := by simp at hi; omega
    rw [am_uR (Ne.symm r4), g3 i hi.2, List.getD_eq_getElem?_getD, List.getD_eq_getElem?_getD, List.getElem?_take_of_lt hi.1]
theorem c_87 (hr : rw_at sh R p b n) (hB : rw_B I p b n B) {v : Int64} {w : Nat} (hw : B.length + w ≤ n) (hw8 : w ≤ 8) (hq : ∀ I', rw_B I' p b n (B ++ be w (uN v)) → (∀ x, x ≠ p → x ≠ b → I' x = I x) → Q none (sh, I', L, R)) : am_call (d + 1) 87 [.ref p, .long v, .int (nI w)] (sh, I, L, R) Q := by
  obtain ⟨r1, r2, r3, r4, r5⟩ := hr
  have loop : ∀ (r : Nat) (I1 : Nat → Nat → Int32) (B1 : List Nat), r ≤ 8 → B1.length + r ≤ n → rw_B I1 p b n B1 → (∀ I', rw_B I' p b n (B1 ++ be r (uN v)) → (∀ x, x ≠ p → x ≠ b → I' x = I1 x) → Q none (sh, I', L, R)) → am_V 87 am_c87 d sh Q 6 [some (.ref p), some (.long v), none, some (.int (nI w)), some (.int (nI (8 * r) - nI 8))] [] (sh, I1, L, R) := by
    intro r
    induction r with
    | zero =>
      intro I1 B1 _ _ hB1 hq
      refine wp_iload (k := 6) rfl rfl ?_
      refine w_z_lt (k := 7) (t' := 32) rfl rfl (fun q => ?_) (fun q => absurd (by decide) q)
      refine w_rv (k := 32) rfl rfl rfl rfl ?_
      exact hq I1 (by simpa [be] using hB1) (fun _ _ _ => rfl)
    | succ r ih =>
      intro I1 B1 hr8 hl hB1 hq
      obtain ⟨g1, g2, g3, g4⟩ := id hB1
      have e : nI (8 * (r + 1)) - nI 8 = nI (8 * r) := by rw [pk_sub (by omega)]; congr 1
      rw [e]
      refine wp_iload (k := 6) rfl rfl ?_
      refine w_m_lt (k := 7) (t' := 32) rfl rfl (by omega) (fun q => absurd q (by omega)) (fun q => ?_)
      refine wp_aload (k := 8) rfl rfl ?_
      refine w_gi (k := 9) (s := 1) rfl rfl (by first | assumption | rfl) (by first | assumption | rfl) ?_
      refine wp_aload (k := 10) rfl rfl ?_
      refine w_gr (k := 11) (s := 0) rfl rfl (by first | assumption | rfl) (by first | assumption | rfl) ?_
      refine w_alen (k := 12) rfl (by first | assumption | rfl) (by decide) ?_
      refine w_n_ge (k := 13) (t' := 30) rfl rfl (by omega) (fun q => absurd q (by omega)) (fun q => ?_)
      refine wp_aload (k := 14) rfl rfl ?_
      refine w_gr (k := 15) (s := 0) rfl rfl (by first | assumption | rfl) (by first | assumption | rfl) ?_
      refine wp_aload (k := 16) rfl rfl ?_
      refine w_gi (k := 17) (s := 1) rfl rfl (by first | assumption | rfl) (by first | assumption | rfl) ?_
      refine wp_lload (k := 18) rfl rfl ?_
      refine wp_iload (k := 19) rfl rfl ?_
      refine wp_lushr (k := 20) rfl ?_
      refine wp_l2i (k := 21) rfl ?_
      refine wp_i2b (k := 22) rfl ?_
      refine w_bast (k := 23) rfl rfl (by first | assumption | rfl) (by omega) (by_sh v (by omega)) ?_
      refine wp_aload (k := 24) rfl rfl ?_
      refine wp_dup (k := 25) rfl rfl ?_
      refine w_gi (k := 26) (s := 1) rfl rfl (by first | assumption | rfl) (am_uv r4 g2) ?_
      refine w_ic (k := 27) (x := nI 1) rfl (oi_nI 1) ?_
      refine w_addN (k := 28) rfl ?_
      refine w_pi (k := 29) (s := 1) rfl rfl (by first | assumption | rfl) ?_
      refine w_incX (k := 30) rfl rfl (m8 r) ?_
      refine w_goto (k := 31) (t' := 6) rfl rfl ?_
      have hc : uN v / 2 ^ (8 * r) % 256 = uN v / 256 ^ r % 256 := by rw [Nat.pow_mul]
      rw [hc]
      refine ih _ (B1 ++ [uN v / 256 ^ r % 256]) (by omega) (by simp; omega) (rw_push hB1 (by omega) (Nat.mod_lt _ (by decide)) r4) (fun I' hI' hf => hq I' (by simpa [be, List.append_assoc] using hI') (fun x hx hb => ?_))
      rw [hf x hx hb, am_uR hx, am_uR hb]
  refine am_enter (ls := [some _, some _, none, some _, none]) (cs := am_c87) rfl rfl (Nat.le_of_ble_eq_true rfl) rfl ?_
  refine w_ic (k := 0) (x := nI 8) rfl (oi_nI 8) ?_
  refine wp_iload (k := 1) rfl rfl ?_
  refine w_ic (k := 2) (x := nI 1) rfl (oi_nI 1) ?_
  refine wp_isub (k := 3) rfl ?_
  refine wp_imul (k := 4) rfl ?_
  refine w_eqi (x := nI 8 * (nI w - nI 1)) (e8 w) ?_
  refine wp_istore (k := 5) rfl rfl ?_
  exact loop w I B hw8 hw hB hq
theorem c_88 (hr : rw_at sh R p b n) (hB : rw_B I p b n B) {w : Nat} (hw : B.length + w ≤ n) (hq : ∀ I', rw_B I' p b n (B ++ List.replicate w 0) → (∀ x, x ≠ p → x ≠ b → I' x = I x) → Q none (sh, I', L, R)) : am_call (d + 1) 88 [.ref p, .int (nI w)] (sh, I, L, R) Q := by
  obtain ⟨r1, r2, r3, r4, r5⟩ := hr
  have loop : ∀ (r i : Nat) (I1 : Nat → Nat → Int32) (B1 : List Nat), i + r = w → B1.length + r ≤ n → rw_B I1 p b n B1 → (∀ I', rw_B I' p b n (B1 ++ List.replicate r 0) → (∀ x, x ≠ p → x ≠ b → I' x = I1 x) → Q none (sh, I', L, R)) → am_V 88 am_c88 d sh Q 2 [some (.ref p), some (.int (nI w)), some (.int (nI i))] [] (sh, I1, L, R) := by
    intro r
    induction r with
    | zero =>
      intro i I1 B1 hi hl hB1 hq
      refine wp_iload (k := 2) rfl rfl ?_
      refine wp_iload (k := 3) rfl rfl ?_
      refine w_n_ge (k := 4) (t' := 25) rfl rfl (by omega) (fun q => ?_) (fun q => absurd q (by omega))
      refine w_rv (k := 25) rfl rfl rfl rfl ?_
      exact hq I1 (by simpa using hB1) (fun _ _ _ => rfl)
    | succ r ih =>
      intro i I1 B1 hi hl hB1 hq
      obtain ⟨g1, g2, g3, g4⟩ := id hB1
      refine wp_iload (k := 2) rfl rfl ?_
      refine wp_iload (k := 3) rfl rfl ?_
      refine w_n_ge (k := 4) (t' := 25) rfl rfl (by omega) (fun q => absurd q (by omega)) (fun q => ?_)
      refine wp_aload (k := 5) rfl rfl ?_
      refine w_gi (k := 6) (s := 1) rfl rfl (by first | assumption | rfl) (by first | assumption | rfl) ?_
      refine wp_aload (k := 7) rfl rfl ?_
      refine w_gr (k := 8) (s := 0) rfl rfl (by first | assumption | rfl) (by first | assumption | rfl) ?_
      refine w_alen (k := 9) rfl (by first | assumption | rfl) (by decide) ?_
      refine w_n_ge (k := 10) (t' := 25) rfl rfl (by omega) (fun q => absurd q (by omega)) (fun q => ?_)
      refine wp_aload (k := 11) rfl rfl ?_
      refine w_gr (k := 12) (s := 0) rfl rfl (by first | assumption | rfl) (by first | assumption | rfl) ?_
      refine wp_aload (k := 13) rfl rfl ?_
      refine w_gi (k := 14) (s := 1) rfl rfl (by first | assumption | rfl) (by first | assumption | rfl) ?_
      refine w_ic (k := 15) (x := nI 0) rfl (oi_nI 0) ?_
      refine w_bast (k := 16) rfl rfl (by first | assumption | rfl) (by omega) (show vp_nar .byte (nI 0) = sb_b 0 from by decide) ?_
      refine wp_aload (k := 17) rfl rfl ?_
      refine wp_dup (k := 18) rfl rfl ?_
      refine w_gi (k := 19) (s := 1) rfl rfl (by first | assumption | rfl) (am_uv r4 g2) ?_
      refine w_ic (k := 20) (x := nI 1) rfl (oi_nI 1) ?_
      refine w_addN (k := 21) rfl ?_
      refine w_pi (k := 22) (s := 1) rfl rfl (by first | assumption | rfl) ?_
      refine w_incN (k := 23) (m := 1) rfl (oi_nI 1) rfl ?_
      refine w_goto (k := 24) (t' := 2) rfl rfl ?_
      refine ih (i + 1) _ (B1 ++ [0]) (by omega) (by simp; omega) (rw_push hB1 (by omega) (by decide) r4) (fun I' hI' hf => hq I' (by simpa [List.replicate_succ, List.append_assoc] using hI') (fun x hx hb => ?_))
      rw [hf x hx hb, am_uR hx, am_uR hb]
  refine am_enter (ls := [some _, some _, none]) (cs := am_c88) rfl rfl (Nat.le_of_ble_eq_true rfl) rfl ?_
  refine w_ic (k := 0) (x := nI 0) rfl (oi_nI 0) ?_
  refine wp_istore (k := 1) rfl rfl ?_
  exact loop w 0 I B (by omega) hw hB hq
theorem gd_dropTake {A : List Nat} {s w i : Nat} (h : i < w) : ((A.drop s).take w).getD i 0 = A.getD (s + i) 0 := by
  rw [List.getD_eq_getElem?_getD, List.getD_eq_getElem?_getD, List.getElem?_take_of_lt h, List.getElem?_drop]
theorem c_89 (hr : rw_at sh R p b n) (hB : rw_B I p b n B) {p2 b2 n2 : Nat} {A : List Nat} (hr2 : rw_at sh R p2 b2 n2) (hA : rw_B I p2 b2 n2 A) {s w : Nat} (hs : s + w ≤ A.length) (hw : B.length + w ≤ n) (hq : ∀ I', rw_B I' p b n (B ++ (A.drop s).take w) → (∀ x, x ≠ p → x ≠ b → I' x = I x) → Q none (sh, I', L, R)) : am_call (d + 1) 89 [.ref p, .ref p2, .int (nI s), .int (nI w)] (sh, I, L, R) Q := by
  obtain ⟨r1, r2, r3, r4, r5⟩ := hr
  obtain ⟨s1, s2, s3, s4, s5⟩ := hr2
  obtain ⟨g1, g2, g3, g4⟩ := id hB
  obtain ⟨f1, f2, f3, f4⟩ := id hA
  have hc1 : (nI s).toNatClampNeg = s := nI_clamp (by omega)
  have hc2 : (nI w).toNatClampNeg = w := nI_clamp (by omega)
  have hc3 : (nI B.length).toNatClampNeg = B.length := nI_clamp (by omega)
  refine am_enter (ls := [some _, some _, some _, some _]) (cs := am_c89) rfl rfl (Nat.le_of_ble_eq_true rfl) rfl ?_
  refine wp_iload (k := 0) rfl rfl ?_
  refine w_m_lt (k := 1) (t' := 33) rfl rfl (by omega) (fun q => absurd q (by omega)) (fun q => ?_)
  refine wp_iload (k := 2) rfl rfl ?_
  refine w_m_lt (k := 3) (t' := 33) rfl rfl (by omega) (fun q => absurd q (by omega)) (fun q => ?_)
  refine wp_iload (k := 4) rfl rfl ?_
  refine wp_iload (k := 5) rfl rfl ?_
  refine w_addN (k := 6) rfl ?_
  refine wp_aload (k := 7) rfl rfl ?_
  refine w_gi (k := 8) (s := 1) rfl rfl (by first | assumption | rfl) (by first | assumption | rfl) ?_
  refine w_n_gt (k := 9) (t' := 33) rfl rfl (by omega) (fun q => absurd q (by omega)) (fun q => ?_)
  refine wp_aload (k := 10) rfl rfl ?_
  refine w_gi (k := 11) (s := 1) rfl rfl (by first | assumption | rfl) (by first | assumption | rfl) ?_
  refine wp_iload (k := 12) rfl rfl ?_
  refine w_addN (k := 13) rfl ?_
  refine wp_aload (k := 14) rfl rfl ?_
  refine w_gr (k := 15) (s := 0) rfl rfl (by first | assumption | rfl) (by first | assumption | rfl) ?_
  refine w_alen (k := 16) rfl (by first | assumption | rfl) (by decide) ?_
  refine w_n_gt (k := 17) (t' := 33) rfl rfl (by omega) (fun q => absurd q (by omega)) (fun q => ?_)
  refine wp_aload (k := 18) rfl rfl ?_
  refine w_gr (k := 19) (s := 0) rfl rfl (by first | assumption | rfl) (by first | assumption | rfl) ?_
  refine wp_iload (k := 20) rfl rfl ?_
  refine wp_aload (k := 21) rfl rfl ?_
  refine w_gr (k := 22) (s := 0) rfl rfl (by first | assumption | rfl) (by first | assumption | rfl) ?_
  refine wp_aload (k := 23) rfl rfl ?_
  refine w_gi (k := 24) (s := 1) rfl rfl (by first | assumption | rfl) (by first | assumption | rfl) ?_
  refine wp_iload (k := 25) rfl rfl ?_
  refine wp_copyb (k := 26) (n0 := n2) (n1 := n) rfl (Nat.le_of_ble_eq_true rfl) s2 r2 (nI_pos (by omega)) (nI_pos (by omega)) (nI_pos (by omega)) (by rw [hc1, hc2]; omega) (by rw [hc3, hc2]; omega) (fun i hi => ?_) ?_
  · rw [hc2] at hi
    rw [hc1]
    show fits .byte (.int (I b2 (s + i))) = true
    rw [f3 (s + i) (by omega)]
    exact sb_fitB _
  · rw [hc1, hc2, hc3]
    show am_V 89 am_c89 d sh Q 27 _ _ (sh, va_up I b (va_cpy (I b2) (I b) s B.length w), L, R)
    have e1 : va_up I b (va_cpy (I b2) (I b) s B.length w) p = I p := by unfold va_up; rw [if_neg r4]
    have e2 : va_up I b (va_cpy (I b2) (I b) s B.length w) b = va_cpy (I b2) (I b) s B.length w := by unfold va_up; rw [if_pos rfl]
    refine wp_aload (k := 27) rfl rfl ?_
    refine wp_dup (k := 28) rfl rfl ?_
    refine w_gi (k := 29) (s := 1) rfl rfl (by first | assumption | rfl) (show va_up I b _ p 1 = nI B.length from by rw [e1]; exact g2) ?_
    refine wp_iload (k := 30) rfl rfl ?_
    refine w_addN (k := 31) rfl ?_
    refine w_pi (k := 32) (s := 1) rfl rfl (by first | assumption | rfl) ?_
    refine w_rv (k := 33) rfl rfl rfl rfl ?_
    have hlen : ((A.drop s).take w).length = w := by simp; omega
    refine hq _ ⟨by simp; omega, by rw [am_us, List.length_append, hlen], fun i hi => ?_, fun c hc => ?_⟩ (fun x hx hb => by rw [am_uR hx]; unfold va_up; rw [if_neg hb])
    · rw [am_uR (Ne.symm r4), e2]
      rw [List.length_append, hlen] at hi
      rcases Nat.lt_or_ge i B.length with q | q
      · rw [pk_cpy_out (Or.inl q), gd_app1 q]
        exact g3 i q
      · rw [pk_cpy_in q hi, gd_app2 q, gd_dropTake (by omega)]
        exact f3 _ (by omega)
    · rcases List.mem_append.mp hc with q | q
      · exact g4 c q
      · exact f4 c (List.mem_of_mem_drop (List.mem_of_mem_take q))
theorem nb_lt {B : List Nat} (h : ∀ c ∈ B, c < 256) (s : Nat) : ∀ w, nb B s w < 256 ^ w
  | 0 => by simp [nb]
  | w + 1 => by
    have h1 := nb_lt h s w
    have h2 := gd_lt h (s + w)
    rw [nb, Nat.pow_succ]
    omega
theorem c_90 (hr : rw_at sh R p b n) (hB : rw_B I p b n B) {s w : Nat} (hs : s + w < 2 ^ 31) (hq : Q (some (.long (lN (nb B s w)))) (sh, I, L, R)) : am_call (d + 1) 90 [.ref p, .int (nI s), .int (nI w)] (sh, I, L, R) Q := by
  obtain ⟨r1, r2, r3, r4, r5⟩ := hr
  obtain ⟨g1, g2, g3, g4⟩ := id hB
  have hor : ∀ m c : Nat, c < 256 → lN m <<< ((nI 8).toInt64 &&& 63) ||| (nI c).toInt64 = lN (m * 256 + c) := by
    intro m c hc
    rw [wb_shl m (k := 8) (by decide), nI_l (by omega), Nat.mul_comm m, fb_or_sumL m (k := 8) hc, Nat.mul_comm]
  have loop : ∀ (r i : Nat), i + r = w → am_V 90 am_c90 d sh Q 4 [some (.ref p), some (.int (nI s)), some (.int (nI w)), some (.long (lN (nb B s i))), none, some (.int (nI (s + i)))] [] (sh, I, L, R) := by
    intro r
    induction r with
    | zero =>
      intro i hi
      refine wp_iload (k := 4) rfl rfl ?_
      refine wp_iload (k := 5) rfl rfl ?_
      refine wp_iload (k := 6) rfl rfl ?_
      refine w_addN (k := 7) rfl ?_
      refine w_n_ge (k := 8) (t' := 31) rfl rfl (by omega) (fun q => ?_) (fun q => absurd q (by omega))
      refine wp_lload (k := 31) rfl rfl ?_
      refine w_rl (k := 32) rfl rfl rfl rfl ?_
      rw [show i = w by omega]
      exact hq
    | succ r ih =>
      intro i hi
      refine wp_iload (k := 4) rfl rfl ?_
      refine wp_iload (k := 5) rfl rfl ?_
      refine wp_iload (k := 6) rfl rfl ?_
      refine w_addN (k := 7) rfl ?_
      refine w_n_ge (k := 8) (t' := 31) rfl rfl (by omega) (fun q => absurd q (by omega)) (fun q => ?_)
      refine wp_lload (k := 9) rfl rfl ?_
      refine w_ic (k := 10) (x := nI 8) rfl (oi_nI 8) ?_
      refine wp_lshl (k := 11) rfl ?_
      refine wp_iload (k := 12) rfl rfl ?_
      refine w_m_lt (k := 13) (t' := 25) rfl rfl (by omega) (fun q => absurd q (by omega)) (fun q => ?_)
      refine wp_iload (k := 14) rfl rfl ?_
      refine wp_aload (k := 15) rfl rfl ?_
      refine w_gi (k := 16) (s := 1) rfl rfl (by first | assumption | rfl) (by first | assumption | rfl) ?_
      refine w_n_ge (k := 17) (t' := 25) rfl rfl (by omega) (fun c1 => ?_) (fun c1 => ?_)
      · refine w_ic (k := 25) (x := nI 0) rfl (oi_nI 0) ?_
        refine wp_i2l (k := 26) rfl ?_
        refine wp_lor (k := 27) rfl ?_
        rw [hor _ 0 (by decide)]
        refine wp_lstore (k := 28) rfl rfl ?_
        refine w_incN (k := 29) (m := 1) rfl (oi_nI 1) rfl ?_
        refine w_goto (k := 30) (t' := 4) rfl rfl ?_
        have e : nb B s i * 256 + 0 = nb B s (i + 1) := by
          rw [nb, List.getD_eq_getElem?_getD, List.getElem?_eq_none c1]; rfl
        rw [e]
        exact ih (i + 1) (by omega)
      · refine wp_aload (k := 18) rfl rfl ?_
        refine w_gr (k := 19) (s := 0) rfl rfl (by first | assumption | rfl) (by first | assumption | rfl) ?_
        refine wp_iload (k := 20) rfl rfl ?_
        refine w_bald (k := 21) rfl rfl (by first | assumption | rfl) (by omega) (g3 (s + i) c1) ?_
        refine w_ic (k := 22) (x := nI 255) rfl (oi_nI 255) ?_
        refine wp_iand (k := 23) rfl ?_
        rw [sb_255 (gd_lt g4 _)]
        refine w_goto (k := 24) (t' := 26) rfl rfl ?_
        refine wp_i2l (k := 26) rfl ?_
        refine wp_lor (k := 27) rfl ?_
        rw [hor _ _ (gd_lt g4 _)]
        refine wp_lstore (k := 28) rfl rfl ?_
        refine w_incN (k := 29) (m := 1) rfl (oi_nI 1) rfl ?_
        refine w_goto (k := 30) (t' := 4) rfl rfl ?_
        exact ih (i + 1) (by omega)
  refine am_enter (ls := [some _, some _, some _, none, none, none]) (cs := am_c90) rfl rfl (Nat.le_of_ble_eq_true rfl) rfl ?_
  refine w_lc (k := 0) (x := lN 0) rfl (ol_lN 0) ?_
  refine wp_lstore (k := 1) rfl rfl ?_
  refine wp_iload (k := 2) rfl rfl ?_
  refine wp_istore (k := 3) rfl rfl ?_
  exact loop w 0 (by omega)
end ROWS
