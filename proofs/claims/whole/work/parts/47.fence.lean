/-! ===== realm, nonce, part, fence ===== -/
abbrev FR : Type := List (Int32 × Nat)
def fd : Int32 × Nat := (0, 0)
def fmask (b : Nat) : Int32 := if b = 0 then 0 else (-1) <<< (nI (32 - b) &&& 31)
def fn_c (I : Nat → Nat → Int32) (F : FR) : Prop := I 21 2 = nI F.length ∧ ∀ i, i < F.length → I 22 i = (F.getD i fd).1 ∧ I 23 i = fmask (F.getD i fd).2
def fn_m (I : Nat → Nat → Int32) (F : FR) : Prop := I 100 33 = nI F.length ∧ ∀ i, i < F.length → I 118 i = (F.getD i fd).1 ∧ I 119 i = nI (F.getD i fd).2
def fn_ok (F : FR) : Prop := F.length ≤ 4 ∧ ∀ f ∈ F, f.2 ≤ 32
def pfx (b : Nat) (x y : Int32) : Bool := (List.range 32).all (fun i => decide (32 - b ≤ i → bt x i = bt y i))
theorem pfx_iff {b : Nat} {x y : Int32} : pfx b x y = true ↔ ∀ i, i < 32 → 32 - b ≤ i → bt x i = bt y i := by
  unfold pfx
  rw [List.all_eq_true]
  constructor
  · intro h i hi
    exact of_decide_eq_true (h i (List.mem_range.mpr hi))
  · intro h i hi
    exact decide_eq_true (h i (List.mem_range.mp hi))
theorem bt_zero (i : Nat) : bt 0 i = false := b_0 i
theorem pfx_mask {b : Nat} (hb : b ≤ 32) (x y : Int32) : ((x ^^^ y) &&& fmask b = 0) ↔ pfx b x y = true := by
  have hm : ∀ i, i < 32 → bt (fmask b) i = decide (32 - b ≤ i) := by
    intro i hi
    unfold fmask
    by_cases h0 : b = 0
    · rw [if_pos h0, b_0, h0, decide_eq_false (by omega)]
    · rw [if_neg h0, b_shl _ (by omega) _ hi, b_m1 _ (by omega), Bool.and_true]
  rw [pfx_iff]
  constructor
  · intro h i hi hbi
    have := congrArg (fun z => bt z i) h
    simp only [b_and, b_xor, b_0, hm i hi, decide_eq_true hbi, Bool.and_true] at this
    cases hx : bt x i <;> cases hy : bt y i <;> simp [hx, hy] at this ⊢
  · intro h
    apply b_ext
    intro i hi
    rw [b_and, b_xor, b_0, hm i hi]
    by_cases hbi : 32 - b ≤ i
    · rw [h i hi hbi]; simp
    · rw [decide_eq_false hbi]; simp
theorem pfx_shift {b : Nat} (h1 : 1 ≤ b) (hb : b ≤ 32) (x y : Int32) : (x >>> (nI (32 - b) &&& 31) = y >>> (nI (32 - b) &&& 31)) ↔ pfx b x y = true := by
  rw [pfx_iff]
  constructor
  · intro h i hi hbi
    have : bt (x >>> (nI (32 - b) &&& 31)) (i - (32 - b)) = bt (y >>> (nI (32 - b) &&& 31)) (i - (32 - b)) := congrArg (fun z => bt z (i - (32 - b))) h
    rw [b_sshr _ (by omega) _ (by omega), b_sshr _ (by omega) _ (by omega), if_pos (by omega), if_pos (by omega), show 32 - b + (i - (32 - b)) = i by omega] at this
    exact this
  · intro h
    apply b_ext
    intro i hi
    rw [b_sshr _ (by omega) _ hi, b_sshr _ (by omega) _ hi]
    by_cases c : 32 - b + i < 32
    · rw [if_pos c, if_pos c]
      exact h _ c (by omega)
    · rw [if_neg c, if_neg c]
      exact h 31 (by decide) (by omega)
theorem pfx_0 (x y : Int32) : pfx 0 x y = true := pfx_iff.mpr (fun i hi h => by omega)
def brd (F : FR) (ip : Int32) : Bool := F.any (fun f => pfx f.2 ip f.1)
theorem fg_ {F : FR} {i : Nat} (h : i < F.length) : F.getD i fd ∈ F := by
  rw [List.getD_eq_getElem?_getD, List.getElem?_eq_getElem h]
  exact List.getElem_mem _
theorem fdrop {F : FR} {i : Nat} (h : i < F.length) : F.drop i = F.getD i fd :: F.drop (i + 1) := by
  rw [List.drop_eq_getElem_cons h, List.getD_eq_getElem?_getD, List.getElem?_eq_getElem h]
  rfl
theorem f_app {F : FR} {j : Nat} {x : Int32 × Nat} (hj : j < F.length + 1) : (F ++ [x]).getD j fd = if j = F.length then x else F.getD j fd := by
  rw [List.getD_eq_getElem?_getD]
  by_cases e : j = F.length
  · subst e
    simp
  · rw [if_neg e, List.getElem?_append_left (by omega), List.getD_eq_getElem?_getD]
def sp_fb (F : FR) (ip b : Int32) : Option FR := if b < 0 ∨ nI 32 < b ∨ 4 ≤ F.length then none else some (F ++ [(ip, b.toNatClampNeg)])
def rsf (o : Option FR) : Int32 := match o with
  | none => -1
  | some F => nI F.length
theorem sp_fb_ok {F : FR} {ip b : Int32} (h : fn_ok F) : fn_ok ((sp_fb F ip b).getD F) := by
  unfold sp_fb
  by_cases c : b < 0 ∨ nI 32 < b ∨ 4 ≤ F.length
  · rw [if_pos c]; exact h
  · rw [if_neg c]
    have c1 : ¬ b < 0 := fun q => c (Or.inl q)
    have c2 : ¬ nI 32 < b := fun q => c (Or.inr (Or.inl q))
    have c3 : ¬ 4 ≤ F.length := fun q => c (Or.inr (Or.inr q))
    obtain ⟨j, hj, rfl⟩ := nI_of c1
    have hj2 : j ≤ 32 := (nI_leI (by omega) (by decide)).mp (Int32.not_lt.mp c2)
    refine ⟨by simp; omega, fun f hf => ?_⟩
    have hf : f ∈ F ++ [(ip, (nI j).toNatClampNeg)] := hf
    rcases List.mem_append.mp hf with q | q
    · exact h.2 f q
    · simp at q
      rw [q, nI_clamp (by omega)]
      exact hj2
section FN
variable {d N : Nat} {I : Nat → Nat → Int32} {L : Nat → Nat → Int64} {w : Option Nat} {Q : am_Q} {F : FR}
theorem c_33 (hok : fn_ok F) (h : fn_c I F) {ip : Int32} (hq : Q (some (.int (bI (brd F ip)))) (am_SH N, I, L, am_RR w)) : am_call (d + 1) 33 [.ref 21, .int ip] (am_SH N, I, L, am_RR w) Q := by
  have hl := hok.1
  have h1 := h.1
  have loop : ∀ (r i : Nat), i + r = F.length → brd F ip = (F.drop i).any (fun f => pfx f.2 ip f.1) → am_V 33 am_c33 d (am_SH N) Q 2 [some (.ref 21), some (.int ip), some (.int (nI i))] [] (am_SH N, I, L, am_RR w) := by
    intro r
    induction r with
    | zero =>
      intro i hi e
      refine wp_iload (k := 2) rfl rfl ?_
      refine wp_aload (k := 3) rfl rfl ?_
      refine w_gi (k := 4) (s := 2) rfl rfl (by first | assumption | rfl) (by first | assumption | rfl) ?_
      refine w_n_ge (k := 5) (t' := 25) rfl rfl (by omega) (fun q => ?_) (fun q => absurd q (by omega))
      refine w_ic (k := 25) (x := bI false) rfl rfl ?_
      refine w_rz (k := 26) rfl rfl rfl ?_
      rw [e, List.drop_of_length_le (by omega)] at hq
      exact hq
    | succ r ih =>
      intro i hi e
      rw [fdrop (by omega), List.any_cons] at e
      have hb := hok.2 _ (fg_ (F := F) (i := i) (by omega))
      obtain ⟨v1, v2⟩ := h.2 i (by omega)
      refine wp_iload (k := 2) rfl rfl ?_
      refine wp_aload (k := 3) rfl rfl ?_
      refine w_gi (k := 4) (s := 2) rfl rfl (by first | assumption | rfl) (by first | assumption | rfl) ?_
      refine w_n_ge (k := 5) (t' := 25) rfl rfl (by omega) (fun q => absurd q (by omega)) (fun q => ?_)
      refine wp_iload (k := 6) rfl rfl ?_
      refine w_ic (k := 7) (x := nI 4) rfl (oi_nI 4) ?_
      refine w_n_ge (k := 8) (t' := 25) rfl rfl (by omega) (fun q => absurd q (by omega)) (fun q => ?_)
      refine wp_iload (k := 9) rfl rfl ?_
      refine wp_aload (k := 10) rfl rfl ?_
      refine w_gr (k := 11) (s := 0) rfl rfl (by first | assumption | rfl) (by first | assumption | rfl) ?_
      refine wp_iload (k := 12) rfl rfl ?_
      refine w_iald (k := 13) rfl rfl (by first | assumption | rfl) (by omega) v1 ?_
      refine wp_ixor (k := 14) rfl ?_
      refine wp_aload (k := 15) rfl rfl ?_
      refine w_gr (k := 16) (s := 1) rfl rfl (by first | assumption | rfl) (by first | assumption | rfl) ?_
      refine wp_iload (k := 17) rfl rfl ?_
      refine w_iald (k := 18) rfl rfl (by first | assumption | rfl) (by omega) v2 ?_
      refine wp_iand (k := 19) rfl ?_
      refine w_z_ne (k := 20) (t' := 23) rfl rfl (fun k => ?_) (fun k => ?_)
      · have kb : pfx (F.getD i fd).2 ip (F.getD i fd).1 = false := by
          cases hp : pfx (F.getD i fd).2 ip (F.getD i fd).1 with
          | false => rfl
          | true => exact absurd ((pfx_mask hb _ _).mpr hp) k
        rw [kb, Bool.false_or] at e
        refine w_incN (k := 23) (m := 1) rfl (oi_nI 1) rfl ?_
        refine w_goto (k := 24) (t' := 2) rfl rfl ?_
        exact ih (i + 1) (by omega) e
      · rw [(pfx_mask hb _ _).mp k, Bool.true_or] at e
        refine w_ic (k := 21) (x := bI true) rfl rfl ?_
        refine w_rz (k := 22) rfl rfl rfl ?_
        rw [e] at hq
        exact hq
  refine am_enter (ls := [some _, some _, none]) (cs := am_c33) rfl rfl (Nat.le_of_ble_eq_true rfl) rfl ?_
  refine w_ic (k := 0) (x := nI 0) rfl (oi_nI 0) ?_
  refine wp_istore (k := 1) rfl rfl ?_
  exact loop _ 0 (Nat.zero_add _) rfl
theorem c_205 (hok : fn_ok F) (h : fn_m I F) {ip : Int32} (hq : Q (some (.int (bI (brd F ip)))) (am_SH N, I, L, am_RR w)) : am_call (d + 1) 205 [.ref 100, .int ip] (am_SH N, I, L, am_RR w) Q := by
  have hl := hok.1
  have h1 := h.1
  have loop : ∀ (r i : Nat) (b : Bool) (o : Option Value), i + r = F.length → brd F ip = (b || (F.drop i).any (fun f => pfx f.2 ip f.1)) → am_V 205 am_c205 d (am_SH N) Q 4 [some (.ref 100), some (.int ip), some (.int (bI b)), some (.int (nI i)), o] [] (am_SH N, I, L, am_RR w) := by
    intro r
    induction r with
    | zero =>
      intro i b o hi e
      refine wp_iload (k := 4) rfl rfl ?_
      refine wp_aload (k := 5) rfl rfl ?_
      refine w_gi (k := 6) (s := 33) rfl rfl (by first | assumption | rfl) (by first | assumption | rfl) ?_
      refine w_n_ge (k := 7) (t' := 37) rfl rfl (by omega) (fun q => ?_) (fun q => absurd q (by omega))
      refine wp_iload (k := 37) rfl rfl ?_
      refine w_rz (k := 38) rfl rfl rfl ?_
      rw [e, List.drop_of_length_le (by omega), List.any_nil, Bool.or_false] at hq
      exact hq
    | succ r ih =>
      intro i b o hi e
      rw [fdrop (by omega), List.any_cons] at e
      have hb := hok.2 _ (fg_ (F := F) (i := i) (by omega))
      obtain ⟨v1, v2⟩ := h.2 i (by omega)
      have yes : (b || pfx (F.getD i fd).2 ip (F.getD i fd).1) = true → am_V 205 am_c205 d (am_SH N) Q 31 [some (.ref 100), some (.int ip), some (.int (bI b)), some (.int (nI i)), some (.int (nI (F.getD i fd).2))] [] (am_SH N, I, L, am_RR w) := by
        intro hy
        refine w_ic (k := 31) (x := bI true) rfl rfl ?_
        refine w_goto (k := 32) (t' := 34) rfl rfl ?_
        refine wp_istore (k := 34) rfl rfl ?_
        refine w_incN (k := 35) (m := 1) rfl (oi_nI 1) rfl ?_
        refine w_goto (k := 36) (t' := 4) rfl rfl ?_
        exact ih (i + 1) true _ (by omega) (by rw [e, ← Bool.or_assoc, hy])
      refine wp_iload (k := 4) rfl rfl ?_
      refine wp_aload (k := 5) rfl rfl ?_
      refine w_gi (k := 6) (s := 33) rfl rfl (by first | assumption | rfl) (by first | assumption | rfl) ?_
      refine w_n_ge (k := 7) (t' := 37) rfl rfl (by omega) (fun q => absurd q (by omega)) (fun q => ?_)
      refine wp_aload (k := 8) rfl rfl ?_
      refine w_gr (k := 9) (s := 32) rfl rfl (by first | assumption | rfl) (by first | assumption | rfl) ?_
      refine wp_iload (k := 10) rfl rfl ?_
      refine w_iald (k := 11) rfl rfl (by first | assumption | rfl) (by omega) v2 ?_
      refine wp_istore (k := 12) (ls2 := [some _, some _, some _, some _, some _]) rfl rfl ?_
      refine wp_iload (k := 13) rfl rfl ?_
      refine w_b_ne (k := 14) (t' := 31) rfl rfl (fun k1 => ?_) (fun k1 => ?_)
      · exact yes (by rw [k1]; rfl)
      · refine wp_iload (k := 15) rfl rfl ?_
        refine w_m_eq (k := 16) (t' := 31) rfl rfl (by omega) (fun k2 => ?_) (fun k2 => ?_)
        · exact yes (by rw [k2, pfx_0]; simp)
        · refine wp_iload (k := 17) rfl rfl ?_
          refine w_ic (k := 18) (x := nI 32) rfl (oi_nI 32) ?_
          refine wp_iload (k := 19) rfl rfl ?_
          refine w_subN (k := 20) rfl (by omega) ?_
          refine wp_ishr (k := 21) rfl ?_
          refine wp_aload (k := 22) rfl rfl ?_
          refine w_gr (k := 23) (s := 31) rfl rfl (by first | assumption | rfl) (by first | assumption | rfl) ?_
          refine wp_iload (k := 24) rfl rfl ?_
          refine w_iald (k := 25) rfl rfl (by first | assumption | rfl) (by omega) v1 ?_
          refine w_ic (k := 26) (x := nI 32) rfl (oi_nI 32) ?_
          refine wp_iload (k := 27) rfl rfl ?_
          refine w_subN (k := 28) rfl (by omega) ?_
          refine wp_ishr (k := 29) rfl ?_
          refine w_c_ne (k := 30) (t' := 33) rfl rfl (fun k3 => ?_) (fun k3 => ?_)
          · have kb : pfx (F.getD i fd).2 ip (F.getD i fd).1 = false := by
              cases hp : pfx (F.getD i fd).2 ip (F.getD i fd).1 with
              | false => rfl
              | true => exact absurd ((pfx_shift (by omega) hb _ _).mpr hp) k3
            refine w_ic (k := 33) (x := bI false) rfl rfl ?_
            refine wp_istore (k := 34) rfl rfl ?_
            refine w_incN (k := 35) (m := 1) rfl (oi_nI 1) rfl ?_
            refine w_goto (k := 36) (t' := 4) rfl rfl ?_
            exact ih (i + 1) false _ (by omega) (by rw [e, k1, kb]; rfl)
          · exact yes (by rw [(pfx_shift (by omega) hb _ _).mp k3]; simp)
  refine am_enter (ls := [some _, some _, none, none, none]) (cs := am_c205) rfl rfl (Nat.le_of_ble_eq_true rfl) rfl ?_
  refine w_ic (k := 0) (x := bI false) rfl rfl ?_
  refine wp_istore (k := 1) rfl rfl ?_
  refine w_ic (k := 2) (x := nI 0) rfl (oi_nI 0) ?_
  refine wp_istore (k := 3) rfl rfl ?_
  exact loop _ 0 false none (Nat.zero_add _) rfl
theorem fn_c_app {ip : Int32} {b : Nat} (h : fn_c I F) : fn_c (am_u (am_u (am_u I 22 F.length ip) 23 F.length (fmask b)) 21 2 (nI (F.length + 1))) (F ++ [(ip, b)]) := by
  refine ⟨by rw [am_us]; simp, fun j hj => ?_⟩
  have hj : j < F.length + 1 := by simpa using hj
  rw [f_app hj]
  by_cases e : j = F.length
  · subst e
    rw [if_pos rfl]
    constructor <;> simp [am_u_app]
  · rw [if_neg e]
    have := h.2 j (by omega)
    constructor
    · simp [am_u_app, e]; exact this.1
    · simp [am_u_app, e]; exact this.2
theorem c_154 (hok : fn_ok F) (h : fn_c I F) {ip b : Int32} (hq : ∀ I', fn_c I' ((sp_fb F ip b).getD F) → fc [21, 22, 23] I I' → Q (some (.int (rsf (sp_fb F ip b)))) (am_SH N, I', L, am_RR w)) : am_call (d + 2) 154 [.ref 4, .int ip, .int b] (am_SH N, I, L, am_RR w) Q := by
  have hl := hok.1
  have h1 := h.1
  unfold sp_fb at hq
  have no : ∀ ls, (b < 0 ∨ nI 32 < b) → am_V 154 am_c154 (d + 1) (am_SH N) Q 5 ls [] (am_SH N, I, L, am_RR w) := by
    intro ls hf
    rw [if_pos (hf.elim Or.inl (fun q => Or.inr (Or.inl q)))] at hq
    refine w_ic (k := 5) (x := (-1)) rfl (by decide) ?_
    refine w_ri (k := 6) rfl rfl rfl rfl ?_
    exact hq I h fc_rf
  refine am_enter (ls := [some _, some _, some _]) (cs := am_c154) rfl rfl (Nat.le_of_ble_eq_true rfl) rfl ?_
  refine wp_iload (k := 0) rfl rfl ?_
  refine w_z_lt (k := 1) (t' := 5) rfl rfl (fun k1 => ?_) (fun k1 => ?_)
  · exact no _ (Or.inl k1)
  · refine wp_iload (k := 2) rfl rfl ?_
    refine w_ic (k := 3) (x := nI 32) rfl (oi_nI 32) ?_
    refine w_c_le (k := 4) (t' := 7) rfl rfl (fun k2 => ?_) (fun k2 => ?_)
    · obtain ⟨j, hj, rfl⟩ := nI_of k1
      have hj2 : j ≤ 32 := (nI_leI (by omega) (by decide)).mp k2
      refine wp_aload (k := 7) rfl rfl ?_
      refine w_gr (k := 8) (s := 4) rfl rfl (by first | assumption | rfl) (by first | assumption | rfl) ?_
      refine wp_iload (k := 9) rfl rfl ?_
      refine wp_iload (k := 10) rfl rfl ?_
      refine w_Vi (k := 11) [_, _] rfl rfl rfl (Nat.le_of_ble_eq_true rfl) (by first | assumption | rfl) (Or.inl ⟨rfl, rfl⟩) ?_
      refine am_enter (ls := [some _, some _, some _]) (cs := am_c32) rfl rfl (Nat.le_of_ble_eq_true rfl) rfl ?_
      refine wp_aload (k := 0) rfl rfl ?_
      refine w_gi (k := 1) (s := 2) rfl rfl (by first | assumption | rfl) (by first | assumption | rfl) ?_
      refine w_ic (k := 2) (x := nI 4) rfl (oi_nI 4) ?_
      refine w_n_lt (k := 3) (t' := 6) rfl rfl (by omega) (fun k3 => ?_) (fun k3 => ?_)
      · rw [if_neg (fun q => q.elim k1 (fun q => q.elim (Int32.not_lt.mpr k2) (fun q => absurd q (by omega)))), nI_clamp (by omega)] at hq
        simp only [Option.getD_some, rsf] at hq
        have fin : ∀ (x : Int32), x = fmask j → am_V 32 am_c32 d (am_SH N) (fun r h' => ∃ x, r = some (.int x) ∧ am_V 154 am_c154 (d + 1) (am_SH N) Q 12 [some (.ref 4), some (.int ip), some (.int (nI j))] [.int x] h') 25 [some (.ref 21), some (.int ip), some (.int (nI j))] [.int x, .int (nI F.length), .ref 23] (am_SH N, am_u I 22 F.length ip, L, am_RR w) := by
          intro x hx
          subst hx
          refine w_iast (k := 25) rfl rfl (by omega) (by first | assumption | rfl) (by omega) ?_
          refine wp_aload (k := 26) rfl rfl ?_
          refine wp_dup (k := 27) rfl rfl ?_
          refine w_gi (k := 28) (s := 2) rfl rfl (by first | assumption | rfl) (am_uv (by decide) (am_uv (by decide) h1)) ?_
          refine w_ic (k := 29) (x := nI 1) rfl (oi_nI 1) ?_
          refine w_addN (k := 30) rfl ?_
          refine w_pi (k := 31) (s := 2) rfl rfl (by first | assumption | rfl) ?_
          refine wp_aload (k := 32) rfl rfl ?_
          refine w_gi (k := 33) (s := 2) rfl rfl (by first | assumption | rfl) am_us ?_
          refine w_ri (k := 34) rfl rfl rfl rfl ?_
          refine ⟨_, rfl, ?_⟩
          refine w_ri (k := 12) rfl rfl rfl rfl ?_
          have := hq _ (fn_c_app (ip := ip) (b := j) h) (fc_t (fc_t (fc_p (by decide)) (fc_p (by decide))) (fc_p (by decide)))
          rw [List.length_append] at this
          exact this
        refine wp_aload (k := 6) rfl rfl ?_
        refine w_gr (k := 7) (s := 0) rfl rfl (by first | assumption | rfl) (by first | assumption | rfl) ?_
        refine wp_aload (k := 8) rfl rfl ?_
        refine w_gi (k := 9) (s := 2) rfl rfl (by first | assumption | rfl) (by first | assumption | rfl) ?_
        refine wp_iload (k := 10) rfl rfl ?_
        refine w_iast (k := 11) rfl rfl (by omega) (by first | assumption | rfl) (by omega) ?_
        refine wp_aload (k := 12) rfl rfl ?_
        refine w_gr (k := 13) (s := 1) rfl rfl (by first | assumption | rfl) (by first | assumption | rfl) ?_
        refine wp_aload (k := 14) rfl rfl ?_
        refine w_gi (k := 15) (s := 2) rfl rfl (by first | assumption | rfl) (am_uv (by decide) h1) ?_
        refine wp_iload (k := 16) rfl rfl ?_
        refine w_m_ne (k := 17) (t' := 20) rfl rfl (by omega) (fun k4 => ?_) (fun k4 => ?_)
        · refine w_ic (k := 20) (x := (-1)) rfl (by decide) ?_
          refine w_ic (k := 21) (x := nI 32) rfl (oi_nI 32) ?_
          refine wp_iload (k := 22) rfl rfl ?_
          refine w_subN (k := 23) rfl (by omega) ?_
          refine wp_ishl (k := 24) rfl ?_
          refine fin _ ?_
          unfold fmask
          rw [if_neg k4]
        · refine w_ic (k := 18) (x := nI 0) rfl (oi_nI 0) ?_
          refine w_goto (k := 19) (t' := 25) rfl rfl ?_
          refine fin _ ?_
          unfold fmask
          rw [if_pos k4]
          rfl
      · rw [if_pos (Or.inr (Or.inr k3))] at hq
        refine w_ic (k := 4) (x := (-1)) rfl (by decide) ?_
        refine w_ri (k := 5) rfl rfl rfl rfl ?_
        refine ⟨_, rfl, ?_⟩
        refine w_ri (k := 12) rfl rfl rfl rfl ?_
        exact hq I h fc_rf
    · exact no _ (Or.inr (Int32.not_le.mp k2))
theorem fn_m_k {P S : List Nat} {I I' : Nat → Nat → Int32} (h : fn_m I F) (f : fx P S I I') (hs : 33 ∉ S) (h1 : 118 ∉ P) (h2 : 119 ∉ P) : fn_m I' F := ⟨by rw [f.2 33 hs]; exact h.1, fun i hi => by rw [f.1 118 (by decide) h1, f.1 119 (by decide) h2]; exact h.2 i hi⟩
theorem fn_m_app {ip : Int32} {b : Nat} (h : fn_m I F) : fn_m (am_u (am_u (am_u I 118 F.length ip) 119 F.length (nI b)) 100 33 (nI (F.length + 1))) (F ++ [(ip, b)]) := by
  refine ⟨by rw [am_us]; simp, fun j hj => ?_⟩
  have hj : j < F.length + 1 := by simpa using hj
  rw [f_app hj]
  by_cases e : j = F.length
  · subst e
    rw [if_pos rfl]
    constructor <;> simp [am_u_app]
  · rw [if_neg e]
    have := h.2 j (by omega)
    constructor
    · simp [am_u_app, e]; exact this.1
    · simp [am_u_app, e]; exact this.2
theorem c_204 (hok : fn_ok F) (h : fn_m I F) {ip b : Int32} (hq : ∀ I', fn_m I' ((sp_fb F ip b).getD F) → fx [118, 119] [0, 33] I I' → Q (some (.int (rsf (sp_fb F ip b)))) (am_SH N, I', L, am_RR w)) : am_call (d + 2) 204 [.ref 100, .int ip, .int b] (am_SH N, I, L, am_RR w) Q := by
  have hl := hok.1
  have f0 : fx [118, 119] [0, 33] I (am_u I 100 0 (nI 0)) := fx_s (by decide)
  have h0 : fn_m (am_u I 100 0 (nI 0)) F := fn_m_k (P := []) (S := [0]) h (fx_s (by decide)) (by decide) (by decide) (by decide)
  have h1 := h0.1
  unfold sp_fb at hq
  have no : ∀ ls, (b < 0 ∨ nI 32 < b ∨ 4 ≤ F.length) → am_V 204 am_c204 (d + 1) (am_SH N) Q 13 ls [] (am_SH N, am_u I 100 0 (nI 0), L, am_RR w) := by
    intro ls hf
    rw [if_pos hf] at hq
    refine w_ic (k := 13) (x := (-1)) rfl (by decide) ?_
    refine w_ri (k := 14) rfl rfl rfl rfl ?_
    exact hq _ h0 f0
  refine am_enter (ls := [some _, some _, some _]) (cs := am_c204) rfl rfl (Nat.le_of_ble_eq_true rfl) rfl ?_
  refine wp_aload (k := 0) rfl rfl ?_
  refine w_ic (k := 1) (x := nI 0) rfl (oi_nI 0) ?_
  refine w_pi (k := 2) (s := 0) rfl rfl (by first | assumption | rfl) ?_
  refine wp_iload (k := 3) rfl rfl ?_
  refine wp_i2l (k := 4) rfl ?_
  refine w_lc (k := 5) (x := lN 0) rfl (ol_lN 0) ?_
  refine w_lc (k := 6) (x := lN 32) rfl (ol_lN 32) ?_
  refine w_Si (k := 7) [_, _, _] rfl rfl rfl (Nat.le_of_ble_eq_true rfl) (Or.inl ⟨rfl, rfl⟩) ?_
  refine (c_166 ?_)
  refine ⟨_, rfl, ?_⟩
  rw [show decide (lN 0 ≤ b.toInt64 ∧ b.toInt64 ≤ lN 32) = decide (¬ b < 0 ∧ ¬ nI 32 < b) from decide_eq_decide.mpr (in_kd b (by decide) (by decide))]
  refine w_b_eq (k := 8) (t' := 13) rfl rfl (fun k1 => ?_) (fun k1 => ?_)
  · have k1 := of_decide_eq_false k1
    rcases Classical.em (b < 0) with q | q
    · exact no _ (Or.inl q)
    · exact no _ (Or.inr (Or.inl (Classical.not_not.mp (fun z => k1 ⟨q, z⟩))))
  · have k1 := of_decide_eq_true k1
    refine wp_aload (k := 9) rfl rfl ?_
    refine w_gi (k := 10) (s := 33) rfl rfl (by first | assumption | rfl) (by first | assumption | rfl) ?_
    refine w_ic (k := 11) (x := nI 4) rfl (oi_nI 4) ?_
    refine w_n_ne (k := 12) (t' := 15) rfl rfl (by omega) (fun k2 => ?_) (fun k2 => ?_)
    · rw [if_neg (fun q => q.elim k1.1 (fun q => q.elim k1.2 (fun q => absurd q (by omega))))] at hq
      simp only [Option.getD_some, rsf] at hq
      obtain ⟨j, hj, rfl⟩ := nI_of k1.1
      rw [nI_clamp (by omega)] at hq
      refine wp_aload (k := 15) rfl rfl ?_
      refine w_gr (k := 16) (s := 31) rfl rfl (by first | assumption | rfl) (by first | assumption | rfl) ?_
      refine wp_aload (k := 17) rfl rfl ?_
      refine w_gi (k := 18) (s := 33) rfl rfl (by first | assumption | rfl) (by first | assumption | rfl) ?_
      refine wp_iload (k := 19) rfl rfl ?_
      refine w_iast (k := 20) rfl rfl (by omega) (by first | assumption | rfl) (by omega) ?_
      refine wp_aload (k := 21) rfl rfl ?_
      refine w_gr (k := 22) (s := 32) rfl rfl (by first | assumption | rfl) (by first | assumption | rfl) ?_
      refine wp_aload (k := 23) rfl rfl ?_
      refine w_gi (k := 24) (s := 33) rfl rfl (by first | assumption | rfl) (am_uv (by decide) h1) ?_
      refine wp_iload (k := 25) rfl rfl ?_
      refine w_iast (k := 26) rfl rfl (by omega) (by first | assumption | rfl) (by omega) ?_
      refine wp_aload (k := 27) rfl rfl ?_
      refine wp_dup (k := 28) rfl rfl ?_
      refine w_gi (k := 29) (s := 33) rfl rfl (by first | assumption | rfl) (am_uv (by decide) (am_uv (by decide) h1)) ?_
      refine w_ic (k := 30) (x := nI 1) rfl (oi_nI 1) ?_
      refine w_addN (k := 31) rfl ?_
      refine w_pi (k := 32) (s := 33) rfl rfl (by first | assumption | rfl) ?_
      refine wp_aload (k := 33) rfl rfl ?_
      refine w_gi (k := 34) (s := 33) rfl rfl (by first | assumption | rfl) am_us ?_
      refine w_ri (k := 35) rfl rfl rfl rfl ?_
      have := hq _ (fn_m_app (ip := ip) (b := j) h0) (fx_t f0 (fx_t (fx_t (fx_p (by decide) (by decide)) (fx_p (by decide) (by decide))) (fx_s (by decide))))
      rw [List.length_append] at this
      exact this
    · exact no _ (Or.inr (Or.inr (by omega)))
/-- the realm -/
def sp_rl (rl : List Nat) (v : Int64) : List Nat := if isW v then nz 8 (uN v) else rl
theorem sp_rl_ok {rl : List Nat} {v : Int64} (h : wd rl) : wd (sp_rl rl v) := by
  unfold sp_rl
  by_cases c : isW v = true
  · rw [if_pos c]; exact wd_nz v
  · rw [if_neg c]; exact h
theorem c_151 {n : Nat} {rl : List Nat} {v : Int64} (hn : I 18 2 = nI n) (hr : L 18 3 = lN (vb 0 rl)) (hq : ∀ L', L' 18 3 = lN (vb 0 (sp_rl rl v)) → (∀ x, x ≠ 18 → L' x = L x) → (∀ s, s ≠ 3 → L' 18 s = L 18 s) → Q (some (.int (if isW v then nI n else -1))) (am_SH N, I, L', am_RR w)) : am_call (d + 2) 151 [.ref 4, .long v] (am_SH N, I, L, am_RR w) Q := by
  unfold sp_rl at hq
  refine am_enter (ls := [some _, some _, none]) (cs := am_c151) rfl rfl (Nat.le_of_ble_eq_true rfl) rfl ?_
  refine wp_lload (k := 0) rfl rfl ?_
  refine w_Si (k := 1) [_] rfl rfl rfl (Nat.le_of_ble_eq_true rfl) (Or.inl ⟨rfl, rfl⟩) ?_
  refine (c_126 ?_)
  refine ⟨_, rfl, ?_⟩
  refine w_b_ne (k := 2) (t' := 5) rfl rfl (fun k => ?_) (fun k => ?_)
  · rw [if_pos k, if_pos k] at hq
    refine wp_aload (k := 5) rfl rfl ?_
    refine w_gr (k := 6) (s := 3) rfl rfl (by first | assumption | rfl) (by first | assumption | rfl) ?_
    refine wp_lload (k := 7) rfl rfl ?_
    refine w_Sl (k := 8) [_] rfl rfl rfl (Nat.le_of_ble_eq_true rfl) (Or.inl ⟨rfl, rfl⟩) ?_
    refine (c_124 ?_)
    refine ⟨_, rfl, ?_⟩
    refine w_Vv (k := 9) [_] rfl rfl rfl (Nat.le_of_ble_eq_true rfl) (by first | assumption | rfl) (Or.inl ⟨rfl, rfl⟩) ?_
    refine am_enter (ls := [some _, some _, none]) (cs := am_c133) rfl rfl (Nat.le_of_ble_eq_true rfl) rfl ?_
    refine wp_aload (k := 0) rfl rfl ?_
    refine wp_lload (k := 1) rfl rfl ?_
    refine w_pl (k := 2) (s := 3) rfl rfl (by first | assumption | rfl) ?_
    refine w_rv (k := 3) rfl rfl rfl rfl ?_
    refine ⟨rfl, ?_⟩
    refine wp_aload (k := 10) rfl rfl ?_
    refine w_gr (k := 11) (s := 3) rfl rfl (by first | assumption | rfl) (by first | assumption | rfl) ?_
    refine w_Vi (k := 12) [] rfl rfl rfl (Nat.le_of_ble_eq_true rfl) (by first | assumption | rfl) (Or.inl ⟨rfl, rfl⟩) ?_
    refine am_enter (ls := [some _]) (cs := am_c127) rfl rfl (Nat.le_of_ble_eq_true rfl) rfl ?_
    refine wp_aload (k := 0) rfl rfl ?_
    refine w_gi (k := 1) (s := 2) rfl rfl (by first | assumption | rfl) (by first | assumption | rfl) ?_
    refine w_ri (k := 2) rfl rfl rfl rfl ?_
    refine ⟨_, rfl, ?_⟩
    refine w_ri (k := 13) rfl rfl rfl rfl ?_
    exact hq _ am_us (fun x hx => am_uR hx) (fun s hs => am_uw hs rfl)
  · rw [if_neg (by rw [k]; decide), if_neg (by rw [k]; decide)] at hq
    refine w_ic (k := 3) (x := (-1)) rfl (by decide) ?_
    refine w_ri (k := 4) rfl rfl rfl rfl ?_
    exact hq L hr (fun _ _ => rfl) (fun _ _ => rfl)
theorem c_201 {n : Nat} {rl : List Nat} {v : Int64} (hn : I 100 26 = nI n) (hr : mr I rl) (hq : ∀ I', mr I' (sp_rl rl v) → fx [114, 117] [0, 23, 28] I I' → Q (some (.int (if isW v then nI n else -1))) (am_SH N, I', L, am_RR w)) : am_call (d + 3) 201 [.ref 100, .long v] (am_SH N, I, L, am_RR w) Q := by
  unfold sp_rl at hq
  have hlen := nz_len 8 (uN v)
  refine am_enter (ls := [some _, some _, none, none]) (cs := am_c201) rfl rfl (Nat.le_of_ble_eq_true rfl) rfl ?_
  refine wp_aload (k := 0) rfl rfl ?_
  refine w_ic (k := 1) (x := nI 0) rfl (oi_nI 0) ?_
  refine w_pi (k := 2) (s := 0) rfl rfl (by first | assumption | rfl) ?_
  refine wp_aload (k := 3) rfl rfl ?_
  refine wp_lload (k := 4) rfl rfl ?_
  refine w_Vi (k := 5) [_] rfl rfl rfl (Nat.le_of_ble_eq_true rfl) (by first | assumption | rfl) (Or.inl ⟨rfl, rfl⟩) ?_
  refine (c_193 (fun I1 l1 e1 e2 => ⟨_, rfl, ?_⟩))
  have f1 : fx [114, 117] [0, 23, 28] I I1 := fx_t (fx_s (s := 0) (v := nI 0) (by decide)) ⟨fun x h hx => e1 x h (fun q => hx (by rw [q]; decide)), fun s hs => e2 s (fun q => hs (by rw [q]; decide))⟩
  have n1 : I1 100 26 = nI n := by rw [f1.2 26 (by decide)]; exact hn
  obtain ⟨q1, q2⟩ := l1
  refine w_b_ne (k := 6) (t' := 9) rfl rfl (fun k => ?_) (fun k => ?_)
  · rw [if_pos k, if_pos k] at hq
    generalize hW : nz 8 (uN v) = W at *
    have loop : ∀ (r i : Nat) (I2 : Nat → Nat → Int32), i + r = W.length → I2 100 28 = nI W.length → I2 100 23 = nI W.length → I2 100 26 = nI n → av I2 114 W → av I2 117 (W.take i) → fx [114, 117] [0, 23, 28] I I2 → am_V 201 am_c201 (d + 2) (am_SH N) Q 15 [some (.ref 100), some (.long v), none, some (.int (nI i))] [] (am_SH N, I2, L, am_RR w) := by
      intro r
      induction r with
      | zero =>
        intro i I2 hi a1 a2 a3 a4 a5 f2
        rw [List.take_of_length_le (by omega)] at a5
        refine wp_iload (k := 15) rfl rfl ?_
        refine wp_aload (k := 16) rfl rfl ?_
        refine w_gi (k := 17) (s := 23) rfl rfl (by first | assumption | rfl) (by first | assumption | rfl) ?_
        refine w_n_ge (k := 18) (t' := 29) rfl rfl (by omega) (fun q => ?_) (fun q => absurd q (by omega))
        refine wp_aload (k := 29) rfl rfl ?_
        refine w_gi (k := 30) (s := 26) rfl rfl (by first | assumption | rfl) (by first | assumption | rfl) ?_
        refine w_ri (k := 31) rfl rfl rfl rfl ?_
        exact hq I2 ⟨a1, a5⟩ f2
      | succ r ih =>
        intro i I2 hi a1 a2 a3 a4 a5 f2
        refine wp_iload (k := 15) rfl rfl ?_
        refine wp_aload (k := 16) rfl rfl ?_
        refine w_gi (k := 17) (s := 23) rfl rfl (by first | assumption | rfl) (by first | assumption | rfl) ?_
        refine w_n_ge (k := 18) (t' := 29) rfl rfl (by omega) (fun q => absurd q (by omega)) (fun q => ?_)
        refine wp_aload (k := 19) rfl rfl ?_
        refine w_gr (k := 20) (s := 27) rfl rfl (by first | assumption | rfl) (by first | assumption | rfl) ?_
        refine wp_iload (k := 21) rfl rfl ?_
        refine wp_aload (k := 22) rfl rfl ?_
        refine w_gr (k := 23) (s := 22) rfl rfl (by first | assumption | rfl) (by first | assumption | rfl) ?_
        refine wp_iload (k := 24) rfl rfl ?_
        refine w_iald (k := 25) rfl rfl (by first | assumption | rfl) (by omega) (a4.1 i (by omega)) ?_
        refine w_iast (k := 26) rfl rfl (by omega) (by first | assumption | rfl) (by omega) ?_
        refine w_incN (k := 27) (m := 1) rfl (oi_nI 1) rfl ?_
        refine w_goto (k := 28) (t' := 15) rfl rfl ?_
        have hst := av_step (X := []) (s := 0) (bs := W) (k := i) (by rw [wr_e (A := []) (s := 0) rfl]; exact a5) (by omega) (by decide) a4.2
        rw [wr_e (A := []) (s := 0) rfl, List.nil_append, Nat.zero_add] at hst
        exact ih (i + 1) _ (by omega) (by rw [am_uR (by decide)]; exact a1) (by rw [am_uR (by decide)]; exact a2) (by rw [am_uR (by decide)]; exact a3) (av_keep a4 (am_uR (by decide))) hst (fx_t f2 (fx_p (by decide) (by decide)))
    refine wp_aload (k := 9) rfl rfl ?_
    refine wp_aload (k := 10) rfl rfl ?_
    refine w_gi (k := 11) (s := 23) rfl rfl (by first | assumption | rfl) (by first | assumption | rfl) ?_
    refine w_pi (k := 12) (s := 28) rfl rfl (by first | assumption | rfl) ?_
    refine w_ic (k := 13) (x := nI 0) rfl (oi_nI 0) ?_
    refine wp_istore (k := 14) rfl rfl ?_
    exact loop _ 0 _ (Nat.zero_add _) am_us (am_uw (by decide) q1) (am_uw (by decide) n1) (av_keep q2 (am_uR (by decide))) ⟨fun j hj => absurd hj (by simp), fun c hc => by simp at hc⟩ (fx_t f1 (fx_s (by decide)))
  · rw [if_neg (by rw [k]; decide), if_neg (by rw [k]; decide)] at hq
    refine w_ic (k := 7) (x := (-1)) rfl (by decide) ?_
    refine w_ri (k := 8) rfl rfl rfl rfl ?_
    exact hq I1 ⟨by rw [e2 28 (by decide), am_u_app, if_neg (by decide)]; exact hr.1, av_keep hr.2 (by rw [e1 117 (by decide) (by decide), am_uR (by decide)])⟩ f1
theorem c_152 {v : Int64} (hq : Q (some (.int (nI 0))) (am_SH N, I, am_u L 18 4 v, am_RR w)) : am_call (d + 2) 152 [.ref 4, .long v] (am_SH N, I, L, am_RR w) Q := by
  refine am_enter (ls := [some _, some _, none]) (cs := am_c152) rfl rfl (Nat.le_of_ble_eq_true rfl) rfl ?_
  refine wp_aload (k := 0) rfl rfl ?_
  refine w_gr (k := 1) (s := 3) rfl rfl (by first | assumption | rfl) (by first | assumption | rfl) ?_
  refine wp_lload (k := 2) rfl rfl ?_
  refine w_Vv (k := 3) [_] rfl rfl rfl (Nat.le_of_ble_eq_true rfl) (by first | assumption | rfl) (Or.inl ⟨rfl, rfl⟩) ?_
  refine am_enter (ls := [some _, some _, none]) (cs := am_c135) rfl rfl (Nat.le_of_ble_eq_true rfl) rfl ?_
  refine wp_aload (k := 0) rfl rfl ?_
  refine wp_lload (k := 1) rfl rfl ?_
  refine w_pl (k := 2) (s := 4) rfl rfl (by first | assumption | rfl) ?_
  refine w_rv (k := 3) rfl rfl rfl rfl ?_
  refine ⟨rfl, ?_⟩
  refine w_ic (k := 4) (x := nI 0) rfl (oi_nI 0) ?_
  refine w_ri (k := 5) rfl rfl rfl rfl ?_
  exact hq
theorem c_202 {v : Int64} (hq : Q (some (.int (nI 0))) (am_SH N, am_u I 100 0 (nI 0), am_u L 100 29 v, am_RR w)) : am_call (d + 1) 202 [.ref 100, .long v] (am_SH N, I, L, am_RR w) Q := by
  refine am_enter (ls := [some _, some _, none]) (cs := am_c202) rfl rfl (Nat.le_of_ble_eq_true rfl) rfl ?_
  refine wp_aload (k := 0) rfl rfl ?_
  refine w_ic (k := 1) (x := nI 0) rfl (oi_nI 0) ?_
  refine w_pi (k := 2) (s := 0) rfl rfl (by first | assumption | rfl) ?_
  refine wp_aload (k := 3) rfl rfl ?_
  refine wp_lload (k := 4) rfl rfl ?_
  refine w_pl (k := 5) (s := 29) rfl rfl (by first | assumption | rfl) ?_
  refine w_ic (k := 6) (x := nI 0) rfl (oi_nI 0) ?_
  refine w_ri (k := 7) rfl rfl rfl rfl ?_
  exact hq
def okp (n : Int32) : Bool := decide (¬ n < 0 ∧ ¬ nI 8 < n)
theorem c_153 {n x : Int32} (hx : I 18 5 = x) (hq : Q (some (.int (if okp n then x else -1))) (am_SH N, (if okp n then am_u I 18 5 n else I), L, am_RR w)) : am_call (d + 2) 153 [.ref 4, .int n] (am_SH N, I, L, am_RR w) Q := by
  have no : ∀ ls, okp n = false → am_V 153 am_c153 (d + 1) (am_SH N) Q 5 ls [] (am_SH N, I, L, am_RR w) := by
    intro ls hf
    rw [if_neg (by rw [hf]; decide), if_neg (by rw [hf]; decide)] at hq
    refine w_ic (k := 5) (x := (-1)) rfl (by decide) ?_
    refine w_ri (k := 6) rfl rfl rfl rfl ?_
    exact hq
  refine am_enter (ls := [some _, some _, none]) (cs := am_c153) rfl rfl (Nat.le_of_ble_eq_true rfl) rfl ?_
  refine wp_iload (k := 0) rfl rfl ?_
  refine w_z_lt (k := 1) (t' := 5) rfl rfl (fun k1 => ?_) (fun k1 => ?_)
  · exact no _ (decide_eq_false (fun q => q.1 k1))
  · refine wp_iload (k := 2) rfl rfl ?_
    refine w_ic (k := 3) (x := nI 8) rfl (oi_nI 8) ?_
    refine w_c_le (k := 4) (t' := 7) rfl rfl (fun k2 => ?_) (fun k2 => ?_)
    · have ko : okp n = true := decide_eq_true ⟨k1, Int32.not_lt.mpr k2⟩
      rw [if_pos ko, if_pos ko] at hq
      refine wp_aload (k := 7) rfl rfl ?_
      refine w_gr (k := 8) (s := 3) rfl rfl (by first | assumption | rfl) (by first | assumption | rfl) ?_
      refine w_Vi (k := 9) [] rfl rfl rfl (Nat.le_of_ble_eq_true rfl) (by first | assumption | rfl) (Or.inl ⟨rfl, rfl⟩) ?_
      refine am_enter (ls := [some _]) (cs := am_c136) rfl rfl (Nat.le_of_ble_eq_true rfl) rfl ?_
      refine wp_aload (k := 0) rfl rfl ?_
      refine w_gi (k := 1) (s := 5) rfl rfl (by first | assumption | rfl) (by first | assumption | rfl) ?_
      refine w_ri (k := 2) rfl rfl rfl rfl ?_
      refine ⟨_, rfl, ?_⟩
      refine wp_istore (k := 10) rfl rfl ?_
      refine wp_aload (k := 11) rfl rfl ?_
      refine w_gr (k := 12) (s := 3) rfl rfl (by first | assumption | rfl) (by first | assumption | rfl) ?_
      refine wp_iload (k := 13) rfl rfl ?_
      refine w_Vv (k := 14) [_] rfl rfl rfl (Nat.le_of_ble_eq_true rfl) (by first | assumption | rfl) (Or.inl ⟨rfl, rfl⟩) ?_
      refine am_enter (ls := [some _, some _]) (cs := am_c137) rfl rfl (Nat.le_of_ble_eq_true rfl) rfl ?_
      refine wp_aload (k := 0) rfl rfl ?_
      refine wp_iload (k := 1) rfl rfl ?_
      refine w_pi (k := 2) (s := 5) rfl rfl (by first | assumption | rfl) ?_
      refine w_rv (k := 3) rfl rfl rfl rfl ?_
      refine ⟨rfl, ?_⟩
      refine wp_iload (k := 15) rfl rfl ?_
      refine w_ri (k := 16) rfl rfl rfl rfl ?_
      exact hq
    · exact no _ (decide_eq_false (fun q => q.2 (Int32.not_le.mp k2)))
theorem c_203 {n x : Int32} (hx : I 100 30 = x) (hq : Q (some (.int (if okp n then x else -1))) (am_SH N, (if okp n then am_u (am_u I 100 0 (nI 0)) 100 30 n else am_u I 100 0 (nI 0)), L, am_RR w)) : am_call (d + 2) 203 [.ref 100, .int n] (am_SH N, I, L, am_RR w) Q := by
  refine am_enter (ls := [some _, some _, none]) (cs := am_c203) rfl rfl (Nat.le_of_ble_eq_true rfl) rfl ?_
  refine wp_aload (k := 0) rfl rfl ?_
  refine w_ic (k := 1) (x := nI 0) rfl (oi_nI 0) ?_
  refine w_pi (k := 2) (s := 0) rfl rfl (by first | assumption | rfl) ?_
  refine wp_iload (k := 3) rfl rfl ?_
  refine wp_i2l (k := 4) rfl ?_
  refine w_lc (k := 5) (x := lN 0) rfl (ol_lN 0) ?_
  refine w_lc (k := 6) (x := lN 8) rfl (ol_lN 8) ?_
  refine w_Si (k := 7) [_, _, _] rfl rfl rfl (Nat.le_of_ble_eq_true rfl) (Or.inl ⟨rfl, rfl⟩) ?_
  refine (c_166 ?_)
  refine ⟨_, rfl, ?_⟩
  rw [show decide (lN 0 ≤ n.toInt64 ∧ n.toInt64 ≤ lN 8) = okp n from decide_eq_decide.mpr (in_kd n (by decide) (by decide))]
  refine w_b_ne (k := 8) (t' := 11) rfl rfl (fun k => ?_) (fun k => ?_)
  · rw [if_pos k, if_pos k] at hq
    refine wp_aload (k := 11) rfl rfl ?_
    refine w_gi (k := 12) (s := 30) rfl rfl (by first | assumption | rfl) (am_uw (by decide) hx) ?_
    refine wp_istore (k := 13) rfl rfl ?_
    refine wp_aload (k := 14) rfl rfl ?_
    refine wp_iload (k := 15) rfl rfl ?_
    refine w_pi (k := 16) (s := 30) rfl rfl (by first | assumption | rfl) ?_
    refine wp_iload (k := 17) rfl rfl ?_
    refine w_ri (k := 18) rfl rfl rfl rfl ?_
    exact hq
  · rw [if_neg (by rw [k]; decide), if_neg (by rw [k]; decide)] at hq
    refine w_ic (k := 9) (x := (-1)) rfl (by decide) ?_
    refine w_ri (k := 10) rfl rfl rfl rfl ?_
    exact hq
end FN
