/-! ===== searches; users, realm, nonce, part, fence ===== -/
def ff (p : Nat → Bool) : Nat → Nat → Option Nat
  | _, 0 => none
  | i, r + 1 => if p i then some i else ff p (i + 1) r
def lf (p : Nat → Bool) : Nat → Option Nat
  | 0 => none
  | n + 1 => if p n then some n else lf p n
def oI (o : Option Nat) : Int32 := match o with
  | some i => nI i
  | none => -1
theorem ff_some {p : Nat → Bool} : ∀ {r i j : Nat}, ff p i r = some j → i ≤ j ∧ j < i + r ∧ p j = true ∧ ∀ k, i ≤ k → k < j → p k = false
  | 0, _, _, h => by cases h
  | r + 1, i, j, h => by
    rw [ff] at h
    by_cases c : p i = true
    · rw [if_pos c] at h
      cases h
      exact ⟨Nat.le_refl _, by omega, c, fun k h1 h2 => by omega⟩
    · rw [if_neg c] at h
      obtain ⟨h1, h2, h3, h4⟩ := ff_some h
      refine ⟨by omega, by omega, h3, fun k k1 k2 => ?_⟩
      by_cases e : k = i
      · rw [e]; simpa using c
      · exact h4 k (by omega) k2
theorem ff_none {p : Nat → Bool} : ∀ {r i : Nat}, ff p i r = none → ∀ k, i ≤ k → k < i + r → p k = false
  | 0, _, _, k, h1, h2 => by omega
  | r + 1, i, h, k, h1, h2 => by
    rw [ff] at h
    by_cases c : p i = true
    · rw [if_pos c] at h; cases h
    · rw [if_neg c] at h
      by_cases e : k = i
      · rw [e]; simpa using c
      · exact ff_none h k (by omega) (by omega)
theorem ff_cong {p q : Nat → Bool} : ∀ {r i : Nat}, (∀ k, i ≤ k → k < i + r → p k = q k) → ff p i r = ff q i r
  | 0, _, _ => rfl
  | r + 1, i, h => by rw [ff, ff, h i (Nat.le_refl _) (by omega), ff_cong (fun k h1 h2 => h k (by omega) (by omega))]
theorem lf_cong {p q : Nat → Bool} : ∀ {n : Nat}, (∀ k, k < n → p k = q k) → lf p n = lf q n
  | 0, _ => rfl
  | n + 1, h => by rw [lf, lf, h n (by omega), lf_cong (fun k hk => h k (by omega))]
theorem lf_none {p : Nat → Bool} : ∀ {n : Nat}, (∀ k, k < n → p k = false) → lf p n = none
  | 0, _ => rfl
  | n + 1, h => by rw [lf, h n (by omega), if_neg (by decide), lf_none (fun k hk => h k (by omega))]
theorem lf_at {p : Nat → Bool} {j : Nat} (hp : p j = true) : ∀ {n : Nat}, j < n → (∀ k, j < k → k < n → p k = false) → lf p n = some j
  | 0, h, _ => by omega
  | n + 1, h, hk => by
    rw [lf]
    by_cases e : j = n
    · rw [← e, if_pos hp]
    · rw [hk n (by omega) (by omega), if_neg (by decide)]
      exact lf_at hp (by omega) (fun k h1 h2 => hk k h1 (by omega))
/-- where at most one fits, the first is the last -/
theorem ff_lf {p : Nat → Bool} {n : Nat} (hu : ∀ i j, i < j → j < n → p i = true → p j = true → False) : ff p 0 n = lf p n := by
  cases h : ff p 0 n with
  | none => exact (lf_none (fun k hk => ff_none h k (Nat.zero_le _) (by omega))).symm
  | some j =>
    obtain ⟨-, h2, h3, -⟩ := ff_some h
    exact (lf_at h3 (by omega) (fun k k1 k2 => by
      cases hk : p k with
      | false => rfl
      | true => exact (hu j k k1 k2 h3 hk).elim)).symm
theorem oI_neg (n : Nat) : oI (none : Option Nat) = -1 := rfl
theorem nI_ne1 {n : Nat} (h : n < 2 ^ 31) : ¬ nI n = -1 := fun q => nI_pos h (by rw [q]; decide)
theorem be_zero : ∀ k, be k 0 = List.replicate k 0
  | 0 => rfl
  | k + 1 => by rw [be, be_zero k]; simp [List.replicate_succ]
theorem nz_vb {l : List Nat} (h : wd l) : nz 8 (vb 0 l) = l := by
  have h1 := vb_lt l (fun c hc => (h.2 c hc).2)
  unfold nz
  rw [show be 8 (vb 0 l) = be ((8 - l.length) + l.length) (vb 0 l) by rw [Nat.sub_add_cancel h.1], be_app, be_vb l (fun c hc => (h.2 c hc).2), Nat.div_eq_of_lt h1, be_zero, List.filter_append]
  rw [List.filter_eq_nil_iff.mpr (fun a ha => by simp [List.eq_of_mem_replicate ha]), List.nil_append]
  exact List.filter_eq_self.mpr (fun a ha => by have := (h.2 a ha).1; simp; omega)
theorem vb_64 {l : List Nat} (h : wd l) : vb 0 l < 2 ^ 64 := Nat.lt_of_lt_of_le (vb_lt l (fun c hc => (h.2 c hc).2)) (Nat.le_trans (Nat.pow_le_pow_right (by decide) h.1) (by decide))
theorem uN_vb {l : List Nat} (h : wd l) : uN (lN (vb 0 l)) = vb 0 l := uN_lN (vb_64 h)
theorem vb_inj {l m : List Nat} (h1 : wd l) (h2 : wd m) : lN (vb 0 l) = lN (vb 0 m) ↔ l = m := by
  constructor
  · intro h
    have := congrArg uN h
    rw [uN_vb h1, uN_vb h2] at this
    rw [← nz_vb h1, this, nz_vb h2]
  · intro h; rw [h]
abbrev UR : Type := List (List Nat × Int64)
def ud : List Nat × Int64 := ([], 0)
def us_c (I : Nat → Nat → Int32) (L : Nat → Nat → Int64) (U : UR) : Prop := I 18 2 = nI U.length ∧ ∀ i, i < U.length → L 19 i = lN (vb 0 (U.getD i ud).1) ∧ L 20 i = lN (vb 0 (nz 8 (uN (U.getD i ud).2)))
def us_m (I : Nat → Nat → Int32) (L : Nat → Nat → Int64) (U : UR) : Prop := I 100 26 = nI U.length ∧ ∀ i, i < U.length → L 115 i = lN (vb 0 (U.getD i ud).1) ∧ L 116 i = (U.getD i ud).2
def us_ok (U : UR) : Prop := U.length ≤ 8 ∧ (∀ u ∈ U, wd u.1) ∧ ∀ i j, i < j → j < U.length → (U.getD i ud).1 ≠ (U.getD j ud).1
def uf (U : UR) (nm : List Nat) : Option Nat := ff (fun i => decide ((U.getD i ud).1 = nm)) 0 U.length
def sp_user (U : UR) (nm : List Nat) (pw : Int64) : Option UR := match uf U nm with
  | some i => some (U.set i (nm, pw))
  | none => if 8 ≤ U.length then none else some (U ++ [(nm, pw)])
theorem ug {U : UR} {i : Nat} (h : i < U.length) : U.getD i ud ∈ U := by
  rw [List.getD_eq_getElem?_getD, List.getElem?_eq_getElem h]
  exact List.getElem_mem _
theorem ug_set {U : UR} {i j : Nat} {x : List Nat × Int64} (hj : j < U.length) : (U.set i x).getD j ud = if j = i then x else U.getD j ud := by
  rw [List.getD_eq_getElem?_getD, List.getElem?_set]
  by_cases e : i = j
  · subst e
    rw [if_pos rfl, if_pos rfl, if_pos hj]
    rfl
  · rw [if_neg e, if_neg (fun q => e q.symm), List.getD_eq_getElem?_getD]
theorem ug_app {U : UR} {j : Nat} {x : List Nat × Int64} (hj : j < U.length + 1) : (U ++ [x]).getD j ud = if j = U.length then x else U.getD j ud := by
  rw [List.getD_eq_getElem?_getD]
  by_cases e : j = U.length
  · subst e
    simp
  · rw [if_neg e, List.getElem?_append_left (by omega), List.getD_eq_getElem?_getD]
theorem sp_user_ok {U U' : UR} {nm : List Nat} {pw : Int64} (h : us_ok U) (hn : wd nm) (e : sp_user U nm pw = some U') : us_ok U' := by
  unfold sp_user at e
  obtain ⟨a1, a2, a3⟩ := h
  split at e
  · rename_i i hi
    cases e
    obtain ⟨-, b2, b3, -⟩ := ff_some hi
    have b3 := of_decide_eq_true b3
    refine ⟨by simpa using a1, fun u hu => ?_, fun x y hxy hy => ?_⟩
    · rcases List.mem_or_eq_of_mem_set hu with q | q
      · exact a2 u q
      · rw [q]; exact hn
    · have hy : y < U.length := by simpa using hy
      have n1 : ∀ z, z < U.length → ((U.set i (nm, pw)).getD z ud).1 = (U.getD z ud).1 := fun z hz => by
        rw [ug_set hz]
        by_cases q : z = i
        · rw [if_pos q, q, b3]
        · rw [if_neg q]
      rw [n1 x (by omega), n1 y hy]
      exact a3 x y hxy hy
  · rename_i hi
    split at e
    · cases e
    · cases e
      refine ⟨by simp; omega, fun u hu => ?_, fun x y hxy hy => ?_⟩
      · rcases List.mem_append.mp hu with q | q
        · exact a2 u q
        · simp at q; rw [q]; exact hn
      · have hy : y < U.length + 1 := by simpa using hy
        rw [ug_app (by omega), ug_app hy, if_neg (by omega)]
        by_cases q : y = U.length
        · rw [if_pos q]
          have := of_decide_eq_false (ff_none hi x (Nat.zero_le _) (by omega))
          exact this
        · rw [if_neg q]
          exact a3 x y hxy (by omega)
section US
variable {d N : Nat} {I : Nat → Nat → Int32} {L : Nat → Nat → Int64} {w : Option Nat} {Q : am_Q} {U : UR}
theorem c_129 {v : Int64} {n : Nat} (hn : n ≤ 8) (h2 : I 18 2 = nI n) (hq : Q (some (.int (oI (ff (fun i => decide (L 19 i = v)) 0 n)))) (am_SH N, I, L, am_RR w)) : am_call (d + 1) 129 [.ref 18, .long v] (am_SH N, I, L, am_RR w) Q := by
  have loop : ∀ (r i : Nat), i + r = n → ff (fun i => decide (L 19 i = v)) 0 n = ff (fun i => decide (L 19 i = v)) i r → am_V 129 am_c129 d (am_SH N) Q 2 [some (.ref 18), some (.long v), none, some (.int (nI i))] [] (am_SH N, I, L, am_RR w) := by
    intro r
    induction r with
    | zero =>
      intro i hi e
      refine wp_iload (k := 2) rfl rfl ?_
      refine wp_aload (k := 3) rfl rfl ?_
      refine w_gi (k := 4) (s := 2) rfl rfl (by first | assumption | rfl) (by first | assumption | rfl) ?_
      refine w_n_ge (k := 5) (t' := 20) rfl rfl (by omega) (fun q => ?_) (fun q => absurd q (by omega))
      refine w_ic (k := 20) (x := (-1)) rfl (by decide) ?_
      refine w_ri (k := 21) rfl rfl rfl rfl ?_
      rw [e] at hq
      exact hq
    | succ r ih =>
      intro i hi e
      refine wp_iload (k := 2) rfl rfl ?_
      refine wp_aload (k := 3) rfl rfl ?_
      refine w_gi (k := 4) (s := 2) rfl rfl (by first | assumption | rfl) (by first | assumption | rfl) ?_
      refine w_n_ge (k := 5) (t' := 20) rfl rfl (by omega) (fun q => absurd q (by omega)) (fun q => ?_)
      refine wp_iload (k := 6) rfl rfl ?_
      refine w_ic (k := 7) (x := nI 8) rfl (oi_nI 8) ?_
      refine w_n_ge (k := 8) (t' := 20) rfl rfl (by omega) (fun q => absurd q (by omega)) (fun q => ?_)
      refine wp_aload (k := 9) rfl rfl ?_
      refine w_gr (k := 10) (s := 0) rfl rfl (by first | assumption | rfl) (by first | assumption | rfl) ?_
      refine wp_iload (k := 11) rfl rfl ?_
      refine w_lald (k := 12) rfl rfl (by first | assumption | rfl) (by omega) (by first | assumption | rfl) ?_
      refine wp_lload (k := 13) rfl rfl ?_
      refine w_L_ne (k := 14) (t' := 18) rfl rfl rfl (fun k => ?_) (fun k => ?_)
      · rw [ff, if_neg (by simpa using k)] at e
        refine w_incN (k := 18) (m := 1) rfl (oi_nI 1) rfl ?_
        refine w_goto (k := 19) (t' := 2) rfl rfl ?_
        exact ih (i + 1) (by omega) e
      · rw [ff, if_pos (by simpa using k)] at e
        refine wp_iload (k := 16) rfl rfl ?_
        refine w_ri (k := 17) rfl rfl rfl rfl ?_
        rw [e] at hq
        exact hq
  refine am_enter (ls := [some _, some _, none, none]) (cs := am_c129) rfl rfl (Nat.le_of_ble_eq_true rfl) rfl ?_
  refine w_ic (k := 0) (x := nI 0) rfl (oi_nI 0) ?_
  refine wp_istore (k := 1) rfl rfl ?_
  exact loop n 0 (by omega) rfl
theorem c_199 {v : Int64} {n : Nat} (hn : n ≤ 8) (h2 : I 100 26 = nI n) (hq : Q (some (.int (oI (lf (fun i => decide (L 115 i = v)) n)))) (am_SH N, I, L, am_RR w)) : am_call (d + 1) 199 [.ref 100, .long v] (am_SH N, I, L, am_RR w) Q := by
  have loop : ∀ (m : Nat), m ≤ n → lf (fun i => decide (L 115 i = v)) n = lf (fun i => decide (L 115 i = v)) m → am_V 199 am_c199 d (am_SH N) Q 5 [some (.ref 100), some (.long v), none, some (.int (nI m - nI 1))] [] (am_SH N, I, L, am_RR w) := by
    intro m
    induction m with
    | zero =>
      intro hm e
      refine wp_iload (k := 5) rfl rfl ?_
      refine w_z_lt (k := 6) (t' := 16) rfl rfl (fun q => ?_) (fun q => absurd (by decide) q)
      refine wp_iload (k := 16) rfl rfl ?_
      refine w_ri (k := 17) rfl rfl rfl rfl ?_
      rw [e] at hq
      exact hq
    | succ m ih =>
      intro hm e
      have er : nI (m + 1) - nI 1 = nI m := by rw [pk_sub (by omega)]; congr 1
      rw [er]
      refine wp_iload (k := 5) rfl rfl ?_
      refine w_m_lt (k := 6) (t' := 16) rfl rfl (by omega) (fun q => absurd q (by omega)) (fun q => ?_)
      refine wp_aload (k := 7) rfl rfl ?_
      refine w_gr (k := 8) (s := 24) rfl rfl (by first | assumption | rfl) (by first | assumption | rfl) ?_
      refine wp_iload (k := 9) rfl rfl ?_
      refine w_lald (k := 10) rfl rfl (by first | assumption | rfl) (by omega) (by first | assumption | rfl) ?_
      refine wp_lload (k := 11) rfl rfl ?_
      refine w_L_eq (k := 12) (t' := 16) rfl rfl rfl (fun k => ?_) (fun k => ?_)
      · rw [lf, if_pos (by simpa using k)] at e
        refine wp_iload (k := 16) rfl rfl ?_
        refine w_ri (k := 17) rfl rfl rfl rfl ?_
        rw [e] at hq
        exact hq
      · rw [lf, if_neg (by simpa using k)] at e
        refine w_incX (k := 14) rfl rfl (m1 m) ?_
        refine w_goto (k := 15) (t' := 5) rfl rfl ?_
        exact ih (by omega) e
  refine am_enter (ls := [some _, some _, none, none]) (cs := am_c199) rfl rfl (Nat.le_of_ble_eq_true rfl) rfl ?_
  refine wp_aload (k := 0) rfl rfl ?_
  refine w_gi (k := 1) (s := 26) rfl rfl (by first | assumption | rfl) (by first | assumption | rfl) ?_
  refine w_ic (k := 2) (x := nI 1) rfl (oi_nI 1) ?_
  refine wp_isub (k := 3) rfl ?_
  refine wp_istore (k := 4) rfl rfl ?_
  exact loop n (Nat.le_refl _) rfl
theorem uf_c (hok : us_ok U) (h : us_c I L U) {nm : List Nat} (hn : wd nm) : ff (fun i => decide (L 19 i = lN (vb 0 nm))) 0 U.length = uf U nm := by
  refine ff_cong (fun k _ hk => decide_eq_decide.mpr ?_)
  rw [(h.2 k (by omega)).1]
  exact vb_inj (hok.2.1 _ (ug (by omega))) hn
theorem uf_m (hok : us_ok U) (h : us_m I L U) {nm : List Nat} (hn : wd nm) : lf (fun i => decide (L 115 i = lN (vb 0 nm))) U.length = uf U nm := by
  unfold uf
  rw [ff_lf (fun i j hij hj h1 h2 => hok.2.2 i j hij hj ((of_decide_eq_true h1).trans (of_decide_eq_true h2).symm))]
  refine lf_cong (fun k hk => decide_eq_decide.mpr ?_)
  rw [(h.2 k hk).1]
  exact vb_inj (hok.2.1 _ (ug hk)) hn
def rsu (o : Option UR) : Int32 := match o with
  | none => -1
  | some U => nI U.length
theorem us_c_set {i : Nat} {nm : List Nat} {pw : Int64} (h : us_c I L U) (hi : i < U.length) (hn : (U.getD i ud).1 = nm) : us_c I (am_u L 20 i (lN (vb 0 (nz 8 (uN pw))))) (U.set i (nm, pw)) := by
  refine ⟨by rw [List.length_set]; exact h.1, fun j hj => ?_⟩
  have hj : j < U.length := by simpa using hj
  rw [ug_set hj, am_uR (by decide), am_u_app]
  by_cases e : j = i
  · rw [if_pos e, if_pos ⟨rfl, e⟩]
    refine ⟨?_, rfl⟩
    rw [(h.2 j hj).1, e, hn]
  · rw [if_neg e, if_neg (fun q => e q.2)]
    exact h.2 j hj
theorem us_c_app {nm : List Nat} {pw : Int64} (h : us_c I L U) : us_c (am_u I 18 2 (nI (U.length + 1))) (am_u (am_u L 19 U.length (lN (vb 0 nm))) 20 U.length (lN (vb 0 (nz 8 (uN pw))))) (U ++ [(nm, pw)]) := by
  refine ⟨by rw [am_us]; simp, fun j hj => ?_⟩
  have hj : j < U.length + 1 := by simpa using hj
  rw [ug_app hj, am_uR (by decide), am_u_app, am_u_app, am_uR (by decide)]
  by_cases e : j = U.length
  · rw [if_pos e, if_pos ⟨rfl, e⟩, if_pos ⟨rfl, e⟩]
    exact ⟨rfl, rfl⟩
  · rw [if_neg e, if_neg (fun q => e q.2), if_neg (fun q => e q.2)]
    exact h.2 j (by omega)
theorem c_128 (hok : us_ok U) (h : us_c I L U) {nm : List Nat} (hn : wd nm) {pw : Int64} (hq : ∀ I' L', us_c I' L' ((sp_user U nm pw).getD U) → (∀ x, x ≠ 18 → I' x = I x) → (∀ s, s ≠ 2 → I' 18 s = I 18 s) → (∀ x, x ≠ 19 → x ≠ 20 → L' x = L x) → Q (some (.int (rsu (sp_user U nm pw)))) (am_SH N, I', L', am_RR w)) : am_call (d + 2) 128 [.ref 18, .long (lN (vb 0 nm)), .long (lN (vb 0 (nz 8 (uN pw))))] (am_SH N, I, L, am_RR w) Q := by
  have hl := hok.1
  have h1 := h.1
  refine am_enter (ls := [some _, some _, none, some _, none, none]) (cs := am_c128) rfl rfl (Nat.le_of_ble_eq_true rfl) rfl ?_
  refine wp_aload (k := 0) rfl rfl ?_
  refine wp_lload (k := 1) rfl rfl ?_
  refine w_Vi (k := 2) [_] rfl rfl rfl (Nat.le_of_ble_eq_true rfl) (by first | assumption | rfl) (Or.inl ⟨rfl, rfl⟩) ?_
  refine (c_129 hl h.1 ?_)
  refine ⟨_, rfl, ?_⟩
  rw [uf_c hok h hn]
  unfold sp_user at hq
  cases hf : uf U nm with
  | some i =>
    rw [hf] at hq
    simp only [Option.getD_some, rsu] at hq
    obtain ⟨-, b2, b3, -⟩ := ff_some hf
    have b3 := of_decide_eq_true b3
    refine wp_istore (k := 3) rfl rfl ?_
    refine wp_iload (k := 4) rfl rfl ?_
    refine w_ic (k := 5) (x := (-1)) rfl (by decide) ?_
    refine w_c_eq (k := 6) (t' := 15) rfl rfl (fun q => absurd q (nI_ne1 (by omega))) (fun q => ?_)
    refine wp_aload (k := 7) rfl rfl ?_
    refine w_gr (k := 8) (s := 1) rfl rfl (by first | assumption | rfl) (by first | assumption | rfl) ?_
    refine wp_iload (k := 9) rfl rfl ?_
    refine wp_lload (k := 10) rfl rfl ?_
    refine w_last (k := 11) rfl rfl (by first | assumption | rfl) (by omega) ?_
    refine wp_aload (k := 12) rfl rfl ?_
    refine w_gi (k := 13) (s := 2) rfl rfl (by first | assumption | rfl) (by first | assumption | rfl) ?_
    refine w_ri (k := 14) rfl rfl rfl rfl ?_
    have := hq _ _ (us_c_set (pw := pw) h (by omega) b3) (fun _ _ => rfl) (fun _ _ => rfl) (fun x _ h2 => am_uR h2)
    rw [List.length_set] at this
    exact this
  | none =>
    rw [hf] at hq
    simp only at hq
    refine wp_istore (k := 3) rfl rfl ?_
    refine wp_iload (k := 4) rfl rfl ?_
    refine w_ic (k := 5) (x := (-1)) rfl (by decide) ?_
    refine w_c_eq (k := 6) (t' := 15) rfl rfl (fun q => ?_) (fun q => absurd rfl q)
    refine wp_aload (k := 15) rfl rfl ?_
    refine w_gi (k := 16) (s := 2) rfl rfl (by first | assumption | rfl) (by first | assumption | rfl) ?_
    refine w_ic (k := 17) (x := nI 8) rfl (oi_nI 8) ?_
    refine w_n_lt (k := 18) (t' := 21) rfl rfl (by omega) (fun k => ?_) (fun k => ?_)
    · rw [if_neg (by omega)] at hq
      simp only [Option.getD_some, rsu] at hq
      refine wp_aload (k := 21) rfl rfl ?_
      refine w_gr (k := 22) (s := 0) rfl rfl (by first | assumption | rfl) (by first | assumption | rfl) ?_
      refine wp_aload (k := 23) rfl rfl ?_
      refine w_gi (k := 24) (s := 2) rfl rfl (by first | assumption | rfl) (by first | assumption | rfl) ?_
      refine wp_lload (k := 25) rfl rfl ?_
      refine w_last (k := 26) rfl rfl (by first | assumption | rfl) (by omega) ?_
      refine wp_aload (k := 27) rfl rfl ?_
      refine w_gr (k := 28) (s := 1) rfl rfl (by first | assumption | rfl) (by first | assumption | rfl) ?_
      refine wp_aload (k := 29) rfl rfl ?_
      refine w_gi (k := 30) (s := 2) rfl rfl (by first | assumption | rfl) (by first | assumption | rfl) ?_
      refine wp_lload (k := 31) rfl rfl ?_
      refine w_last (k := 32) rfl rfl (by first | assumption | rfl) (by omega) ?_
      refine wp_aload (k := 33) rfl rfl ?_
      refine wp_dup (k := 34) rfl rfl ?_
      refine w_gi (k := 35) (s := 2) rfl rfl (by first | assumption | rfl) (by first | assumption | rfl) ?_
      refine w_ic (k := 36) (x := nI 1) rfl (oi_nI 1) ?_
      refine w_addN (k := 37) rfl ?_
      refine w_pi (k := 38) (s := 2) rfl rfl (by first | assumption | rfl) ?_
      refine wp_aload (k := 39) rfl rfl ?_
      refine w_gi (k := 40) (s := 2) rfl rfl (by first | assumption | rfl) am_us ?_
      refine w_ri (k := 41) rfl rfl rfl rfl ?_
      have := hq _ _ (us_c_app (pw := pw) (nm := nm) h) (fun x hx => am_uR hx) (fun s hs => am_uw hs rfl) (fun x h1 h2 => by rw [am_uR h2, am_uR h1])
      rw [List.length_append] at this
      exact this
    · rw [if_pos k] at hq
      refine w_ic (k := 19) (x := (-1)) rfl (by decide) ?_
      refine w_ri (k := 20) rfl rfl rfl rfl ?_
      exact hq I L h (fun _ _ => rfl) (fun _ _ => rfl) (fun _ _ _ => rfl)
/-- a user is entered -/
def sp_us (U : UR) (u p : Int64) : Option UR := if isW u && isW p then sp_user U (nz 8 (uN u)) p else none
theorem sp_us_ok {u p : Int64} (h : us_ok U) : us_ok ((sp_us U u p).getD U) := by
  unfold sp_us
  by_cases c : (isW u && isW p) = true
  · rw [if_pos c]
    cases e : sp_user U (nz 8 (uN u)) p with
    | none => exact h
    | some U' => exact sp_user_ok h (wd_nz u) e
  · rw [if_neg c]; exact h
theorem c_150 (hok : us_ok U) (h : us_c I L U) {u p : Int64} (hq : ∀ I' L', us_c I' L' ((sp_us U u p).getD U) → (∀ x, x ≠ 18 → I' x = I x) → (∀ s, s ≠ 2 → I' 18 s = I 18 s) → (∀ x, x ≠ 19 → x ≠ 20 → L' x = L x) → Q (some (.int (rsu (sp_us U u p)))) (am_SH N, I', L', am_RR w)) : am_call (d + 3) 150 [.ref 4, .long u, .long p] (am_SH N, I, L, am_RR w) Q := by
  have no : ∀ ls, (isW u && isW p) = false → am_V 150 am_c150 (d + 2) (am_SH N) Q 6 ls [] (am_SH N, I, L, am_RR w) := by
    intro ls hf
    unfold sp_us at hq
    rw [if_neg (by rw [hf]; decide)] at hq
    refine w_ic (k := 6) (x := (-1)) rfl (by decide) ?_
    refine w_ri (k := 7) rfl rfl rfl rfl ?_
    exact hq I L h (fun _ _ => rfl) (fun _ _ => rfl) (fun _ _ _ => rfl)
  refine am_enter (ls := [some _, some _, none, some _, none]) (cs := am_c150) rfl rfl (Nat.le_of_ble_eq_true rfl) rfl ?_
  refine wp_lload (k := 0) rfl rfl ?_
  refine w_Si (k := 1) [_] rfl rfl rfl (Nat.le_of_ble_eq_true rfl) (Or.inl ⟨rfl, rfl⟩) ?_
  refine (c_126 ?_)
  refine ⟨_, rfl, ?_⟩
  refine w_b_eq (k := 2) (t' := 6) rfl rfl (fun k1 => ?_) (fun k1 => ?_)
  · exact no _ (by rw [k1]; rfl)
  · refine wp_lload (k := 3) rfl rfl ?_
    refine w_Si (k := 4) [_] rfl rfl rfl (Nat.le_of_ble_eq_true rfl) (Or.inl ⟨rfl, rfl⟩) ?_
    refine (c_126 ?_)
    refine ⟨_, rfl, ?_⟩
    refine w_b_ne (k := 5) (t' := 8) rfl rfl (fun k2 => ?_) (fun k2 => ?_)
    · unfold sp_us at hq
      rw [if_pos (by rw [k1, k2]; rfl)] at hq
      refine wp_aload (k := 8) rfl rfl ?_
      refine w_gr (k := 9) (s := 3) rfl rfl (by first | assumption | rfl) (by first | assumption | rfl) ?_
      refine wp_lload (k := 10) rfl rfl ?_
      refine w_Sl (k := 11) [_] rfl rfl rfl (Nat.le_of_ble_eq_true rfl) (Or.inl ⟨rfl, rfl⟩) ?_
      refine (c_124 ?_)
      refine ⟨_, rfl, ?_⟩
      refine wp_lload (k := 12) rfl rfl ?_
      refine w_Sl (k := 13) [_] rfl rfl rfl (Nat.le_of_ble_eq_true rfl) (Or.inl ⟨rfl, rfl⟩) ?_
      refine (c_124 ?_)
      refine ⟨_, rfl, ?_⟩
      refine w_Vi (k := 14) [_, _] rfl rfl rfl (Nat.le_of_ble_eq_true rfl) (by first | assumption | rfl) (Or.inl ⟨rfl, rfl⟩) ?_
      refine (c_128 hok h (wd_nz u) (fun I' L' a b c e => ⟨_, rfl, ?_⟩))
      refine w_ri (k := 15) rfl rfl rfl rfl ?_
      exact hq I' L' a b c e
    · exact no _ (by rw [k2]; simp)
theorem us_m_k {P S : List Nat} {I I' : Nat → Nat → Int32} {L L' : Nat → Nat → Int64} (h : us_m I L U) (f : fx P S I I') (h26 : 26 ∉ S) (e1 : L' 115 = L 115) (e2 : L' 116 = L 116) : us_m I' L' U := ⟨by rw [f.2 26 h26]; exact h.1, fun i hi => by rw [e1, e2]; exact h.2 i hi⟩
theorem us_m_set {i : Nat} {nm : List Nat} {pw : Int64} (h : us_m I L U) (hi : i < U.length) (hn : (U.getD i ud).1 = nm) : us_m I (am_u L 116 i pw) (U.set i (nm, pw)) := by
  refine ⟨by rw [List.length_set]; exact h.1, fun j hj => ?_⟩
  have hj : j < U.length := by simpa using hj
  rw [ug_set hj, am_uR (by decide), am_u_app]
  by_cases e : j = i
  · rw [if_pos e, if_pos ⟨rfl, e⟩]
    refine ⟨?_, rfl⟩
    rw [(h.2 j hj).1, e, hn]
  · rw [if_neg e, if_neg (fun q => e q.2)]
    exact h.2 j hj
theorem us_m_app {nm : List Nat} {pw : Int64} (h : us_m I L U) : us_m (am_u I 100 26 (nI (U.length + 1))) (am_u (am_u L 115 U.length (lN (vb 0 nm))) 116 U.length pw) (U ++ [(nm, pw)]) := by
  refine ⟨by rw [am_us]; simp, fun j hj => ?_⟩
  have hj : j < U.length + 1 := by simpa using hj
  rw [ug_app hj, am_uR (by decide), am_u_app, am_u_app, am_uR (by decide)]
  by_cases e : j = U.length
  · rw [if_pos e, if_pos ⟨rfl, e⟩, if_pos ⟨rfl, e⟩]
    exact ⟨rfl, rfl⟩
  · rw [if_neg e, if_neg (fun q => e q.2), if_neg (fun q => e q.2)]
    exact h.2 j (by omega)
theorem fx_193 {I I1 : Nat → Nat → Int32} (e1 : ∀ x, x ≠ 100 → x ≠ 114 → I1 x = I x) (e2 : ∀ s, s ≠ 23 → I1 100 s = I 100 s) : fx [114] [0, 23, 26, 28] I I1 := ⟨fun x h hx => e1 x h (fun q => hx (by rw [q]; decide)), fun s hs => e2 s (fun q => hs (by rw [q]; decide))⟩
theorem c_200 (hok : us_ok U) (h : us_m I L U) {u p : Int64} (hq : ∀ I' L', us_m I' L' ((sp_us U u p).getD U) → fx [114] [0, 23, 26, 28] I I' → (∀ x, x ≠ 115 → x ≠ 116 → L' x = L x) → Q (some (.int (rsu (sp_us U u p)))) (am_SH N, I', L', am_RR w)) : am_call (d + 3) 200 [.ref 100, .long u, .long p] (am_SH N, I, L, am_RR w) Q := by
  have hl := hok.1
  have no : ∀ ls I1, us_m I1 L U → fx [114] [0, 23, 26, 28] I I1 → (isW u && isW p) = false → am_V 200 am_c200 (d + 2) (am_SH N) Q 11 ls [] (am_SH N, I1, L, am_RR w) := by
    intro ls I1 h1 f1 hf
    unfold sp_us at hq
    rw [if_neg (by rw [hf]; decide)] at hq
    refine w_ic (k := 11) (x := (-1)) rfl (by decide) ?_
    refine w_ri (k := 12) rfl rfl rfl rfl ?_
    exact hq I1 L h1 f1 (fun _ _ _ => rfl)
  have fin : ∀ (o : Option Value) (i : Nat) (I1 : Nat → Nat → Int32) (L1 : Nat → Nat → Int64) (V : UR), i < 8 → I1 100 26 = nI V.length → Q (some (.int (nI V.length))) (am_SH N, I1, am_u L1 116 i p, am_RR w) → am_V 200 am_c200 (d + 2) (am_SH N) Q 43 [some (.ref 100), some (.long u), none, some (.long p), none, some (.int (nI i))] [] (am_SH N, I1, L1, am_RR w) := by
    intro o i I1 L1 V hi h1 h2
    refine wp_aload (k := 43) rfl rfl ?_
    refine w_gr (k := 44) (s := 25) rfl rfl (by first | assumption | rfl) (by first | assumption | rfl) ?_
    refine wp_iload (k := 45) rfl rfl ?_
    refine wp_lload (k := 46) rfl rfl ?_
    refine w_last (k := 47) rfl rfl (by first | assumption | rfl) (by omega) ?_
    refine wp_aload (k := 48) rfl rfl ?_
    refine w_gi (k := 49) (s := 26) rfl rfl (by first | assumption | rfl) (by first | assumption | rfl) ?_
    refine w_ri (k := 50) rfl rfl rfl rfl ?_
    exact h2
  refine am_enter (ls := [some _, some _, none, some _, none, none]) (cs := am_c200) rfl rfl (Nat.le_of_ble_eq_true rfl) rfl ?_
  refine wp_aload (k := 0) rfl rfl ?_
  refine w_ic (k := 1) (x := nI 0) rfl (oi_nI 0) ?_
  refine w_pi (k := 2) (s := 0) rfl rfl (by first | assumption | rfl) ?_
  refine wp_aload (k := 3) rfl rfl ?_
  refine wp_lload (k := 4) rfl rfl ?_
  refine w_Vi (k := 5) [_] rfl rfl rfl (Nat.le_of_ble_eq_true rfl) (by first | assumption | rfl) (Or.inl ⟨rfl, rfl⟩) ?_
  refine (c_193 (fun I1 l1 e1 e2 => ⟨_, rfl, ?_⟩))
  have f1 : fx [114] [0, 23, 26, 28] I I1 := fx_t (fx_s (s := 0) (v := nI 0) (by decide)) (fx_193 e1 e2)
  have h1 : us_m I1 L U := ⟨by rw [e2 26 (by decide), am_u_app, if_neg (by decide)]; exact h.1, h.2⟩
  refine w_b_eq (k := 6) (t' := 11) rfl rfl (fun k1 => ?_) (fun k1 => ?_)
  · exact no _ I1 h1 f1 (by rw [k1]; rfl)
  · refine wp_aload (k := 7) rfl rfl ?_
    refine wp_lload (k := 8) rfl rfl ?_
    refine w_Vi (k := 9) [_] rfl rfl rfl (Nat.le_of_ble_eq_true rfl) (by first | assumption | rfl) (Or.inl ⟨rfl, rfl⟩) ?_
    refine (c_193 (fun I2 l2 e3 e4 => ⟨_, rfl, ?_⟩))
    have f2 := fx_t f1 (fx_193 e3 e4)
    have h2 : us_m I2 L U := ⟨by rw [e4 26 (by decide)]; exact h1.1, h1.2⟩
    have z2 := h2.1
    refine w_b_ne (k := 10) (t' := 13) rfl rfl (fun k2 => ?_) (fun k2 => ?_)
    · unfold sp_us at hq
      rw [if_pos (by rw [k1, k2]; rfl)] at hq
      refine wp_aload (k := 13) rfl rfl ?_
      refine wp_lload (k := 14) rfl rfl ?_
      refine w_Sl (k := 15) [_] rfl rfl rfl (Nat.le_of_ble_eq_true rfl) (Or.inl ⟨rfl, rfl⟩) ?_
      refine (c_198 ?_)
      refine ⟨_, rfl, ?_⟩
      refine w_Vi (k := 16) [_] rfl rfl rfl (Nat.le_of_ble_eq_true rfl) (by first | assumption | rfl) (Or.inl ⟨rfl, rfl⟩) ?_
      refine (c_199 hl h2.1 ?_)
      refine ⟨_, rfl, ?_⟩
      rw [uf_m hok h2 (wd_nz u)]
      unfold sp_user at hq
      cases hf : uf U (nz 8 (uN u)) with
      | some i =>
        rw [hf] at hq
        simp only [Option.getD_some, rsu] at hq
        obtain ⟨-, b2, b3, -⟩ := ff_some hf
        have b3 := of_decide_eq_true b3
        refine wp_istore (k := 17) rfl rfl ?_
        refine wp_iload (k := 18) rfl rfl ?_
        refine w_z_ge (k := 19) (t' := 26) rfl rfl (fun q => ?_) (fun q => absurd (nI_pos' (by omega)) q)
        refine wp_iload (k := 26) rfl rfl ?_
        refine w_z_ge (k := 27) (t' := 43) rfl rfl (fun q => ?_) (fun q => absurd (nI_pos' (by omega)) q)
        refine fin none i I2 L U (by omega) h2.1 ?_
        have := hq _ _ (us_m_set (pw := p) h2 (by omega) b3) f2 (fun x _ h2 => am_uR h2)
        rw [List.length_set] at this
        exact this
      | none =>
        rw [hf] at hq
        simp only at hq
        refine wp_istore (k := 17) rfl rfl ?_
        refine wp_iload (k := 18) rfl rfl ?_
        refine w_z_ge (k := 19) (t' := 26) rfl rfl (fun q => absurd q (by decide)) (fun q => ?_)
        refine wp_aload (k := 20) rfl rfl ?_
        refine w_gi (k := 21) (s := 26) rfl rfl (by first | assumption | rfl) (by first | assumption | rfl) ?_
        refine w_ic (k := 22) (x := nI 8) rfl (oi_nI 8) ?_
        refine w_n_ne (k := 23) (t' := 26) rfl rfl (by omega) (fun k3 => ?_) (fun k3 => ?_)
        · rw [if_neg (by omega)] at hq
          simp only [Option.getD_some, rsu] at hq
          refine wp_iload (k := 26) rfl rfl ?_
          refine w_z_ge (k := 27) (t' := 43) rfl rfl (fun q => absurd q (by decide)) (fun q => ?_)
          refine wp_aload (k := 28) rfl rfl ?_
          refine w_gi (k := 29) (s := 26) rfl rfl (by first | assumption | rfl) (by first | assumption | rfl) ?_
          refine wp_istore (k := 30) rfl rfl ?_
          refine wp_aload (k := 31) rfl rfl ?_
          refine w_gr (k := 32) (s := 24) rfl rfl (by first | assumption | rfl) (by first | assumption | rfl) ?_
          refine wp_iload (k := 33) rfl rfl ?_
          refine wp_lload (k := 34) rfl rfl ?_
          refine w_Sl (k := 35) [_] rfl rfl rfl (Nat.le_of_ble_eq_true rfl) (Or.inl ⟨rfl, rfl⟩) ?_
          refine (c_198 ?_)
          refine ⟨_, rfl, ?_⟩
          refine w_last (k := 36) rfl rfl (by first | assumption | rfl) (by omega) ?_
          refine wp_aload (k := 37) rfl rfl ?_
          refine wp_dup (k := 38) rfl rfl ?_
          refine w_gi (k := 39) (s := 26) rfl rfl (by first | assumption | rfl) (by first | assumption | rfl) ?_
          refine w_ic (k := 40) (x := nI 1) rfl (oi_nI 1) ?_
          refine w_addN (k := 41) rfl ?_
          refine w_pi (k := 42) (s := 26) rfl rfl (by first | assumption | rfl) ?_
          refine fin none U.length _ _ (U ++ [(nz 8 (uN u), p)]) (by omega) (by rw [am_us]; simp) ?_
          exact hq _ _ (us_m_app (pw := p) (nm := nz 8 (uN u)) h2) (fx_t f2 (fx_s (by decide))) (fun x h1 h2 => by rw [am_uR h2, am_uR h1])
        · rw [if_pos (by omega)] at hq
          refine w_ic (k := 24) (x := (-1)) rfl (by decide) ?_
          refine w_ri (k := 25) rfl rfl rfl rfl ?_
          exact hq I2 L h2 f2 (fun _ _ _ => rfl)
    · exact no _ I2 h2 f2 (by rw [k2]; simp)
end US
