/-! ===== an allocation of the reference ===== -/
/-- the slot to which a cell of the reference's tables belongs -/
def slotOf (p m : Nat) : Option Nat := if 120 ≤ p ∧ p ≤ 125 ∨ p = 127 ∨ p = 130 then some m else if p = 126 then some (m / 3) else if p = 128 ∨ p = 129 then some (m / 16) else if 131 ≤ p ∧ p ≤ 134 then some (m / 8) else none
def fs {α : Type} (k : Nat) (f f' : Nat → Nat → α) : Prop := ∀ p m, slotOf p m ≠ some k → f' p m = f p m
theorem fs_rf {α : Type} {k : Nat} {f : Nat → Nat → α} : fs k f f := fun _ _ _ => rfl
theorem fs_t {α : Type} {k : Nat} {f f1 f2 : Nat → Nat → α} (h1 : fs k f f1) (h2 : fs k f1 f2) : fs k f f2 := fun p m h => by rw [h2 p m h, h1 p m h]
theorem fs_u {α : Type} {k p m : Nat} {f : Nat → Nat → α} {v : α} (h : slotOf p m = some k) : fs k f (am_u f p m v) := fun x y hx => by
  rw [am_u_app, if_neg (fun e => hx (by rw [e.1, e.2]; exact h))]
theorem fs_p {α : Type} {k : Nat} {f f' : Nat → Nat → α} (h : fs k f f') {p : Nat} (hp : p < 120 ∨ 134 < p) : f' p = f p := by
  funext m
  refine h p m ?_
  unfold slotOf
  rw [if_neg (by omega), if_neg (by omega), if_neg (by omega), if_neg (by omega)]
  exact fun e => by cases e
theorem so_1 {p k : Nat} (h : 120 ≤ p ∧ p ≤ 125 ∨ p = 127 ∨ p = 130) : slotOf p k = some k := by unfold slotOf; rw [if_pos h]
theorem so_3 {k j : Nat} (hj : j < 3) : slotOf 126 (3 * k + j) = some k := by unfold slotOf; rw [if_neg (by omega), if_pos rfl]; congr 1; omega
theorem so_16 {p k j : Nat} (hp : p = 128 ∨ p = 129) (hj : j < 16) : slotOf p (16 * k + j) = some k := by unfold slotOf; rw [if_neg (by omega), if_neg (by omega), if_pos hp]; congr 1; omega
theorem so_8 {p k j : Nat} (hp : 131 ≤ p ∧ p ≤ 134) (hj : j < 8) : slotOf p (8 * k + j) = some k := by unfold slotOf; rw [if_neg (by omega), if_neg (by omega), if_neg (by omega), if_pos hp]; congr 1; omega
def hpm (I : Nat → Nat → Int32) (L : Nat → Nat → Int64) : Nat → Int32 × Int64 → Prop := fun m x => I 128 m = x.1 ∧ L 129 m = x.2
def hcm (I : Nat → Nat → Int32) (L : Nat → Nat → Int64) : Nat → Int32 × Int32 × Int32 × Int64 → Prop := fun m x => I 131 m = x.1 ∧ I 132 m = x.2.1 ∧ I 133 m = x.2.2.1 ∧ L 134 m = x.2.2.2
def pm_m (I : Nat → Nat → Int32) (L : Nat → Nat → Int64) (k : Nat) (P : PM) : Prop := I 127 k = nI P.length ∧ P.length ≤ 16 ∧ ∀ j, j < P.length → hpm I L (16 * k + j) (P.getD j p0)
def ch_m (I : Nat → Nat → Int32) (L : Nat → Nat → Int64) (k : Nat) (C : CH) : Prop := I 130 k = nI C.length ∧ C.length ≤ 8 ∧ ∀ j, j < C.length → hcm I L (8 * k + j) (C.getD j c0)
def pu (P : PM) : Prop := ∀ i j, i < j → j < P.length → (P.getD i p0).1 ≠ (P.getD j p0).1
def cu (C : CH) : Prop := ∀ i j, i < j → j < C.length → (C.getD i c0).1 ≠ (C.getD j c0).1 ∧ ¬ ((C.getD i c0).2.1 = (C.getD j c0).2.1 ∧ (C.getD i c0).2.2.1 = (C.getD j c0).2.2.1)
theorem pf_lf {P : PM} (h : pu P) (ip : Int32) : pf P ip = lf (fun i => decide ((P.getD i p0).1 = ip)) P.length := ff_lf (fun i j hij hj h1 h2 => h i j hij hj ((of_decide_eq_true h1).trans (of_decide_eq_true h2).symm))
theorem cf_lf {C : CH} (h : cu C) (n : Int32) : cf C n = lf (fun i => decide ((C.getD i c0).1 = n)) C.length := ff_lf (fun i j hij hj h1 h2 => (h i j hij hj).1 ((of_decide_eq_true h1).trans (of_decide_eq_true h2).symm))
theorem ct_lf {C : CH} (h : cu C) (ip port : Int32) : ct C ip port = lf (fun i => decide ((C.getD i c0).2.1 = ip ∧ (C.getD i c0).2.2.1 = port)) C.length := ff_lf (fun i j hij hj h1 h2 => (h i j hij hj).2 ⟨(of_decide_eq_true h1).1.trans (of_decide_eq_true h2).1.symm, (of_decide_eq_true h1).2.trans (of_decide_eq_true h2).2.symm⟩)
theorem pu_pmt {P : PM} (h : pu P) (ip : Int32) (t : Int64) : pu (pmt P ip t) := by
  unfold pmt
  cases hf : pf P ip with
  | some i =>
    obtain ⟨h1, h2⟩ := pf_lt hf
    intro a b hab hb
    have hb : b < P.length := by simpa using hb
    have e : ∀ z, z < P.length → ((P.set i (ip, t)).getD z p0).1 = (P.getD z p0).1 := fun z hz => by
      rw [gD_set hz]
      by_cases q : z = i
      · rw [if_pos q, q, h2]
      · rw [if_neg q]
    rw [e a (by omega), e b hb]
    exact h a b hab hb
  | none =>
    simp only
    by_cases hl : P.length < 16
    · rw [if_pos hl]
      intro a b hab hb
      have hb : b < P.length + 1 := by simpa using hb
      rw [gD_app (by omega), gD_app hb, if_neg (by omega)]
      by_cases q : b = P.length
      · rw [if_pos q]
        exact of_decide_eq_false (ff_none hf a (Nat.zero_le _) (by omega))
      · rw [if_neg q]
        exact h a b hab (by omega)
    · rw [if_neg hl]; exact h
theorem pmt_len {P : PM} (h : P.length ≤ 16) (ip : Int32) (t : Int64) : (pmt P ip t).length ≤ 16 := by
  unfold pmt
  cases pf P ip with
  | some i => simpa using h
  | none =>
    simp only
    by_cases hl : P.length < 16
    · rw [if_pos hl]; simp; omega
    · rw [if_neg hl]; exact h
section ML
variable {d N : Nat} {I : Nat → Nat → Int32} {L : Nat → Nat → Int64} {w : Option Nat} {Q : am_Q} {k : Nat} {P : PM} {C : CH}
theorem c_210 (hk : k < 8) (h : pm_m I L k P) (hu : pu P) {ip : Int32} (hq : Q (some (.int (oI (pf P ip)))) (am_SH N, I, L, am_RR w)) : am_call (d + 1) 210 [.ref 100, .int (nI k), .int ip] (am_SH N, I, L, am_RR w) Q := by
  obtain ⟨h1, h2, h3⟩ := h
  rw [pf_lf hu] at hq
  have loop : ∀ (m : Nat), m ≤ P.length → lf (fun i => decide ((P.getD i p0).1 = ip)) P.length = lf (fun i => decide ((P.getD i p0).1 = ip)) m → am_V 210 am_c210 d (am_SH N) Q 7 [some (.ref 100), some (.int (nI k)), some (.int ip), some (.int (nI m - nI 1))] [] (am_SH N, I, L, am_RR w) := by
    intro m
    induction m with
    | zero =>
      intro hm e
      refine wp_iload (k := 7) rfl rfl ?_
      refine w_z_lt (k := 8) (t' := 21) rfl rfl (fun zq => ?_) (fun zq => absurd (by decide) zq)
      refine wp_iload (k := 21) rfl rfl ?_
      refine w_ri (k := 22) rfl rfl rfl rfl ?_
      rw [e] at hq
      exact hq
    | succ m ih =>
      intro hm e
      have er : nI (m + 1) - nI 1 = nI m := by rw [pk_sub (by omega)]; congr 1
      rw [er]
      rw [lf] at e
      refine wp_iload (k := 7) rfl rfl ?_
      refine w_m_lt (k := 8) (t' := 21) rfl rfl (by omega) (fun zq => absurd zq (by omega)) (fun zq => ?_)
      refine wp_aload (k := 9) rfl rfl ?_
      refine w_gr (k := 10) (s := 43) rfl rfl (by first | assumption | rfl) (by first | assumption | rfl) ?_
      refine w_ic (k := 11) (x := nI 16) rfl (oi_nI 16) ?_
      refine wp_iload (k := 12) rfl rfl ?_
      refine w_mulN (k := 13) rfl ?_
      refine wp_iload (k := 14) rfl rfl ?_
      refine w_addN (k := 15) rfl ?_
      refine w_iald (k := 16) rfl rfl (by first | assumption | rfl) (by omega) (h3 m (by omega)).1 ?_
      refine wp_iload (k := 17) rfl rfl ?_
      refine w_c_eq (k := 18) (t' := 21) rfl rfl (fun c1 => ?_) (fun c1 => ?_)
      · rw [if_pos (by simpa using c1)] at e
        refine wp_iload (k := 21) rfl rfl ?_
        refine w_ri (k := 22) rfl rfl rfl rfl ?_
        rw [e] at hq
        exact hq
      · rw [if_neg (by simpa using c1)] at e
        refine w_incX (k := 19) rfl rfl (m1 m) ?_
        refine w_goto (k := 20) (t' := 7) rfl rfl ?_
        exact ih (by omega) e
  refine am_enter (ls := [some _, some _, some _, none]) (cs := am_c210) rfl rfl (Nat.le_of_ble_eq_true rfl) rfl ?_
  refine wp_aload (k := 0) rfl rfl ?_
  refine w_gr (k := 1) (s := 42) rfl rfl (by first | assumption | rfl) (by first | assumption | rfl) ?_
  refine wp_iload (k := 2) rfl rfl ?_
  refine w_iald (k := 3) rfl rfl (by first | assumption | rfl) (by omega) h1 ?_
  refine w_ic (k := 4) (x := nI 1) rfl (oi_nI 1) ?_
  refine wp_isub (k := 5) rfl ?_
  refine wp_istore (k := 6) rfl rfl ?_
  exact loop _ (Nat.le_refl _) rfl
theorem c_211 (hk : k < 8) (h : ch_m I L k C) (hu : cu C) {n : Int32} (hq : Q (some (.int (oI (cf C n)))) (am_SH N, I, L, am_RR w)) : am_call (d + 1) 211 [.ref 100, .int (nI k), .int n] (am_SH N, I, L, am_RR w) Q := by
  obtain ⟨h1, h2, h3⟩ := h
  rw [cf_lf hu] at hq
  have loop : ∀ (m : Nat), m ≤ C.length → lf (fun i => decide ((C.getD i c0).1 = n)) C.length = lf (fun i => decide ((C.getD i c0).1 = n)) m → am_V 211 am_c211 d (am_SH N) Q 7 [some (.ref 100), some (.int (nI k)), some (.int n), some (.int (nI m - nI 1))] [] (am_SH N, I, L, am_RR w) := by
    intro m
    induction m with
    | zero =>
      intro hm e
      refine wp_iload (k := 7) rfl rfl ?_
      refine w_z_lt (k := 8) (t' := 21) rfl rfl (fun zq => ?_) (fun zq => absurd (by decide) zq)
      refine wp_iload (k := 21) rfl rfl ?_
      refine w_ri (k := 22) rfl rfl rfl rfl ?_
      rw [e] at hq
      exact hq
    | succ m ih =>
      intro hm e
      have er : nI (m + 1) - nI 1 = nI m := by rw [pk_sub (by omega)]; congr 1
      rw [er]
      rw [lf] at e
      refine wp_iload (k := 7) rfl rfl ?_
      refine w_m_lt (k := 8) (t' := 21) rfl rfl (by omega) (fun zq => absurd zq (by omega)) (fun zq => ?_)
      refine wp_aload (k := 9) rfl rfl ?_
      refine w_gr (k := 10) (s := 46) rfl rfl (by first | assumption | rfl) (by first | assumption | rfl) ?_
      refine w_ic (k := 11) (x := nI 8) rfl (oi_nI 8) ?_
      refine wp_iload (k := 12) rfl rfl ?_
      refine w_mulN (k := 13) rfl ?_
      refine wp_iload (k := 14) rfl rfl ?_
      refine w_addN (k := 15) rfl ?_
      refine w_iald (k := 16) rfl rfl (by first | assumption | rfl) (by omega) (h3 m (by omega)).1 ?_
      refine wp_iload (k := 17) rfl rfl ?_
      refine w_c_eq (k := 18) (t' := 21) rfl rfl (fun c1 => ?_) (fun c1 => ?_)
      · rw [if_pos (by simpa using c1)] at e
        refine wp_iload (k := 21) rfl rfl ?_
        refine w_ri (k := 22) rfl rfl rfl rfl ?_
        rw [e] at hq
        exact hq
      · rw [if_neg (by simpa using c1)] at e
        refine w_incX (k := 19) rfl rfl (m1 m) ?_
        refine w_goto (k := 20) (t' := 7) rfl rfl ?_
        exact ih (by omega) e
  refine am_enter (ls := [some _, some _, some _, none]) (cs := am_c211) rfl rfl (Nat.le_of_ble_eq_true rfl) rfl ?_
  refine wp_aload (k := 0) rfl rfl ?_
  refine w_gr (k := 1) (s := 45) rfl rfl (by first | assumption | rfl) (by first | assumption | rfl) ?_
  refine wp_iload (k := 2) rfl rfl ?_
  refine w_iald (k := 3) rfl rfl (by first | assumption | rfl) (by omega) h1 ?_
  refine w_ic (k := 4) (x := nI 1) rfl (oi_nI 1) ?_
  refine wp_isub (k := 5) rfl ?_
  refine wp_istore (k := 6) rfl rfl ?_
  exact loop _ (Nat.le_refl _) rfl
theorem c_212 (hk : k < 8) (h : ch_m I L k C) (hu : cu C) {ip port : Int32} (hq : Q (some (.int (oI (ct C ip port)))) (am_SH N, I, L, am_RR w)) : am_call (d + 1) 212 [.ref 100, .int (nI k), .int ip, .int port] (am_SH N, I, L, am_RR w) Q := by
  obtain ⟨h1, h2, h3⟩ := h
  rw [ct_lf hu] at hq
  have loop : ∀ (m : Nat), m ≤ C.length → lf (fun i => decide ((C.getD i c0).2.1 = ip ∧ (C.getD i c0).2.2.1 = port)) C.length = lf (fun i => decide ((C.getD i c0).2.1 = ip ∧ (C.getD i c0).2.2.1 = port)) m → am_V 212 am_c212 d (am_SH N) Q 7 [some (.ref 100), some (.int (nI k)), some (.int ip), some (.int port), some (.int (nI m - nI 1))] [] (am_SH N, I, L, am_RR w) := by
    intro m
    induction m with
    | zero =>
      intro hm e
      refine wp_iload (k := 7) rfl rfl ?_
      refine w_z_lt (k := 8) (t' := 31) rfl rfl (fun zq => ?_) (fun zq => absurd (by decide) zq)
      refine wp_iload (k := 31) rfl rfl ?_
      refine w_ri (k := 32) rfl rfl rfl rfl ?_
      rw [e] at hq
      exact hq
    | succ m ih =>
      intro hm e
      have er : nI (m + 1) - nI 1 = nI m := by rw [pk_sub (by omega)]; congr 1
      rw [er]
      rw [lf] at e
      refine wp_iload (k := 7) rfl rfl ?_
      refine w_m_lt (k := 8) (t' := 31) rfl rfl (by omega) (fun zq => absurd zq (by omega)) (fun zq => ?_)
      refine wp_aload (k := 9) rfl rfl ?_
      refine w_gr (k := 10) (s := 47) rfl rfl (by first | assumption | rfl) (by first | assumption | rfl) ?_
      refine w_ic (k := 11) (x := nI 8) rfl (oi_nI 8) ?_
      refine wp_iload (k := 12) rfl rfl ?_
      refine w_mulN (k := 13) rfl ?_
      refine wp_iload (k := 14) rfl rfl ?_
      refine w_addN (k := 15) rfl ?_
      refine w_iald (k := 16) rfl rfl (by first | assumption | rfl) (by omega) (h3 m (by omega)).2.1 ?_
      refine wp_iload (k := 17) rfl rfl ?_
      refine w_c_ne (k := 18) (t' := 29) rfl rfl (fun c1 => ?_) (fun c1 => ?_)
      · rw [if_neg (fun q => c1 (of_decide_eq_true q).1)] at e
        refine w_incX (k := 29) rfl rfl (m1 m) ?_
        refine w_goto (k := 30) (t' := 7) rfl rfl ?_
        exact ih (by omega) e
      · refine wp_aload (k := 19) rfl rfl ?_
        refine w_gr (k := 20) (s := 48) rfl rfl (by first | assumption | rfl) (by first | assumption | rfl) ?_
        refine w_ic (k := 21) (x := nI 8) rfl (oi_nI 8) ?_
        refine wp_iload (k := 22) rfl rfl ?_
        refine w_mulN (k := 23) rfl ?_
        refine wp_iload (k := 24) rfl rfl ?_
        refine w_addN (k := 25) rfl ?_
        refine w_iald (k := 26) rfl rfl (by first | assumption | rfl) (by omega) (h3 m (by omega)).2.2.1 ?_
        refine wp_iload (k := 27) rfl rfl ?_
        refine w_c_eq (k := 28) (t' := 31) rfl rfl (fun c2 => ?_) (fun c2 => ?_)
        · rw [if_pos (decide_eq_true ⟨c1, c2⟩)] at e
          refine wp_iload (k := 31) rfl rfl ?_
          refine w_ri (k := 32) rfl rfl rfl rfl ?_
          rw [e] at hq
          exact hq
        · rw [if_neg (fun q => c2 (of_decide_eq_true q).2)] at e
          refine w_incX (k := 29) rfl rfl (m1 m) ?_
          refine w_goto (k := 30) (t' := 7) rfl rfl ?_
          exact ih (by omega) e
  refine am_enter (ls := [some _, some _, some _, some _, none]) (cs := am_c212) rfl rfl (Nat.le_of_ble_eq_true rfl) rfl ?_
  refine wp_aload (k := 0) rfl rfl ?_
  refine w_gr (k := 1) (s := 45) rfl rfl (by first | assumption | rfl) (by first | assumption | rfl) ?_
  refine wp_iload (k := 2) rfl rfl ?_
  refine w_iald (k := 3) rfl rfl (by first | assumption | rfl) (by omega) h1 ?_
  refine w_ic (k := 4) (x := nI 1) rfl (oi_nI 1) ?_
  refine wp_isub (k := 5) rfl ?_
  refine wp_istore (k := 6) rfl rfl ?_
  exact loop _ (Nat.le_refl _) rfl
theorem pmm_set {i : Nat} {ip : Int32} {t : Int64} (h : pm_m I L k P) (hi : i < P.length) (hip : (P.getD i p0).1 = ip) : pm_m I (am_u L 129 (16 * k + i) t) k (P.set i (ip, t)) := by
  refine ⟨by rw [List.length_set]; exact h.1, by rw [List.length_set]; exact h.2.1, fun j hj => ?_⟩
  have hj : j < P.length := by simpa using hj
  rw [gD_set hj]
  have := h.2.2 j hj
  unfold hpm at this ⊢
  by_cases e : j = i
  · rw [if_pos e]
    subst e
    refine ⟨by rw [← hip]; exact this.1, by rw [am_us]⟩
  · rw [if_neg e]
    exact ⟨this.1, am_uw (by omega) this.2⟩
theorem pmm_app {ip : Int32} {t : Int64} (h : pm_m I L k P) (hl : P.length < 16) : pm_m (am_u (am_u I 128 (16 * k + P.length) ip) 127 k (nI (P.length + 1))) (am_u L 129 (16 * k + P.length) t) k (P ++ [(ip, t)]) := by
  refine ⟨by rw [am_us]; simp, by simp; omega, fun j hj => ?_⟩
  have hj : j < P.length + 1 := by simpa using hj
  rw [gD_app hj]
  unfold hpm
  by_cases e : j = P.length
  · rw [if_pos e]
    subst e
    exact ⟨am_uv (by decide) am_us, am_us⟩
  · rw [if_neg e]
    have := h.2.2 j (by omega)
    exact ⟨am_uv (by decide) (am_uw (by omega) this.1), am_uw (by omega) this.2⟩
theorem c_213 (hk : k < 8) (h : pm_m I L k P) (hu : pu P) {ip : Int32} {t : Int64} (ht : L 100 34 = t) (hroom : pf P ip = none → P.length < 16) (hq : ∀ I' L', pm_m I' L' k (pmt P ip (t + lN 300)) → fs k I I' → fs k L L' → (∀ x, x ≠ 127 → x ≠ 128 → I' x = I x) → (∀ x, x ≠ 129 → L' x = L x) → Q none (am_SH N, I', L', am_RR w)) : am_call (d + 2) 213 [.ref 100, .int (nI k), .int ip] (am_SH N, I, L, am_RR w) Q := by
  obtain ⟨h1, h2, h3⟩ := id h
  unfold pmt at hq
  refine am_enter (ls := [some _, some _, some _, none]) (cs := am_c213) rfl rfl (Nat.le_of_ble_eq_true rfl) rfl ?_
  refine wp_aload (k := 0) rfl rfl ?_
  refine wp_iload (k := 1) rfl rfl ?_
  refine wp_iload (k := 2) rfl rfl ?_
  refine w_Vi (k := 3) [_, _] rfl rfl rfl (Nat.le_of_ble_eq_true rfl) (by first | assumption | rfl) (Or.inl ⟨rfl, rfl⟩) ?_
  refine (c_210 hk h hu ?_)
  refine ⟨_, rfl, ?_⟩
  refine wp_istore (k := 4) rfl rfl ?_
  refine wp_iload (k := 5) rfl rfl ?_
  cases hf : pf P ip with
  | some i =>
    rw [hf] at hq
    obtain ⟨i1, i2⟩ := pf_lt hf
    refine w_z_ge (k := 6) (t' := 29) rfl rfl (fun zq => ?_) (fun zq => absurd (nI_pos' (by omega)) zq)
    refine wp_aload (k := 29) rfl rfl ?_
    refine w_gr (k := 30) (s := 44) rfl rfl (by first | assumption | rfl) (by first | assumption | rfl) ?_
    refine w_ic (k := 31) (x := nI 16) rfl (oi_nI 16) ?_
    refine wp_iload (k := 32) rfl rfl ?_
    refine w_mulN (k := 33) rfl ?_
    refine wp_iload (k := 34) rfl rfl ?_
    refine w_addN (k := 35) rfl ?_
    refine wp_aload (k := 36) rfl rfl ?_
    refine w_gl (k := 37) (s := 34) rfl rfl (by first | assumption | rfl) (by first | assumption | rfl) ?_
    refine w_lc (k := 38) (x := lN 300) rfl (ol_lN 300) ?_
    refine wp_ladd (k := 39) rfl ?_
    refine w_last (k := 40) rfl rfl (by first | assumption | rfl) (by omega) ?_
    refine w_rv (k := 41) rfl rfl rfl rfl ?_
    exact hq _ _ (pmm_set h i1 i2) fs_rf (fs_u (so_16 (by decide) (by omega))) (fun _ _ _ => rfl) (fun x hx => am_uR hx)
  | none =>
    rw [hf] at hq
    simp only at hq
    have hl := hroom hf
    rw [if_pos hl] at hq
    refine w_z_ge (k := 6) (t' := 29) rfl rfl (fun zq => absurd zq (by decide)) (fun zq => ?_)
    refine wp_aload (k := 7) rfl rfl ?_
    refine w_gr (k := 8) (s := 42) rfl rfl (by first | assumption | rfl) (by first | assumption | rfl) ?_
    refine wp_iload (k := 9) rfl rfl ?_
    refine w_iald (k := 10) rfl rfl (by first | assumption | rfl) (by omega) h1 ?_
    refine wp_istore (k := 11) rfl rfl ?_
    refine wp_aload (k := 12) rfl rfl ?_
    refine w_gr (k := 13) (s := 43) rfl rfl (by first | assumption | rfl) (by first | assumption | rfl) ?_
    refine w_ic (k := 14) (x := nI 16) rfl (oi_nI 16) ?_
    refine wp_iload (k := 15) rfl rfl ?_
    refine w_mulN (k := 16) rfl ?_
    refine wp_iload (k := 17) rfl rfl ?_
    refine w_addN (k := 18) rfl ?_
    refine wp_iload (k := 19) rfl rfl ?_
    refine w_iast (k := 20) rfl rfl (by omega) (by first | assumption | rfl) (by omega) ?_
    refine wp_aload (k := 21) rfl rfl ?_
    refine w_gr (k := 22) (s := 42) rfl rfl (by first | assumption | rfl) (by first | assumption | rfl) ?_
    refine wp_iload (k := 23) rfl rfl ?_
    refine wp_dup2 (k := 24) rfl rfl rfl ?_
    refine w_iald (k := 25) rfl rfl (by first | assumption | rfl) (by omega) (am_uv (by decide) h1) ?_
    refine w_ic (k := 26) (x := nI 1) rfl (oi_nI 1) ?_
    refine w_addN (k := 27) rfl ?_
    refine w_iast (k := 28) rfl rfl (by omega) (by first | assumption | rfl) (by omega) ?_
    refine wp_aload (k := 29) rfl rfl ?_
    refine w_gr (k := 30) (s := 44) rfl rfl (by first | assumption | rfl) (by first | assumption | rfl) ?_
    refine w_ic (k := 31) (x := nI 16) rfl (oi_nI 16) ?_
    refine wp_iload (k := 32) rfl rfl ?_
    refine w_mulN (k := 33) rfl ?_
    refine wp_iload (k := 34) rfl rfl ?_
    refine w_addN (k := 35) rfl ?_
    refine wp_aload (k := 36) rfl rfl ?_
    refine w_gl (k := 37) (s := 34) rfl rfl (by first | assumption | rfl) (by first | assumption | rfl) ?_
    refine w_lc (k := 38) (x := lN 300) rfl (ol_lN 300) ?_
    refine wp_ladd (k := 39) rfl ?_
    refine w_last (k := 40) rfl rfl (by first | assumption | rfl) (by omega) ?_
    refine w_rv (k := 41) rfl rfl rfl rfl ?_
    exact hq _ _ (pmm_app h hl) (fs_t (fs_u (so_16 (by decide) (by omega))) (fs_u (so_1 (by omega)))) (fs_u (so_16 (by decide) (by omega))) (fun x h1 h2 => by rw [am_uR h1, am_uR h2]) (fun x hx => am_uR hx)
end ML
/-! ===== the tables of allocations ===== -/
abbrev AL : Type := (Int32 × Int32 × Int32 × Int32) × Int64 × (Int32 × Int32 × Int32) × PM × CH
def ac (I : Nat → Nat → Int32) (L : Nat → Nat → Int64) (q : Nat) (a : AL) : Prop := I q 0 = bI true ∧ I q 1 = a.1.1 ∧ I q 2 = a.1.2.1 ∧ I q 3 = a.1.2.2.1 ∧ I q 4 = a.1.2.2.2 ∧ L q 5 = a.2.1 ∧ L q 6 = lN (uI a.2.2.1.1 * 2 ^ 32 + uI a.2.2.1.2.1) ∧ I q 7 = a.2.2.1.2.2 ∧ pm_c I L q a.2.2.2.1 ∧ ch_c I L q a.2.2.2.2
def sm (I : Nat → Nat → Int32) (L : Nat → Nat → Int64) (k : Nat) (a : AL) : Prop := I 120 k = bI true ∧ I 121 k = a.1.1 ∧ I 122 k = a.1.2.1 ∧ I 123 k = a.1.2.2.1 ∧ I 124 k = a.1.2.2.2 ∧ L 125 k = a.2.1 ∧ (I 126 (3 * k + 0) = a.2.2.1.1 ∧ I 126 (3 * k + 1) = a.2.2.1.2.1 ∧ I 126 (3 * k + 2) = a.2.2.1.2.2) ∧ pm_m I L k a.2.2.2.1 ∧ ch_m I L k a.2.2.2.2
def oc (I : Nat → Nat → Int32) (L : Nat → Nat → Int64) (q : Nat) (o : Option AL) : Prop := match o with
  | none => I q 0 = bI false
  | some a => ac I L q a
def om (I : Nat → Nat → Int32) (L : Nat → Nat → Int64) (k : Nat) (o : Option AL) : Prop := match o with
  | none => I 120 k = bI false
  | some a => sm I L k a
def tbc (I : Nat → Nat → Int32) (L : Nat → Nat → Int64) (al : Nat → Option AL) : Prop := ∀ k, k < 8 → oc I L (26 + 7 * k) (al k)
def tbm (I : Nat → Nat → Int32) (L : Nat → Nat → Int64) (al : Nat → Option AL) : Prop := ∀ k, k < 8 → om I L k (al k)
theorem oc_k {I I' : Nat → Nat → Int32} {L L' : Nat → Nat → Int64} {q : Nat} {o : Option AL} (h : oc I L q o) (h0 : ∀ j, j ≤ 6 → I' (q + j) = I (q + j)) (h1 : ∀ j, j ≤ 6 → L' (q + j) = L (q + j)) : oc I' L' q o := by
  have e0 : I' q = I q := h0 0 (by decide)
  have f0 : L' q = L q := h1 0 (by decide)
  cases o with
  | none => show I' q 0 = _; rw [e0]; exact h
  | some a =>
    obtain ⟨a1, a2, a3, a4, a5, a6, a7, a8, a9, a10⟩ := h
    exact ⟨by rw [e0]; exact a1, by rw [e0]; exact a2, by rw [e0]; exact a3, by rw [e0]; exact a4, by rw [e0]; exact a5, by rw [f0]; exact a6, by rw [f0]; exact a7, by rw [e0]; exact a8, pm_k a9 (by rw [e0]) (h0 1 (by decide)) (h1 2 (by decide)), ch_k a10 (by rw [e0]) (h0 3 (by decide)) (h0 4 (by decide)) (h0 5 (by decide)) (h1 6 (by decide))⟩
theorem om_k {I I' : Nat → Nat → Int32} {L L' : Nat → Nat → Int64} {k : Nat} {o : Option AL} (h : om I L k o) (h0 : ∀ p m, slotOf p m = some k → I' p m = I p m) (h1 : ∀ p m, slotOf p m = some k → L' p m = L p m) : om I' L' k o := by
  cases o with
  | none => show I' 120 k = _; rw [h0 120 k (so_1 (by omega))]; exact h
  | some a =>
    obtain ⟨a1, a2, a3, a4, a5, a6, ⟨a7, a8, a9⟩, ⟨b1, b2, b3⟩, ⟨c1, c2, c3⟩⟩ := h
    refine ⟨by rw [h0 _ _ (so_1 (by omega))]; exact a1, by rw [h0 _ _ (so_1 (by omega))]; exact a2, by rw [h0 _ _ (so_1 (by omega))]; exact a3, by rw [h0 _ _ (so_1 (by omega))]; exact a4, by rw [h0 _ _ (so_1 (by omega))]; exact a5, by rw [h1 _ _ (so_1 (by omega))]; exact a6, ⟨by rw [h0 _ _ (so_3 (by decide))]; exact a7, by rw [h0 _ _ (so_3 (by decide))]; exact a8, by rw [h0 _ _ (so_3 (by decide))]; exact a9⟩, ⟨by rw [h0 _ _ (so_1 (by omega))]; exact b1, b2, fun j hj => ?_⟩, ⟨by rw [h0 _ _ (so_1 (by omega))]; exact c1, c2, fun j hj => ?_⟩⟩
    · have := b3 j hj
      exact ⟨by rw [h0 _ _ (so_16 (by decide) (by omega))]; exact this.1, by rw [h1 _ _ (so_16 (by decide) (by omega))]; exact this.2⟩
    · have := c3 j hj
      exact ⟨by rw [h0 _ _ (so_8 (by decide) (by omega))]; exact this.1, by rw [h0 _ _ (so_8 (by decide) (by omega))]; exact this.2.1, by rw [h0 _ _ (so_8 (by decide) (by omega))]; exact this.2.2.1, by rw [h1 _ _ (so_8 (by decide) (by omega))]; exact this.2.2.2⟩
/-- one slot anew -/
theorem tbc_u {I I' : Nat → Nat → Int32} {L L' : Nat → Nat → Int64} {al : Nat → Option AL} {k : Nat} {o : Option AL} (h : tbc I L al) (hi : fq (26 + 7 * k) I I') (hl : fq (26 + 7 * k) L L') (ho : oc I' L' (26 + 7 * k) o) : tbc I' L' (fun j => if j = k then o else al j) := by
  intro j hj
  by_cases e : j = k
  · subst e
    simp only [if_true]
    exact ho
  · simp only [if_neg e]
    exact oc_k (h j hj) (fun z hz => hi _ (by omega)) (fun z hz => hl _ (by omega))
theorem tbm_u {I I' : Nat → Nat → Int32} {L L' : Nat → Nat → Int64} {al : Nat → Option AL} {k : Nat} {o : Option AL} (h : tbm I L al) (hi : fs k I I') (hl : fs k L L') (ho : om I' L' k o) : tbm I' L' (fun j => if j = k then o else al j) := by
  intro j hj
  by_cases e : j = k
  · subst e
    simp only [if_true]
    exact ho
  · simp only [if_neg e]
    refine om_k (h j hj) (fun p m hm => hi p m (fun q => e ?_)) (fun p m hm => hl p m (fun q => e ?_)) <;> exact Option.some.inj (hm.symm.trans q)
theorem tbc_k {I I' : Nat → Nat → Int32} {L L' : Nat → Nat → Int64} {al : Nat → Option AL} (h : tbc I L al) (h0 : ∀ x, 26 ≤ x → x ≤ 81 → I' x = I x) (h1 : ∀ x, 26 ≤ x → x ≤ 81 → L' x = L x) : tbc I' L' al := fun k hk => oc_k (h k hk) (fun j hj => h0 _ (by omega) (by omega)) (fun j hj => h1 _ (by omega) (by omega))
theorem so_in {p m k : Nat} (h : slotOf p m = some k) : 120 ≤ p ∧ p ≤ 134 := by
  unfold slotOf at h
  by_cases c : 120 ≤ p ∧ p ≤ 134
  · exact c
  · rw [if_neg (by omega), if_neg (by omega), if_neg (by omega), if_neg (by omega)] at h
    cases h
theorem tbm_k {I I' : Nat → Nat → Int32} {L L' : Nat → Nat → Int64} {al : Nat → Option AL} (h : tbm I L al) (h0 : ∀ x, 120 ≤ x → x ≤ 134 → I' x = I x) (h1 : ∀ x, 120 ≤ x → x ≤ 134 → L' x = L x) : tbm I' L' al := fun k hk => om_k (h k hk) (fun p m hm => by rw [h0 p (so_in hm).1 (so_in hm).2]) (fun p m hm => by rw [h1 p (so_in hm).1 (so_in hm).2])
/-- what holds of all allocations -/
def alo (a : AL) : Prop := pu a.2.2.2.1 ∧ cu a.2.2.2.2 ∧ a.2.2.2.1.length ≤ 16 ∧ a.2.2.2.2.length ≤ 8 ∧ ∃ r : Nat, 49152 ≤ r ∧ r < 49160 ∧ a.1.2.2.2 = nI r
def tok (al : Nat → Option AL) : Prop := (∀ k a, k < 8 → al k = some a → alo a) ∧ ∀ i j a b, i < j → j < 8 → al i = some a → al j = some b → ¬ (a.1.1 = b.1.1 ∧ a.1.2.1 = b.1.2.1) ∧ a.1.2.2.2 ≠ b.1.2.2.2
