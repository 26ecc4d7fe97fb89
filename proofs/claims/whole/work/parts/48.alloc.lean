/-! ===== an allocation of the class ===== -/
abbrev PM : Type := List (Int32 × Int64)
abbrev CH : Type := List (Int32 × Int32 × Int32 × Int64)
def p0 : Int32 × Int64 := (0, 0)
def c0 : Int32 × Int32 × Int32 × Int64 := (0, 0, 0, 0)
theorem gD_app {α : Type} {K : List α} {d x : α} {j : Nat} (hj : j < K.length + 1) : (K ++ [x]).getD j d = if j = K.length then x else K.getD j d := by
  rw [List.getD_eq_getElem?_getD]
  by_cases e : j = K.length
  · subst e
    simp
  · rw [if_neg e, List.getElem?_append_left (by omega), List.getD_eq_getElem?_getD]
theorem gD_set {α : Type} {K : List α} {d x : α} {i j : Nat} (hj : j < K.length) : (K.set i x).getD j d = if j = i then x else K.getD j d := by
  rw [List.getD_eq_getElem?_getD, List.getElem?_set]
  by_cases e : i = j
  · subst e
    rw [if_pos rfl, if_pos rfl, if_pos hj]
    rfl
  · rw [if_neg e, if_neg (fun q => e q.symm), List.getD_eq_getElem?_getD]
theorem gD_mem {α : Type} {K : List α} {d : α} {j : Nat} (hj : j < K.length) : K.getD j d ∈ K := by
  rw [List.getD_eq_getElem?_getD, List.getElem?_eq_getElem hj]
  exact List.getElem_mem _
theorem gD_drop {α : Type} {K : List α} (d : α) {j : Nat} (hj : j < K.length) : K.drop j = K.getD j d :: K.drop (j + 1) := by
  rw [List.drop_eq_getElem_cons hj, List.getD_eq_getElem?_getD, List.getElem?_eq_getElem hj]
  rfl
theorem cp_step {α : Type} {hold hold' : Nat → α → Prop} {o i : Nat} {K P : List α} {d : α} (hk : ∀ j, j < K.length → hold (o + j) (K.getD j d)) (hr : ∀ j, i ≤ j → j < P.length → hold (o + j) (P.getD j d)) (hi : K.length ≤ i) (h1 : hold' (o + K.length) (P.getD i d)) (h2 : ∀ m x, m ≠ o + K.length → hold m x → hold' m x) : (∀ j, j < (K ++ [P.getD i d]).length → hold' (o + j) ((K ++ [P.getD i d]).getD j d)) ∧ ∀ j, i + 1 ≤ j → j < P.length → hold' (o + j) (P.getD j d) := by
  constructor
  · intro j hj
    have hj : j < K.length + 1 := by simpa using hj
    rw [gD_app hj]
    by_cases e : j = K.length
    · rw [if_pos e, e]; exact h1
    · rw [if_neg e]
      exact h2 _ _ (by omega) (hk j (by omega))
  · intro j h3 h4
    exact h2 _ _ (by omega) (hr j (by omega) h4)
def hp (I : Nat → Nat → Int32) (L : Nat → Nat → Int64) (q : Nat) : Nat → Int32 × Int64 → Prop := fun m x => I (q + 1) m = x.1 ∧ L (q + 2) m = x.2
def hc (I : Nat → Nat → Int32) (L : Nat → Nat → Int64) (q : Nat) : Nat → Int32 × Int32 × Int32 × Int64 → Prop := fun m x => I (q + 3) m = x.1 ∧ I (q + 4) m = x.2.1 ∧ I (q + 5) m = x.2.2.1 ∧ L (q + 6) m = x.2.2.2
def pm_c (I : Nat → Nat → Int32) (L : Nat → Nat → Int64) (q : Nat) (P : PM) : Prop := I q 10 = nI P.length ∧ P.length ≤ 16 ∧ ∀ j, j < P.length → hp I L q j (P.getD j p0)
def ch_c (I : Nat → Nat → Int32) (L : Nat → Nat → Int64) (q : Nat) (C : CH) : Prop := I q 15 = nI C.length ∧ C.length ≤ 8 ∧ ∀ j, j < C.length → hc I L q j (C.getD j c0)
def pf (P : PM) (ip : Int32) : Option Nat := ff (fun i => decide ((P.getD i p0).1 = ip)) 0 P.length
def cf (C : CH) (n : Int32) : Option Nat := ff (fun i => decide ((C.getD i c0).1 = n)) 0 C.length
def ct (C : CH) (ip port : Int32) : Option Nat := ff (fun i => decide ((C.getD i c0).2.1 = ip ∧ (C.getD i c0).2.2.1 = port)) 0 C.length
def pmt (P : PM) (ip : Int32) (t : Int64) : PM := match pf P ip with
  | some i => P.set i (ip, t)
  | none => if P.length < 16 then P ++ [(ip, t)] else P
def cbd (C : CH) (n ip port : Int32) (t : Int64) : CH := match cf C n with
  | some i => C.set i (n, ip, port, t)
  | none => if C.length < 8 then C ++ [(n, ip, port, t)] else C
def aq (sh : List (Nat × Nat)) (R : Nat → Nat → Option Nat) (q : Nat) : Prop := sh[q]? = some (0, 16) ∧ sh[q + 1]? = some (50, 16) ∧ sh[q + 2]? = some (51, 16) ∧ sh[q + 3]? = some (50, 8) ∧ sh[q + 4]? = some (50, 8) ∧ sh[q + 5]? = some (50, 8) ∧ sh[q + 6]? = some (51, 8) ∧ R q 8 = some (q + 1) ∧ R q 9 = some (q + 2) ∧ R q 11 = some (q + 3) ∧ R q 12 = some (q + 4) ∧ R q 13 = some (q + 5) ∧ R q 14 = some (q + 6) ∧ 4 ≤ q
theorem aq_of (N : Nat) (w : Option Nat) {k : Nat} (hk : k < 8) : aq (am_SH N) (am_RR w) (26 + 7 * k) := by
  match k, hk with
  | 0, _ => exact ⟨rfl, rfl, rfl, rfl, rfl, rfl, rfl, rfl, rfl, rfl, rfl, rfl, rfl, by decide⟩
  | 1, _ => exact ⟨rfl, rfl, rfl, rfl, rfl, rfl, rfl, rfl, rfl, rfl, rfl, rfl, rfl, by decide⟩
  | 2, _ => exact ⟨rfl, rfl, rfl, rfl, rfl, rfl, rfl, rfl, rfl, rfl, rfl, rfl, rfl, by decide⟩
  | 3, _ => exact ⟨rfl, rfl, rfl, rfl, rfl, rfl, rfl, rfl, rfl, rfl, rfl, rfl, rfl, by decide⟩
  | 4, _ => exact ⟨rfl, rfl, rfl, rfl, rfl, rfl, rfl, rfl, rfl, rfl, rfl, rfl, rfl, by decide⟩
  | 5, _ => exact ⟨rfl, rfl, rfl, rfl, rfl, rfl, rfl, rfl, rfl, rfl, rfl, rfl, rfl, by decide⟩
  | 6, _ => exact ⟨rfl, rfl, rfl, rfl, rfl, rfl, rfl, rfl, rfl, rfl, rfl, rfl, rfl, by decide⟩
  | 7, _ => exact ⟨rfl, rfl, rfl, rfl, rfl, rfl, rfl, rfl, rfl, rfl, rfl, rfl, rfl, by decide⟩
  | k + 8, h => omega
/-- all but one allocation is as it was -/
def fq {α : Type} (q : Nat) (f f' : Nat → Nat → α) : Prop := ∀ x, x < q ∨ q + 6 < x → f' x = f x
theorem fq_rf {α : Type} {q : Nat} {f : Nat → Nat → α} : fq q f f := fun _ _ => rfl
theorem fq_t {α : Type} {q : Nat} {f f1 f2 : Nat → Nat → α} (h1 : fq q f f1) (h2 : fq q f1 f2) : fq q f f2 := fun x hx => by rw [h2 x hx, h1 x hx]
theorem fq_p {α : Type} {q p k : Nat} {f : Nat → Nat → α} {v : α} (h : q ≤ p ∧ p ≤ q + 6) : fq q f (am_u f p k v) := fun x hx => am_uR (by omega)
theorem pm_k {I I' : Nat → Nat → Int32} {L L' : Nat → Nat → Int64} {q : Nat} {P : PM} (h : pm_c I L q P) (h1 : I' q 10 = I q 10) (h2 : I' (q + 1) = I (q + 1)) (h3 : L' (q + 2) = L (q + 2)) : pm_c I' L' q P := ⟨by rw [h1]; exact h.1, h.2.1, fun j hj => ⟨by rw [h2]; exact (h.2.2 j hj).1, by rw [h3]; exact (h.2.2 j hj).2⟩⟩
theorem ch_k {I I' : Nat → Nat → Int32} {L L' : Nat → Nat → Int64} {q : Nat} {C : CH} (h : ch_c I L q C) (h1 : I' q 15 = I q 15) (h2 : I' (q + 3) = I (q + 3)) (h3 : I' (q + 4) = I (q + 4)) (h4 : I' (q + 5) = I (q + 5)) (h5 : L' (q + 6) = L (q + 6)) : ch_c I' L' q C := ⟨by rw [h1]; exact h.1, h.2.1, fun j hj => by
  obtain ⟨a, b, c, e⟩ := h.2.2 j hj
  exact ⟨by rw [h2]; exact a, by rw [h3]; exact b, by rw [h4]; exact c, by rw [h5]; exact e⟩⟩
section AL
variable {d : Nat} {sh : List (Nat × Nat)} {I : Nat → Nat → Int32} {L : Nat → Nat → Int64} {R : Nat → Nat → Option Nat} {Q : am_Q} {q : Nat} {P : PM} {C : CH}
theorem c_7 (ha : aq sh R q) (h : pm_c I L q P) {ip : Int32} (hq : Q (some (.int (oI (pf P ip)))) (sh, I, L, R)) : am_call (d + 1) 7 [.ref q, .int ip] (sh, I, L, R) Q := by
  obtain ⟨a0, a1, a2, a3, a4, a5, a6, b1, b2, b3, b4, b5, b6, a9⟩ := ha
  obtain ⟨h1, h2, h3⟩ := h
  have loop : ∀ (r i : Nat), i + r = P.length → pf P ip = ff (fun i => decide ((P.getD i p0).1 = ip)) i r → am_V 7 am_c7 d sh Q 2 [some (.ref q), some (.int ip), some (.int (nI i))] [] (sh, I, L, R) := by
    intro r
    induction r with
    | zero =>
      intro i hi e
      refine wp_iload (k := 2) rfl rfl ?_
      refine wp_aload (k := 3) rfl rfl ?_
      refine w_gi (k := 4) (s := 10) rfl rfl (by first | assumption | rfl) (by first | assumption | rfl) ?_
      refine w_n_ge (k := 5) (t' := 19) rfl rfl (by omega) (fun zq => ?_) (fun zq => absurd zq (by omega))
      refine w_ic (k := 19) (x := (-1)) rfl (by decide) ?_
      refine w_ri (k := 20) rfl rfl rfl rfl ?_
      rw [e] at hq
      exact hq
    | succ r ih =>
      intro i hi e
      rw [ff] at e
      refine wp_iload (k := 2) rfl rfl ?_
      refine wp_aload (k := 3) rfl rfl ?_
      refine w_gi (k := 4) (s := 10) rfl rfl (by first | assumption | rfl) (by first | assumption | rfl) ?_
      refine w_n_ge (k := 5) (t' := 19) rfl rfl (by omega) (fun zq => absurd zq (by omega)) (fun zq => ?_)
      refine wp_iload (k := 6) rfl rfl ?_
      refine w_ic (k := 7) (x := nI 16) rfl (oi_nI 16) ?_
      refine w_n_ge (k := 8) (t' := 19) rfl rfl (by omega) (fun zq => absurd zq (by omega)) (fun zq => ?_)
      refine wp_aload (k := 9) rfl rfl ?_
      refine w_gr (k := 10) (s := 8) rfl rfl (by first | assumption | rfl) (by first | assumption | rfl) ?_
      refine wp_iload (k := 11) rfl rfl ?_
      refine w_iald (k := 12) rfl rfl (by first | assumption | rfl) (by omega) (h3 i (by omega)).1 ?_
      refine wp_iload (k := 13) rfl rfl ?_
      refine w_c_ne (k := 14) (t' := 17) rfl rfl (fun k => ?_) (fun k => ?_)
      · rw [if_neg (by simpa using k)] at e
        refine w_incN (k := 17) (m := 1) rfl (oi_nI 1) rfl ?_
        refine w_goto (k := 18) (t' := 2) rfl rfl ?_
        exact ih (i + 1) (by omega) e
      · rw [if_pos (by simpa using k)] at e
        refine wp_iload (k := 15) rfl rfl ?_
        refine w_ri (k := 16) rfl rfl rfl rfl ?_
        rw [e] at hq
        exact hq
  refine am_enter (ls := [some _, some _, none]) (cs := am_c7) rfl rfl (Nat.le_of_ble_eq_true rfl) rfl ?_
  refine w_ic (k := 0) (x := nI 0) rfl (oi_nI 0) ?_
  refine wp_istore (k := 1) rfl rfl ?_
  exact loop _ 0 (Nat.zero_add _) rfl
theorem pf_lt {ip : Int32} {i : Nat} (h : pf P ip = some i) : i < P.length ∧ (P.getD i p0).1 = ip := by
  obtain ⟨-, h2, h3, -⟩ := ff_some h
  exact ⟨by omega, of_decide_eq_true h3⟩
theorem c_8 (ha : aq sh R q) (h : pm_c I L q P) {ip : Int32} (hq : Q (some (.int (bI (pf P ip).isSome))) (sh, I, L, R)) : am_call (d + 2) 8 [.ref q, .int ip] (sh, I, L, R) Q := by
  have a0 := ha.1
  have hl := h.2.1
  refine am_enter (ls := [some _, some _]) (cs := am_c8) rfl rfl (Nat.le_of_ble_eq_true rfl) rfl ?_
  refine wp_aload (k := 0) rfl rfl ?_
  refine wp_iload (k := 1) rfl rfl ?_
  refine w_Vi (k := 2) [_] rfl rfl rfl (Nat.le_of_ble_eq_true rfl) (by first | assumption | rfl) (Or.inl ⟨rfl, rfl⟩) ?_
  refine (c_7 ha h ?_)
  refine ⟨_, rfl, ?_⟩
  refine w_ic (k := 3) (x := (-1)) rfl (by decide) ?_
  cases hf : pf P ip with
  | none =>
    rw [hf] at hq
    refine w_c_eq (k := 4) (t' := 7) rfl rfl (fun zq => ?_) (fun zq => absurd rfl zq)
    refine w_ic (k := 7) (x := bI false) rfl rfl ?_
    refine w_rz (k := 8) rfl rfl rfl ?_
    exact hq
  | some i =>
    rw [hf] at hq
    have := pf_lt hf
    refine w_c_eq (k := 4) (t' := 7) rfl rfl (fun zq => absurd zq (nI_ne1 (by omega))) (fun zq => ?_)
    refine w_ic (k := 5) (x := bI true) rfl rfl ?_
    refine w_goto (k := 6) (t' := 8) rfl rfl ?_
    refine w_rz (k := 8) rfl rfl rfl ?_
    exact hq
theorem pm_set {i : Nat} {ip : Int32} {t : Int64} (h : pm_c I L q P) (hi : i < P.length) : pm_c (am_u I (q + 1) i ip) (am_u L (q + 2) i t) q (P.set i (ip, t)) := by
  refine ⟨by rw [am_uR (by omega), List.length_set]; exact h.1, by rw [List.length_set]; exact h.2.1, fun j hj => ?_⟩
  have hj : j < P.length := by simpa using hj
  rw [gD_set hj]
  unfold hp
  rw [am_u_app, am_u_app]
  by_cases e : j = i
  · rw [if_pos e, if_pos ⟨rfl, e⟩, if_pos ⟨rfl, e⟩]
    exact ⟨rfl, rfl⟩
  · rw [if_neg e, if_neg (fun q => e q.2), if_neg (fun q => e q.2)]
    exact h.2.2 j hj
theorem pm_app {ip : Int32} {t : Int64} (h : pm_c I L q P) (hl : P.length < 16) : pm_c (am_u (am_u I q 10 (nI (P.length + 1))) (q + 1) P.length ip) (am_u L (q + 2) P.length t) q (P ++ [(ip, t)]) := by
  refine ⟨by rw [am_uR (by omega), am_us]; simp, by simp; omega, fun j hj => ?_⟩
  have hj : j < P.length + 1 := by simpa using hj
  rw [gD_app hj]
  unfold hp
  by_cases e : j = P.length
  · rw [if_pos e]
    subst e
    simp [am_u_app]
  · rw [if_neg e]
    have := h.2.2 j (by omega)
    unfold hp at this
    simp [am_u_app, e]
    exact this
theorem c_10 (ha : aq sh R q) (h : pm_c I L q P) {ip : Int32} {t : Int64} (hq : ∀ I' L', pm_c I' L' q (pmt P ip t) → (∀ x, x ≠ q → x ≠ q + 1 → I' x = I x) → (∀ s, s ≠ 10 → I' q s = I q s) → (∀ x, x ≠ q + 2 → L' x = L x) → Q none (sh, I', L', R)) : am_call (d + 2) 10 [.ref q, .int ip, .long t] (sh, I, L, R) Q := by
  obtain ⟨a0, a1, a2, a3, a4, a5, a6, b1, b2, b3, b4, b5, b6, a9⟩ := id ha
  obtain ⟨h1, h2, h3⟩ := id h
  refine am_enter (ls := [some _, some _, some _, none, none]) (cs := am_c10) rfl rfl (Nat.le_of_ble_eq_true rfl) rfl ?_
  refine wp_aload (k := 0) rfl rfl ?_
  refine wp_iload (k := 1) rfl rfl ?_
  refine w_Vi (k := 2) [_] rfl rfl rfl (Nat.le_of_ble_eq_true rfl) (by first | assumption | rfl) (Or.inl ⟨rfl, rfl⟩) ?_
  refine (c_7 ha h ?_)
  refine ⟨_, rfl, ?_⟩
  refine wp_istore (k := 3) rfl rfl ?_
  refine wp_iload (k := 4) rfl rfl ?_
  refine w_ic (k := 5) (x := (-1)) rfl (by decide) ?_
  unfold pmt at hq
  cases hf : pf P ip with
  | some i =>
    rw [hf] at hq
    obtain ⟨i1, i2⟩ := pf_lt hf
    refine w_c_ne (k := 6) (t' := 20) rfl rfl (fun zq => ?_) (fun zq => absurd zq (nI_ne1 (by omega)))
    refine wp_iload (k := 20) rfl rfl ?_
    refine w_ic (k := 21) (x := (-1)) rfl (by decide) ?_
    refine w_c_eq (k := 22) (t' := 33) rfl rfl (fun zq => absurd zq (nI_ne1 (by omega))) (fun zq => ?_)
    refine wp_aload (k := 23) rfl rfl ?_
    refine w_gr (k := 24) (s := 8) rfl rfl (by first | assumption | rfl) (by first | assumption | rfl) ?_
    refine wp_iload (k := 25) rfl rfl ?_
    refine wp_iload (k := 26) rfl rfl ?_
    refine w_iast (k := 27) rfl rfl (by omega) (by first | assumption | rfl) (by omega) ?_
    refine wp_aload (k := 28) rfl rfl ?_
    refine w_gr (k := 29) (s := 9) rfl rfl (by first | assumption | rfl) (by first | assumption | rfl) ?_
    refine wp_iload (k := 30) rfl rfl ?_
    refine wp_lload (k := 31) rfl rfl ?_
    refine w_last (k := 32) rfl rfl (by first | assumption | rfl) (by omega) ?_
    refine w_rv (k := 33) rfl rfl rfl rfl ?_
    exact hq _ _ (pm_set h i1) (fun x _ hx => am_uR hx) (fun s _ => by rw [am_uR (by omega)]) (fun x hx => am_uR hx)
  | none =>
    rw [hf] at hq
    simp only at hq
    refine w_c_ne (k := 6) (t' := 20) rfl rfl (fun zq => absurd rfl zq) (fun zq => ?_)
    refine wp_aload (k := 7) rfl rfl ?_
    refine w_gi (k := 8) (s := 10) rfl rfl (by first | assumption | rfl) (by first | assumption | rfl) ?_
    refine w_ic (k := 9) (x := nI 16) rfl (oi_nI 16) ?_
    refine w_n_ge (k := 10) (t' := 20) rfl rfl (by omega) (fun k => ?_) (fun k => ?_)
    · rw [if_neg (by omega)] at hq
      refine wp_iload (k := 20) rfl rfl ?_
      refine w_ic (k := 21) (x := (-1)) rfl (by decide) ?_
      refine w_c_eq (k := 22) (t' := 33) rfl rfl (fun zq => ?_) (fun zq => absurd rfl zq)
      refine w_rv (k := 33) rfl rfl rfl rfl ?_
      exact hq I L h (fun _ _ _ => rfl) (fun _ _ => rfl) (fun _ _ => rfl)
    · rw [if_pos k] at hq
      refine wp_aload (k := 11) rfl rfl ?_
      refine w_gi (k := 12) (s := 10) rfl rfl (by first | assumption | rfl) (by first | assumption | rfl) ?_
      refine wp_istore (k := 13) rfl rfl ?_
      refine wp_aload (k := 14) rfl rfl ?_
      refine wp_dup (k := 15) rfl rfl ?_
      refine w_gi (k := 16) (s := 10) rfl rfl (by first | assumption | rfl) (by first | assumption | rfl) ?_
      refine w_ic (k := 17) (x := nI 1) rfl (oi_nI 1) ?_
      refine w_addN (k := 18) rfl ?_
      refine w_pi (k := 19) (s := 10) rfl rfl (by first | assumption | rfl) ?_
      refine wp_iload (k := 20) rfl rfl ?_
      refine w_ic (k := 21) (x := (-1)) rfl (by decide) ?_
      refine w_c_eq (k := 22) (t' := 33) rfl rfl (fun zq => absurd zq (nI_ne1 (by omega))) (fun zq => ?_)
      refine wp_aload (k := 23) rfl rfl ?_
      refine w_gr (k := 24) (s := 8) rfl rfl (by first | assumption | rfl) (by first | assumption | rfl) ?_
      refine wp_iload (k := 25) rfl rfl ?_
      refine wp_iload (k := 26) rfl rfl ?_
      refine w_iast (k := 27) rfl rfl (by omega) (by first | assumption | rfl) (by omega) ?_
      refine wp_aload (k := 28) rfl rfl ?_
      refine w_gr (k := 29) (s := 9) rfl rfl (by first | assumption | rfl) (by first | assumption | rfl) ?_
      refine wp_iload (k := 30) rfl rfl ?_
      refine wp_lload (k := 31) rfl rfl ?_
      refine w_last (k := 32) rfl rfl (by first | assumption | rfl) (by omega) ?_
      refine w_rv (k := 33) rfl rfl rfl rfl ?_
      exact hq _ _ (pm_app h k) (fun x h1 h2 => by rw [am_uR h2, am_uR h1]) (fun s hs => by rw [am_uR (by omega)]; exact am_uw hs rfl) (fun x hx => am_uR hx)
theorem c_11 (ha : aq sh R q) (h : pm_c I L q P) {ip : Int32} {t : Int64} (hq : Q (some (.int (match pf P ip with | none => nI 0 | some i => ((P.getD i p0).2 - t).toInt32))) (sh, I, L, R)) : am_call (d + 2) 11 [.ref q, .int ip, .long t] (sh, I, L, R) Q := by
  obtain ⟨a0, a1, a2, a3, a4, a5, a6, b1, b2, b3, b4, b5, b6, a9⟩ := id ha
  obtain ⟨h1, h2, h3⟩ := id h
  refine am_enter (ls := [some _, some _, some _, none, none]) (cs := am_c11) rfl rfl (Nat.le_of_ble_eq_true rfl) rfl ?_
  refine wp_aload (k := 0) rfl rfl ?_
  refine wp_iload (k := 1) rfl rfl ?_
  refine w_Vi (k := 2) [_] rfl rfl rfl (Nat.le_of_ble_eq_true rfl) (by first | assumption | rfl) (Or.inl ⟨rfl, rfl⟩) ?_
  refine (c_7 ha h ?_)
  refine ⟨_, rfl, ?_⟩
  refine wp_istore (k := 3) rfl rfl ?_
  refine wp_iload (k := 4) rfl rfl ?_
  refine w_ic (k := 5) (x := (-1)) rfl (by decide) ?_
  cases hf : pf P ip with
  | some i =>
    rw [hf] at hq
    obtain ⟨i1, i2⟩ := pf_lt hf
    refine w_c_ne (k := 6) (t' := 9) rfl rfl (fun zq => ?_) (fun zq => absurd zq (nI_ne1 (by omega)))
    refine wp_aload (k := 9) rfl rfl ?_
    refine w_gr (k := 10) (s := 9) rfl rfl (by first | assumption | rfl) (by first | assumption | rfl) ?_
    refine wp_iload (k := 11) rfl rfl ?_
    refine w_lald (k := 12) rfl rfl (by first | assumption | rfl) (by omega) (h3 i i1).2 ?_
    refine wp_lload (k := 13) rfl rfl ?_
    refine wp_lsub (k := 14) rfl ?_
    refine wp_l2i (k := 15) rfl ?_
    refine w_ri (k := 16) rfl rfl rfl rfl ?_
    exact hq
  | none =>
    rw [hf] at hq
    refine w_c_ne (k := 6) (t' := 9) rfl rfl (fun zq => absurd rfl zq) (fun zq => ?_)
    refine w_ic (k := 7) (x := nI 0) rfl (oi_nI 0) ?_
    refine w_goto (k := 8) (t' := 16) rfl rfl ?_
    refine w_ri (k := 16) rfl rfl rfl rfl ?_
    exact hq
theorem c_12 (ha : aq sh R q) (h : ch_c I L q C) {n : Int32} (hq : Q (some (.int (oI (cf C n)))) (sh, I, L, R)) : am_call (d + 1) 12 [.ref q, .int n] (sh, I, L, R) Q := by
  obtain ⟨a0, a1, a2, a3, a4, a5, a6, b1, b2, b3, b4, b5, b6, a9⟩ := ha
  obtain ⟨h1, h2, h3⟩ := h
  have loop : ∀ (r i : Nat), i + r = C.length → cf C n = ff (fun i => decide ((C.getD i c0).1 = n)) i r → am_V 12 am_c12 d sh Q 2 [some (.ref q), some (.int n), some (.int (nI i))] [] (sh, I, L, R) := by
    intro r
    induction r with
    | zero =>
      intro i hi e
      refine wp_iload (k := 2) rfl rfl ?_
      refine wp_aload (k := 3) rfl rfl ?_
      refine w_gi (k := 4) (s := 15) rfl rfl (by first | assumption | rfl) (by first | assumption | rfl) ?_
      refine w_n_ge (k := 5) (t' := 19) rfl rfl (by omega) (fun zq => ?_) (fun zq => absurd zq (by omega))
      refine w_ic (k := 19) (x := (-1)) rfl (by decide) ?_
      refine w_ri (k := 20) rfl rfl rfl rfl ?_
      rw [e] at hq
      exact hq
    | succ r ih =>
      intro i hi e
      rw [ff] at e
      refine wp_iload (k := 2) rfl rfl ?_
      refine wp_aload (k := 3) rfl rfl ?_
      refine w_gi (k := 4) (s := 15) rfl rfl (by first | assumption | rfl) (by first | assumption | rfl) ?_
      refine w_n_ge (k := 5) (t' := 19) rfl rfl (by omega) (fun zq => absurd zq (by omega)) (fun zq => ?_)
      refine wp_iload (k := 6) rfl rfl ?_
      refine w_ic (k := 7) (x := nI 8) rfl (oi_nI 8) ?_
      refine w_n_ge (k := 8) (t' := 19) rfl rfl (by omega) (fun zq => absurd zq (by omega)) (fun zq => ?_)
      refine wp_aload (k := 9) rfl rfl ?_
      refine w_gr (k := 10) (s := 11) rfl rfl (by first | assumption | rfl) (by first | assumption | rfl) ?_
      refine wp_iload (k := 11) rfl rfl ?_
      refine w_iald (k := 12) rfl rfl (by first | assumption | rfl) (by omega) (h3 i (by omega)).1 ?_
      refine wp_iload (k := 13) rfl rfl ?_
      refine w_c_ne (k := 14) (t' := 17) rfl rfl (fun k => ?_) (fun k => ?_)
      · rw [if_neg (by simpa using k)] at e
        refine w_incN (k := 17) (m := 1) rfl (oi_nI 1) rfl ?_
        refine w_goto (k := 18) (t' := 2) rfl rfl ?_
        exact ih (i + 1) (by omega) e
      · rw [if_pos (by simpa using k)] at e
        refine wp_iload (k := 15) rfl rfl ?_
        refine w_ri (k := 16) rfl rfl rfl rfl ?_
        rw [e] at hq
        exact hq
  refine am_enter (ls := [some _, some _, none]) (cs := am_c12) rfl rfl (Nat.le_of_ble_eq_true rfl) rfl ?_
  refine w_ic (k := 0) (x := nI 0) rfl (oi_nI 0) ?_
  refine wp_istore (k := 1) rfl rfl ?_
  exact loop _ 0 (Nat.zero_add _) rfl
theorem c_13 (ha : aq sh R q) (h : ch_c I L q C) {ip port : Int32} (hq : Q (some (.int (oI (ct C ip port)))) (sh, I, L, R)) : am_call (d + 1) 13 [.ref q, .int ip, .int port] (sh, I, L, R) Q := by
  obtain ⟨a0, a1, a2, a3, a4, a5, a6, b1, b2, b3, b4, b5, b6, a9⟩ := ha
  obtain ⟨h1, h2, h3⟩ := h
  have loop : ∀ (r i : Nat), i + r = C.length → ct C ip port = ff (fun i => decide ((C.getD i c0).2.1 = ip ∧ (C.getD i c0).2.2.1 = port)) i r → am_V 13 am_c13 d sh Q 2 [some (.ref q), some (.int ip), some (.int port), some (.int (nI i))] [] (sh, I, L, R) := by
    intro r
    induction r with
    | zero =>
      intro i hi e
      refine wp_iload (k := 2) rfl rfl ?_
      refine wp_aload (k := 3) rfl rfl ?_
      refine w_gi (k := 4) (s := 15) rfl rfl (by first | assumption | rfl) (by first | assumption | rfl) ?_
      refine w_n_ge (k := 5) (t' := 25) rfl rfl (by omega) (fun zq => ?_) (fun zq => absurd zq (by omega))
      refine w_ic (k := 25) (x := (-1)) rfl (by decide) ?_
      refine w_ri (k := 26) rfl rfl rfl rfl ?_
      rw [e] at hq
      exact hq
    | succ r ih =>
      intro i hi e
      rw [ff] at e
      refine wp_iload (k := 2) rfl rfl ?_
      refine wp_aload (k := 3) rfl rfl ?_
      refine w_gi (k := 4) (s := 15) rfl rfl (by first | assumption | rfl) (by first | assumption | rfl) ?_
      refine w_n_ge (k := 5) (t' := 25) rfl rfl (by omega) (fun zq => absurd zq (by omega)) (fun zq => ?_)
      refine wp_iload (k := 6) rfl rfl ?_
      refine w_ic (k := 7) (x := nI 8) rfl (oi_nI 8) ?_
      refine w_n_ge (k := 8) (t' := 25) rfl rfl (by omega) (fun zq => absurd zq (by omega)) (fun zq => ?_)
      refine wp_aload (k := 9) rfl rfl ?_
      refine w_gr (k := 10) (s := 12) rfl rfl (by first | assumption | rfl) (by first | assumption | rfl) ?_
      refine wp_iload (k := 11) rfl rfl ?_
      refine w_iald (k := 12) rfl rfl (by first | assumption | rfl) (by omega) (h3 i (by omega)).2.1 ?_
      refine wp_iload (k := 13) rfl rfl ?_
      refine w_c_ne (k := 14) (t' := 23) rfl rfl (fun k => ?_) (fun k => ?_)
      · rw [if_neg (fun q => k (of_decide_eq_true q).1)] at e
        refine w_incN (k := 23) (m := 1) rfl (oi_nI 1) rfl ?_
        refine w_goto (k := 24) (t' := 2) rfl rfl ?_
        exact ih (i + 1) (by omega) e
      · refine wp_aload (k := 15) rfl rfl ?_
        refine w_gr (k := 16) (s := 13) rfl rfl (by first | assumption | rfl) (by first | assumption | rfl) ?_
        refine wp_iload (k := 17) rfl rfl ?_
        refine w_iald (k := 18) rfl rfl (by first | assumption | rfl) (by omega) (h3 i (by omega)).2.2.1 ?_
        refine wp_iload (k := 19) rfl rfl ?_
        refine w_c_ne (k := 20) (t' := 23) rfl rfl (fun k2 => ?_) (fun k2 => ?_)
        · rw [if_neg (fun q => k2 (of_decide_eq_true q).2)] at e
          refine w_incN (k := 23) (m := 1) rfl (oi_nI 1) rfl ?_
          refine w_goto (k := 24) (t' := 2) rfl rfl ?_
          exact ih (i + 1) (by omega) e
        · rw [if_pos (decide_eq_true ⟨k, k2⟩)] at e
          refine wp_iload (k := 21) rfl rfl ?_
          refine w_ri (k := 22) rfl rfl rfl rfl ?_
          rw [e] at hq
          exact hq
  refine am_enter (ls := [some _, some _, some _, none]) (cs := am_c13) rfl rfl (Nat.le_of_ble_eq_true rfl) rfl ?_
  refine w_ic (k := 0) (x := nI 0) rfl (oi_nI 0) ?_
  refine wp_istore (k := 1) rfl rfl ?_
  exact loop _ 0 (Nat.zero_add _) rfl
theorem cf_lt {n : Int32} {i : Nat} (h : cf C n = some i) : i < C.length ∧ (C.getD i c0).1 = n := by
  obtain ⟨-, h2, h3, -⟩ := ff_some h
  exact ⟨by omega, of_decide_eq_true h3⟩
theorem ct_lt {ip port : Int32} {i : Nat} (h : ct C ip port = some i) : i < C.length ∧ (C.getD i c0).2.1 = ip ∧ (C.getD i c0).2.2.1 = port := by
  obtain ⟨-, h2, h3, -⟩ := ff_some h
  exact ⟨by omega, of_decide_eq_true h3⟩
theorem c_14 (ha : aq sh R q) (h : ch_c I L q C) (hp : pm_c I L q P) {n ip : Int32} (hq : Q (some (.int (bI (((cf C n).isSome || decide (C.length < 8)) && ((pf P ip).isSome || decide (P.length < 16)))))) (sh, I, L, R)) : am_call (d + 2) 14 [.ref q, .int n, .int ip] (sh, I, L, R) Q := by
  obtain ⟨a0, -⟩ := id ha
  obtain ⟨h1, h2, h3⟩ := id h
  obtain ⟨g1, g2, g3⟩ := id hp
  have second : ∀ ls, (((cf C n).isSome || decide (C.length < 8)) = true) → ls = [some (.ref q), some (.int n), some (.int ip)] → am_V 14 am_c14 (d + 1) sh Q 9 ls [] (sh, I, L, R) := by
    intro ls hb e
    subst e
    rw [hb, Bool.true_and] at hq
    refine wp_aload (k := 9) rfl rfl ?_
    refine wp_iload (k := 10) rfl rfl ?_
    refine w_Vi (k := 11) [_] rfl rfl rfl (Nat.le_of_ble_eq_true rfl) (by first | assumption | rfl) (Or.inl ⟨rfl, rfl⟩) ?_
    refine (c_7 ha hp ?_)
    refine ⟨_, rfl, ?_⟩
    refine w_ic (k := 12) (x := (-1)) rfl (by decide) ?_
    cases hf : pf P ip with
    | some i =>
      rw [hf] at hq
      have := pf_lt hf
      refine w_c_ne (k := 13) (t' := 18) rfl rfl (fun zq => ?_) (fun zq => absurd zq (nI_ne1 (by omega)))
      refine w_ic (k := 18) (x := bI true) rfl rfl ?_
      refine w_goto (k := 19) (t' := 21) rfl rfl ?_
      refine w_rz (k := 21) rfl rfl rfl ?_
      exact hq
    | none =>
      rw [hf] at hq
      refine w_c_ne (k := 13) (t' := 18) rfl rfl (fun zq => absurd rfl zq) (fun zq => ?_)
      refine wp_aload (k := 14) rfl rfl ?_
      refine w_gi (k := 15) (s := 10) rfl rfl (by first | assumption | rfl) (by first | assumption | rfl) ?_
      refine w_ic (k := 16) (x := nI 16) rfl (oi_nI 16) ?_
      refine w_n_ge (k := 17) (t' := 20) rfl rfl (by omega) (fun k => ?_) (fun k => ?_)
      · rw [decide_eq_false (by omega)] at hq
        refine w_ic (k := 20) (x := bI false) rfl rfl ?_
        refine w_rz (k := 21) rfl rfl rfl ?_
        exact hq
      · rw [decide_eq_true k] at hq
        refine w_ic (k := 18) (x := bI true) rfl rfl ?_
        refine w_goto (k := 19) (t' := 21) rfl rfl ?_
        refine w_rz (k := 21) rfl rfl rfl ?_
        exact hq
  refine am_enter (ls := [some _, some _, some _]) (cs := am_c14) rfl rfl (Nat.le_of_ble_eq_true rfl) rfl ?_
  refine wp_aload (k := 0) rfl rfl ?_
  refine wp_iload (k := 1) rfl rfl ?_
  refine w_Vi (k := 2) [_] rfl rfl rfl (Nat.le_of_ble_eq_true rfl) (by first | assumption | rfl) (Or.inl ⟨rfl, rfl⟩) ?_
  refine (c_12 ha h ?_)
  refine ⟨_, rfl, ?_⟩
  refine w_ic (k := 3) (x := (-1)) rfl (by decide) ?_
  cases hf : cf C n with
  | some i =>
    have := cf_lt hf
    refine w_c_ne (k := 4) (t' := 9) rfl rfl (fun zq => ?_) (fun zq => absurd zq (nI_ne1 (by omega)))
    exact second _ (by rw [hf]; rfl) rfl
  | none =>
    refine w_c_ne (k := 4) (t' := 9) rfl rfl (fun zq => absurd rfl zq) (fun zq => ?_)
    refine wp_aload (k := 5) rfl rfl ?_
    refine w_gi (k := 6) (s := 15) rfl rfl (by first | assumption | rfl) (by first | assumption | rfl) ?_
    refine w_ic (k := 7) (x := nI 8) rfl (oi_nI 8) ?_
    refine w_n_ge (k := 8) (t' := 20) rfl rfl (by omega) (fun k => ?_) (fun k => ?_)
    · rw [hf, decide_eq_false (by omega)] at hq
      refine w_ic (k := 20) (x := bI false) rfl rfl ?_
      refine w_rz (k := 21) rfl rfl rfl ?_
      exact hq
    · exact second _ (by rw [hf, decide_eq_true k]; rfl) rfl
theorem ch_set {i : Nat} {n ip port : Int32} {t : Int64} (h : ch_c I L q C) (hi : i < C.length) : ch_c (am_u (am_u (am_u I (q + 3) i n) (q + 4) i ip) (q + 5) i port) (am_u L (q + 6) i t) q (C.set i (n, ip, port, t)) := by
  refine ⟨by rw [am_uR (by omega), am_uR (by omega), am_uR (by omega), List.length_set]; exact h.1, by rw [List.length_set]; exact h.2.1, fun j hj => ?_⟩
  have hj : j < C.length := by simpa using hj
  rw [gD_set hj]
  have := h.2.2 j hj
  unfold hc at this ⊢
  by_cases e : j = i
  · rw [if_pos e]
    subst e
    simp [am_u_app]
  · rw [if_neg e]
    simp [am_u_app, e]
    exact this
theorem ch_app {n ip port : Int32} {t : Int64} (h : ch_c I L q C) (hl : C.length < 8) : ch_c (am_u (am_u (am_u (am_u I q 15 (nI (C.length + 1))) (q + 3) C.length n) (q + 4) C.length ip) (q + 5) C.length port) (am_u L (q + 6) C.length t) q (C ++ [(n, ip, port, t)]) := by
  refine ⟨by rw [am_uR (by omega), am_uR (by omega), am_uR (by omega), am_us]; simp, by simp; omega, fun j hj => ?_⟩
  have hj : j < C.length + 1 := by simpa using hj
  rw [gD_app hj]
  unfold hc
  by_cases e : j = C.length
  · rw [if_pos e]
    subst e
    simp [am_u_app]
  · rw [if_neg e]
    have := h.2.2 j (by omega)
    unfold hc at this
    simp [am_u_app, e]
    exact this
theorem c_15 (ha : aq sh R q) (h : ch_c I L q C) {n ip port : Int32} {t : Int64} (hq : ∀ I' L', ch_c I' L' q (cbd C n ip port t) → (∀ x, x ≠ q → x ≠ q + 3 → x ≠ q + 4 → x ≠ q + 5 → I' x = I x) → (∀ s, s ≠ 15 → I' q s = I q s) → (∀ x, x ≠ q + 6 → L' x = L x) → Q none (sh, I', L', R)) : am_call (d + 2) 15 [.ref q, .int n, .int ip, .int port, .long t] (sh, I, L, R) Q := by
  obtain ⟨a0, a1, a2, a3, a4, a5, a6, b1, b2, b3, b4, b5, b6, a9⟩ := id ha
  obtain ⟨h1, h2, h3⟩ := id h
  refine am_enter (ls := [some _, some _, some _, some _, some _, none, none]) (cs := am_c15) rfl rfl (Nat.le_of_ble_eq_true rfl) rfl ?_
  refine wp_aload (k := 0) rfl rfl ?_
  refine wp_iload (k := 1) rfl rfl ?_
  refine w_Vi (k := 2) [_] rfl rfl rfl (Nat.le_of_ble_eq_true rfl) (by first | assumption | rfl) (Or.inl ⟨rfl, rfl⟩) ?_
  refine (c_12 ha h ?_)
  refine ⟨_, rfl, ?_⟩
  refine wp_istore (k := 3) rfl rfl ?_
  refine wp_iload (k := 4) rfl rfl ?_
  refine w_ic (k := 5) (x := (-1)) rfl (by decide) ?_
  unfold cbd at hq
  cases hf : cf C n with
  | some i =>
    rw [hf] at hq
    obtain ⟨i1, i2⟩ := cf_lt hf
    refine w_c_ne (k := 6) (t' := 20) rfl rfl (fun zq => ?_) (fun zq => absurd zq (nI_ne1 (by omega)))
    refine wp_iload (k := 20) rfl rfl ?_
    refine w_ic (k := 21) (x := (-1)) rfl (by decide) ?_
    refine w_c_eq (k := 22) (t' := 43) rfl rfl (fun zq => absurd zq (nI_ne1 (by omega))) (fun zq => ?_)
    refine wp_aload (k := 23) rfl rfl ?_
    refine w_gr (k := 24) (s := 11) rfl rfl (by first | assumption | rfl) (by first | assumption | rfl) ?_
    refine wp_iload (k := 25) rfl rfl ?_
    refine wp_iload (k := 26) rfl rfl ?_
    refine w_iast (k := 27) rfl rfl (by omega) (by first | assumption | rfl) (by omega) ?_
    refine wp_aload (k := 28) rfl rfl ?_
    refine w_gr (k := 29) (s := 12) rfl rfl (by first | assumption | rfl) (by first | assumption | rfl) ?_
    refine wp_iload (k := 30) rfl rfl ?_
    refine wp_iload (k := 31) rfl rfl ?_
    refine w_iast (k := 32) rfl rfl (by omega) (by first | assumption | rfl) (by omega) ?_
    refine wp_aload (k := 33) rfl rfl ?_
    refine w_gr (k := 34) (s := 13) rfl rfl (by first | assumption | rfl) (by first | assumption | rfl) ?_
    refine wp_iload (k := 35) rfl rfl ?_
    refine wp_iload (k := 36) rfl rfl ?_
    refine w_iast (k := 37) rfl rfl (by omega) (by first | assumption | rfl) (by omega) ?_
    refine wp_aload (k := 38) rfl rfl ?_
    refine w_gr (k := 39) (s := 14) rfl rfl (by first | assumption | rfl) (by first | assumption | rfl) ?_
    refine wp_iload (k := 40) rfl rfl ?_
    refine wp_lload (k := 41) rfl rfl ?_
    refine w_last (k := 42) rfl rfl (by first | assumption | rfl) (by omega) ?_
    refine w_rv (k := 43) rfl rfl rfl rfl ?_
    exact hq _ _ (ch_set h i1) (fun x _ h1 h2 h3 => by rw [am_uR h3, am_uR h2, am_uR h1]) (fun s _ => by rw [am_uR (by omega), am_uR (by omega), am_uR (by omega)]) (fun x hx => am_uR hx)
  | none =>
    rw [hf] at hq
    simp only at hq
    refine w_c_ne (k := 6) (t' := 20) rfl rfl (fun zq => absurd rfl zq) (fun zq => ?_)
    refine wp_aload (k := 7) rfl rfl ?_
    refine w_gi (k := 8) (s := 15) rfl rfl (by first | assumption | rfl) (by first | assumption | rfl) ?_
    refine w_ic (k := 9) (x := nI 8) rfl (oi_nI 8) ?_
    refine w_n_ge (k := 10) (t' := 20) rfl rfl (by omega) (fun k => ?_) (fun k => ?_)
    · rw [if_neg (by omega)] at hq
      refine wp_iload (k := 20) rfl rfl ?_
      refine w_ic (k := 21) (x := (-1)) rfl (by decide) ?_
      refine w_c_eq (k := 22) (t' := 43) rfl rfl (fun zq => ?_) (fun zq => absurd rfl zq)
      refine w_rv (k := 43) rfl rfl rfl rfl ?_
      exact hq I L h (fun _ _ _ _ _ => rfl) (fun _ _ => rfl) (fun _ _ => rfl)
    · rw [if_pos k] at hq
      refine wp_aload (k := 11) rfl rfl ?_
      refine w_gi (k := 12) (s := 15) rfl rfl (by first | assumption | rfl) (by first | assumption | rfl) ?_
      refine wp_istore (k := 13) rfl rfl ?_
      refine wp_aload (k := 14) rfl rfl ?_
      refine wp_dup (k := 15) rfl rfl ?_
      refine w_gi (k := 16) (s := 15) rfl rfl (by first | assumption | rfl) (by first | assumption | rfl) ?_
      refine w_ic (k := 17) (x := nI 1) rfl (oi_nI 1) ?_
      refine w_addN (k := 18) rfl ?_
      refine w_pi (k := 19) (s := 15) rfl rfl (by first | assumption | rfl) ?_
      refine wp_iload (k := 20) rfl rfl ?_
      refine w_ic (k := 21) (x := (-1)) rfl (by decide) ?_
      refine w_c_eq (k := 22) (t' := 43) rfl rfl (fun zq => absurd zq (nI_ne1 (by omega))) (fun zq => ?_)
      refine wp_aload (k := 23) rfl rfl ?_
      refine w_gr (k := 24) (s := 11) rfl rfl (by first | assumption | rfl) (by first | assumption | rfl) ?_
      refine wp_iload (k := 25) rfl rfl ?_
      refine wp_iload (k := 26) rfl rfl ?_
      refine w_iast (k := 27) rfl rfl (by omega) (by first | assumption | rfl) (by omega) ?_
      refine wp_aload (k := 28) rfl rfl ?_
      refine w_gr (k := 29) (s := 12) rfl rfl (by first | assumption | rfl) (by first | assumption | rfl) ?_
      refine wp_iload (k := 30) rfl rfl ?_
      refine wp_iload (k := 31) rfl rfl ?_
      refine w_iast (k := 32) rfl rfl (by omega) (by first | assumption | rfl) (by omega) ?_
      refine wp_aload (k := 33) rfl rfl ?_
      refine w_gr (k := 34) (s := 13) rfl rfl (by first | assumption | rfl) (by first | assumption | rfl) ?_
      refine wp_iload (k := 35) rfl rfl ?_
      refine wp_iload (k := 36) rfl rfl ?_
      refine w_iast (k := 37) rfl rfl (by omega) (by first | assumption | rfl) (by omega) ?_
      refine wp_aload (k := 38) rfl rfl ?_
      refine w_gr (k := 39) (s := 14) rfl rfl (by first | assumption | rfl) (by first | assumption | rfl) ?_
      refine wp_iload (k := 40) rfl rfl ?_
      refine wp_lload (k := 41) rfl rfl ?_
      refine w_last (k := 42) rfl rfl (by first | assumption | rfl) (by omega) ?_
      refine w_rv (k := 43) rfl rfl rfl rfl ?_
      exact hq _ _ (ch_app h k) (fun x h0 h1 h2 h3 => by rw [am_uR h3, am_uR h2, am_uR h1, am_uR h0]) (fun s hs => by rw [am_uR (by omega), am_uR (by omega), am_uR (by omega)]; exact am_uw hs rfl) (fun x hx => am_uR hx)
theorem c_16 (ha : aq sh R q) (h : ch_c I L q C) {n : Int32} {t : Int64} (hq : Q (some (.int (match cf C n with | none => nI 0 | some i => ((C.getD i c0).2.2.2 - t).toInt32))) (sh, I, L, R)) : am_call (d + 2) 16 [.ref q, .int n, .long t] (sh, I, L, R) Q := by
  obtain ⟨a0, a1, a2, a3, a4, a5, a6, b1, b2, b3, b4, b5, b6, a9⟩ := id ha
  obtain ⟨h1, h2, h3⟩ := id h
  refine am_enter (ls := [some _, some _, some _, none, none]) (cs := am_c16) rfl rfl (Nat.le_of_ble_eq_true rfl) rfl ?_
  refine wp_aload (k := 0) rfl rfl ?_
  refine wp_iload (k := 1) rfl rfl ?_
  refine w_Vi (k := 2) [_] rfl rfl rfl (Nat.le_of_ble_eq_true rfl) (by first | assumption | rfl) (Or.inl ⟨rfl, rfl⟩) ?_
  refine (c_12 ha h ?_)
  refine ⟨_, rfl, ?_⟩
  refine wp_istore (k := 3) rfl rfl ?_
  refine wp_iload (k := 4) rfl rfl ?_
  refine w_ic (k := 5) (x := (-1)) rfl (by decide) ?_
  cases hf : cf C n with
  | some i =>
    rw [hf] at hq
    obtain ⟨i1, i2⟩ := cf_lt hf
    refine w_c_ne (k := 6) (t' := 9) rfl rfl (fun zq => ?_) (fun zq => absurd zq (nI_ne1 (by omega)))
    refine wp_aload (k := 9) rfl rfl ?_
    refine w_gr (k := 10) (s := 14) rfl rfl (by first | assumption | rfl) (by first | assumption | rfl) ?_
    refine wp_iload (k := 11) rfl rfl ?_
    refine w_lald (k := 12) rfl rfl (by first | assumption | rfl) (by omega) (h3 i i1).2.2.2 ?_
    refine wp_lload (k := 13) rfl rfl ?_
    refine wp_lsub (k := 14) rfl ?_
    refine wp_l2i (k := 15) rfl ?_
    refine w_ri (k := 16) rfl rfl rfl rfl ?_
    exact hq
  | none =>
    rw [hf] at hq
    refine w_c_ne (k := 6) (t' := 9) rfl rfl (fun zq => absurd rfl zq) (fun zq => ?_)
    refine w_ic (k := 7) (x := nI 0) rfl (oi_nI 0) ?_
    refine w_goto (k := 8) (t' := 16) rfl rfl ?_
    refine w_ri (k := 16) rfl rfl rfl rfl ?_
    exact hq
theorem c_17 (ha : aq sh R q) {i : Nat} (hi : i < 8) (hq : Q (some (.int (I (q + 3) i))) (sh, I, L, R)) : am_call (d + 1) 17 [.ref q, .int (nI i)] (sh, I, L, R) Q := by
  obtain ⟨a0, a1, a2, a3, a4, a5, a6, b1, b2, b3, b4, b5, b6, a9⟩ := id ha
  refine am_enter (ls := [some _, some _]) (cs := am_c17) rfl rfl (Nat.le_of_ble_eq_true rfl) rfl ?_
  refine wp_iload (k := 0) rfl rfl ?_
  refine w_m_lt (k := 1) (t' := 10) rfl rfl (by omega) (fun zq => absurd zq (by omega)) (fun zq => ?_)
  refine wp_iload (k := 2) rfl rfl ?_
  refine w_ic (k := 3) (x := nI 8) rfl (oi_nI 8) ?_
  refine w_n_ge (k := 4) (t' := 10) rfl rfl (by omega) (fun zq => absurd zq (by omega)) (fun zq => ?_)
  refine wp_aload (k := 5) rfl rfl ?_
  refine w_gr (k := 6) (s := 11) rfl rfl (by first | assumption | rfl) (by first | assumption | rfl) ?_
  refine wp_iload (k := 7) rfl rfl ?_
  refine w_iald (k := 8) rfl rfl (by first | assumption | rfl) (by omega) (by first | assumption | rfl) ?_
  refine w_goto (k := 9) (t' := 11) rfl rfl ?_
  refine w_ri (k := 11) rfl rfl rfl rfl ?_
  exact hq
theorem c_18 (ha : aq sh R q) {i : Nat} (hi : i < 8) (hq : Q (some (.int (I (q + 4) i))) (sh, I, L, R)) : am_call (d + 1) 18 [.ref q, .int (nI i)] (sh, I, L, R) Q := by
  obtain ⟨a0, a1, a2, a3, a4, a5, a6, b1, b2, b3, b4, b5, b6, a9⟩ := id ha
  refine am_enter (ls := [some _, some _]) (cs := am_c18) rfl rfl (Nat.le_of_ble_eq_true rfl) rfl ?_
  refine wp_iload (k := 0) rfl rfl ?_
  refine w_m_lt (k := 1) (t' := 10) rfl rfl (by omega) (fun zq => absurd zq (by omega)) (fun zq => ?_)
  refine wp_iload (k := 2) rfl rfl ?_
  refine w_ic (k := 3) (x := nI 8) rfl (oi_nI 8) ?_
  refine w_n_ge (k := 4) (t' := 10) rfl rfl (by omega) (fun zq => absurd zq (by omega)) (fun zq => ?_)
  refine wp_aload (k := 5) rfl rfl ?_
  refine w_gr (k := 6) (s := 12) rfl rfl (by first | assumption | rfl) (by first | assumption | rfl) ?_
  refine wp_iload (k := 7) rfl rfl ?_
  refine w_iald (k := 8) rfl rfl (by first | assumption | rfl) (by omega) (by first | assumption | rfl) ?_
  refine w_goto (k := 9) (t' := 11) rfl rfl ?_
  refine w_ri (k := 11) rfl rfl rfl rfl ?_
  exact hq
theorem c_19 (ha : aq sh R q) {i : Nat} (hi : i < 8) (hq : Q (some (.int (I (q + 5) i))) (sh, I, L, R)) : am_call (d + 1) 19 [.ref q, .int (nI i)] (sh, I, L, R) Q := by
  obtain ⟨a0, a1, a2, a3, a4, a5, a6, b1, b2, b3, b4, b5, b6, a9⟩ := id ha
  refine am_enter (ls := [some _, some _]) (cs := am_c19) rfl rfl (Nat.le_of_ble_eq_true rfl) rfl ?_
  refine wp_iload (k := 0) rfl rfl ?_
  refine w_m_lt (k := 1) (t' := 10) rfl rfl (by omega) (fun zq => absurd zq (by omega)) (fun zq => ?_)
  refine wp_iload (k := 2) rfl rfl ?_
  refine w_ic (k := 3) (x := nI 8) rfl (oi_nI 8) ?_
  refine w_n_ge (k := 4) (t' := 10) rfl rfl (by omega) (fun zq => absurd zq (by omega)) (fun zq => ?_)
  refine wp_aload (k := 5) rfl rfl ?_
  refine w_gr (k := 6) (s := 13) rfl rfl (by first | assumption | rfl) (by first | assumption | rfl) ?_
  refine wp_iload (k := 7) rfl rfl ?_
  refine w_iald (k := 8) rfl rfl (by first | assumption | rfl) (by omega) (by first | assumption | rfl) ?_
  refine w_goto (k := 9) (t' := 11) rfl rfl ?_
  refine w_ri (k := 11) rfl rfl rfl rfl ?_
  exact hq
end AL
