/-! ===== letters: fingerprint, strange kinds, peers, what is told ===== -/
def knw (k : Nat) : Bool := decide (k = 6 ∨ k = 9 ∨ k = 10 ∨ k = 12 ∨ k = 13 ∨ k = 18 ∨ k = 19 ∨ k = 20 ∨ k = 21 ∨ k = 22 ∨ k = 25 ∨ k = 28 ∨ k = 32)
def isStr (k : Nat) : Bool := !knw k && decide (k < 32768)
def stp (A : List Nat) (k : Nat) : List Nat := if isStr k && decide (k ∉ A) && decide (A.length < 8) then A ++ [k] else A
def strg (D : List AT) : List Nat := D.foldl (fun A a => stp A a.1) []
def fpw (B : List Nat) : Bool := match fgi B (ats B) with
  | none => false
  | some j => decide (j ≠ (ats B).length - 1 ∨ nI (vlo B j) ≠ fp (B.take (((ats B).getD j a0).2.2 - 4)))
theorem stp_len {A : List Nat} (h : A.length ≤ 8) (k : Nat) : (stp A k).length ≤ 8 := by
  unfold stp
  by_cases c : (isStr k && decide (k ∉ A) && decide (A.length < 8)) = true
  · rw [if_pos c]
    simp only [Bool.and_eq_true, decide_eq_true_eq] at c
    simp
    omega
  · rw [if_neg c]; exact h
theorem strg_snoc (D : List AT) (a : AT) : strg (D ++ [a]) = stp (strg D) a.1 := by unfold strg; rw [List.foldl_append]; rfl
theorem strg_len (D : List AT) : (strg D).length ≤ 8 := by
  have : ∀ (D : List AT) (A : List Nat), A.length ≤ 8 → (D.foldl (fun A a => stp A a.1) A).length ≤ 8 := by
    intro D
    induction D with
    | nil => intro A h; exact h
    | cons a D ih => intro A h; exact ih _ (stp_len h a.1)
  exact this D [] (by decide)
theorem strg_b (D : List AT) : ∀ z ∈ strg D, z < 32768 ∧ isStr z = true := by
  have gen : ∀ (D : List AT) (A : List Nat), (∀ z ∈ A, z < 32768 ∧ isStr z = true) → ∀ z ∈ D.foldl (fun A a => stp A a.1) A, z < 32768 ∧ isStr z = true := by
    intro D
    induction D with
    | nil => intro A hA; exact hA
    | cons e D ih =>
      intro A hA
      refine ih _ (fun z hz => ?_)
      have hz : z ∈ stp A e.1 := hz
      unfold stp at hz
      by_cases q : (isStr e.1 && decide (e.1 ∉ A) && decide (A.length < 8)) = true
      · rw [if_pos q] at hz
        rcases List.mem_append.mp hz with w | w
        · exact hA z w
        · simp only [Bool.and_eq_true] at q
          have h1 := q.1.1
          have w : z = e.1 := by simpa using w
          rw [w]
          refine ⟨?_, h1⟩
          unfold isStr at h1
          rw [Bool.and_eq_true] at h1
          exact of_decide_eq_true h1.2
      · rw [if_neg q] at hz
        exact hA z hz
  exact gen D [] (fun z hz => by cases hz)
theorem take_snoc {α : Type} (d : α) {D : List α} {i : Nat} (h : i < D.length) : D.take (i + 1) = D.take i ++ [D.getD i d] := by
  rw [List.take_add_one, List.getD_eq_getElem?_getD, List.getElem?_eq_getElem h]
  rfl
/-- the peers' IPs, each once -/
def pst (B : List Nat) (X : List Int32) (a : AT) : List Int32 := if decide (a.1 = 18) && snd_ B a then (if (nI (nb B (a.2.2 + 4) 4) ^^^ nI 554869826) ∈ X then X else X ++ [nI (nb B (a.2.2 + 4) 4) ^^^ nI 554869826]) else X
def prs (B : List Nat) (D : List AT) : List Int32 := D.foldl (pst B) []
theorem prs_snoc (B : List Nat) (D : List AT) (a : AT) : prs B (D ++ [a]) = pst B (prs B D) a := by unfold prs; rw [List.foldl_append]; rfl
def pcn (B : List Nat) (D : List AT) : Nat := D.countP (fun a => decide (a.1 = 18) && snd_ B a)
theorem prs_pcn (B : List Nat) : ∀ (D : List AT) (X : List Int32), (D.foldl (pst B) X).length ≤ X.length + pcn B D
  | [], X => by simp [pcn]
  | a :: D, X => by
    have := prs_pcn B D (pst B X a)
    have h2 : (pst B X a).length ≤ X.length + (if decide (a.1 = 18) && snd_ B a then 1 else 0) := by
      unfold pst
      by_cases c : (decide (a.1 = 18) && snd_ B a) = true
      · rw [if_pos c, if_pos c]
        by_cases c2 : (nI (nb B (a.2.2 + 4) 4) ^^^ nI 554869826) ∈ X
        · rw [if_pos c2]; omega
        · rw [if_neg c2]; simp
      · rw [if_neg c, if_neg c]; omega
    unfold pcn at this ⊢
    rw [List.foldl_cons, List.countP_cons]
    omega
theorem snd_18 {B : List Nat} {a : AT} (h : (decide (a.1 = 18) && snd_ B a) = true) : a.2.1 = 8 ∧ byA B (nI (a.2.2 + 1)) = nI 1 := by
  rw [Bool.and_eq_true] at h
  have h1 := of_decide_eq_true h.1
  have h2 := h.2
  unfold snd_ sndf at h2
  rw [h1, if_neg (by decide), if_neg (by decide), if_pos (by decide)] at h2
  exact of_decide_eq_true h2
theorem pcn_ps (B : List Nat) : ∀ f p, 12 * pcn B (ps B f p) + p ≤ pe B f p
  | 0, p => by simp [ps, pcn, pe]
  | f + 1, p => by
    rw [ps, pe]
    by_cases c : p + 4 ≤ B.length
    · rw [if_pos c, if_pos c]
      have ih := pcn_ps B f (p + 4 + pad4 (nb B (p + 2) 2))
      unfold pcn at ih ⊢
      rw [List.countP_cons]
      by_cases c2 : (decide ((nb B p 2, nb B (p + 2) 2, p + 4).1 = 18) && snd_ B (nb B p 2, nb B (p + 2) 2, p + 4)) = true
      · have h8 : nb B (p + 2) 2 = 8 := (snd_18 c2).1
        rw [if_pos c2]
        rw [h8] at ih ⊢
        have e8 : pad4 8 = 8 := rfl
        omega
      · rw [if_neg c2]
        have := pad4_ge (nb B (p + 2) 2)
        omega
    · rw [if_neg c, if_neg c]; simp [pcn]
/-- what an attribute tells -/
def tlt (B : List Nat) (a : AT) (i : Nat) (x : Int32) : Int32 := if x = nI 0 then nI a.1 else if x = nI 1 then nI a.2.1 else if x = nI 2 then nI a.2.2 else if x = nI 3 then nI (nb B a.2.2 (min 4 a.2.1)) else if x = nI 4 then (if decide (a.1 = 18 ∨ a.1 = 22 ∨ a.1 = 32) && snd_ B a then poo B i else nI 0) else if x = nI 5 then (if decide (a.1 = 18 ∨ a.1 = 22 ∨ a.1 = 32) && snd_ B a then ipo B i else nI 0) else if x = nI 6 then (if decide (a.1 = 9) && snd_ B a then byA B (nI (a.2.2 + 2)) * nI 100 + byA B (nI (a.2.2 + 3)) else nI 0) else -1
def sp_at (B : List Nat) (i x : Int32) : Int32 := if msg B = false ∨ i < 0 ∨ nI (ats B).length ≤ i then -1 else tlt B ((ats B).getD i.toNatClampNeg a0) i.toNatClampNeg x
section LC
variable {d : Nat} {sh : List (Nat × Nat)} {I : Nat → Nat → Int32} {L : Nat → Nat → Int64} {R : Nat → Nat → Option Nat} {Q : am_Q} {l p b n : Nat} {B : List Nat}
theorem c_53 {k : Nat} (hk : k < 65536) (hq : Q (some (.int (bI (isStr k)))) (sh, I, L, R)) : am_call (d + 1) 53 [.int (nI k)] (sh, I, L, R) Q := by
  unfold isStr at hq
  have sw : am_sw 4 (nI k) [(6, 2), (7, 4), (8, 4), (9, 2), (10, 2), (11, 4), (12, 2), (13, 2), (14, 4), (15, 4), (16, 4), (17, 4), (18, 2), (19, 2), (20, 2), (21, 2), (22, 2), (23, 4), (24, 4), (25, 2), (26, 4), (27, 4), (28, 2), (29, 4), (30, 4), (31, 4), (32, 2)] = if knw k then 2 else 4 := by
    by_cases c : k < 33
    · have : ∀ k, k < 33 → am_sw 4 (nI k) [(6, 2), (7, 4), (8, 4), (9, 2), (10, 2), (11, 4), (12, 2), (13, 2), (14, 4), (15, 4), (16, 4), (17, 4), (18, 2), (19, 2), (20, 2), (21, 2), (22, 2), (23, 4), (24, 4), (25, 2), (26, 4), (27, 4), (28, 2), (29, 4), (30, 4), (31, 4), (32, 2)] = if knw k then 2 else 4 := by decide +kernel
      exact this k c
    · have hkn : knw k = false := decide_eq_false (by omega)
      have big : ∀ c : Nat, c < 33 → nI k ≠ Int32.ofInt (c : Int) := fun c hc z => absurd ((nI_eq (by omega) (by omega)).mp (z.trans (oi_nI c))) (by omega)
      rw [hkn]
      refine am_sw_no (fun q hq2 => ?_)
      have hm : ∀ q ∈ ([(6, 2), (7, 4), (8, 4), (9, 2), (10, 2), (11, 4), (12, 2), (13, 2), (14, 4), (15, 4), (16, 4), (17, 4), (18, 2), (19, 2), (20, 2), (21, 2), (22, 2), (23, 4), (24, 4), (25, 2), (26, 4), (27, 4), (28, 2), (29, 4), (30, 4), (31, 4), (32, 2)] : List (Int × Int)), ∃ c : Nat, c < 33 ∧ q.1 = (c : Int) := by
        intro q hq3
        have h2 : ∀ q ∈ ([(6, 2), (7, 4), (8, 4), (9, 2), (10, 2), (11, 4), (12, 2), (13, 2), (14, 4), (15, 4), (16, 4), (17, 4), (18, 2), (19, 2), (20, 2), (21, 2), (22, 2), (23, 4), (24, 4), (25, 2), (26, 4), (27, 4), (28, 2), (29, 4), (30, 4), (31, 4), (32, 2)] : List (Int × Int)), 0 ≤ q.1 ∧ q.1 < 33 := by decide
        obtain ⟨h3, h4⟩ := h2 q hq3
        exact ⟨q.1.toNat, by omega, by omega⟩
      obtain ⟨c2, h1, h2⟩ := hm q hq2
      rw [h2]
      exact big c2 h1
  refine am_enter (ls := [some _]) (cs := am_c53) rfl rfl (Nat.le_of_ble_eq_true rfl) rfl ?_
  refine wp_iload (k := 0) rfl rfl ?_
  cases hkn : knw k with
  | true =>
    rw [hkn] at sw hq
    refine w_sw (k := 1) (t' := 2) rfl (congrArg Int.toNat sw) ?_
    refine w_ic (k := 2) (x := bI false) rfl rfl ?_
    refine w_rz (k := 3) rfl rfl rfl ?_
    exact hq
  | false =>
    rw [hkn] at sw hq
    refine w_sw (k := 1) (t' := 4) rfl (congrArg Int.toNat sw) ?_
    refine wp_iload (k := 4) rfl rfl ?_
    refine w_ic (k := 5) (x := nI 32768) rfl (oi_nI 32768) ?_
    refine w_n_ge (k := 6) (t' := 9) rfl rfl (by omega) (fun c => ?_) (fun c => ?_)
    · rw [decide_eq_false (by omega)] at hq
      refine w_ic (k := 9) (x := bI false) rfl rfl ?_
      refine w_rz (k := 10) rfl rfl rfl ?_
      exact hq
    · rw [decide_eq_true c] at hq
      refine w_ic (k := 7) (x := bI true) rfl rfl ?_
      refine w_goto (k := 8) (t' := 10) rfl rfl ?_
      refine w_rz (k := 10) rfl rfl rfl ?_
      exact hq
theorem c_52 {a m k : Nat} {X : List Int32} (hkX : k = X.length) (ha : sh[a]? = some (50, m)) (hm : m < 1000) (hX : X.length ≤ m) (hv : ∀ i, i < X.length → I a i = X.getD i 0) {v : Int32} (hq : Q (some (.int (bI (decide (v ∈ X))))) (sh, I, L, R)) : am_call (d + 1) 52 [.ref a, .int (nI k), .int v] (sh, I, L, R) Q := by
  subst hkX
  have loop : ∀ (r i : Nat), i + r = X.length → (v ∈ X ↔ v ∈ X.drop i) → am_V 52 am_c52 d sh Q 2 [some (.ref a), some (.int (nI X.length)), some (.int v), some (.int (nI i))] [] (sh, I, L, R) := by
    intro r
    induction r with
    | zero =>
      intro i hi e
      rw [List.drop_of_length_le (by omega)] at e
      refine wp_iload (k := 2) rfl rfl ?_
      refine wp_iload (k := 3) rfl rfl ?_
      refine w_n_ge (k := 4) (t' := 18) rfl rfl (by omega) (fun zq => ?_) (fun zq => absurd zq (by omega))
      refine w_ic (k := 18) (x := bI false) rfl rfl ?_
      refine w_rz (k := 19) rfl rfl rfl ?_
      rw [decide_eq_false (fun z => by have := e.mp z; cases this)] at hq
      exact hq
    | succ r ih =>
      intro i hi e
      rw [gD_drop 0 (by omega), List.mem_cons] at e
      refine wp_iload (k := 2) rfl rfl ?_
      refine wp_iload (k := 3) rfl rfl ?_
      refine w_n_ge (k := 4) (t' := 18) rfl rfl (by omega) (fun zq => absurd zq (by omega)) (fun zq => ?_)
      refine wp_iload (k := 5) rfl rfl ?_
      refine wp_aload (k := 6) rfl rfl ?_
      refine w_alen (k := 7) rfl (by first | assumption | rfl) (by decide) ?_
      refine w_n_ge (k := 8) (t' := 18) rfl rfl (by omega) (fun zq => absurd zq (by omega)) (fun zq => ?_)
      refine wp_aload (k := 9) rfl rfl ?_
      refine wp_iload (k := 10) rfl rfl ?_
      refine w_iald (k := 11) rfl rfl (by first | assumption | rfl) (by omega) (hv i (by omega)) ?_
      refine wp_iload (k := 12) rfl rfl ?_
      refine w_c_ne (k := 13) (t' := 16) rfl rfl (fun c => ?_) (fun c => ?_)
      · refine w_incN (k := 16) (m := 1) rfl (oi_nI 1) rfl ?_
        refine w_goto (k := 17) (t' := 2) rfl rfl ?_
        exact ih (i + 1) (by omega) (e.trans ⟨fun z => z.elim (fun y => absurd y.symm c) id, Or.inr⟩)
      · refine w_ic (k := 14) (x := bI true) rfl rfl ?_
        refine w_rz (k := 15) rfl rfl rfl ?_
        rw [decide_eq_true (e.mpr (Or.inl c.symm))] at hq
        exact hq
  refine am_enter (ls := [some _, some _, some _, none]) (cs := am_c52) rfl rfl (Nat.le_of_ble_eq_true rfl) rfl ?_
  refine w_ic (k := 0) (x := nI 0) rfl (oi_nI 0) ?_
  refine wp_istore (k := 1) rfl rfl ?_
  exact loop _ 0 (Nat.zero_add _) (by rw [List.drop_zero])
theorem c_50 (hl : lq sh R l p) (hB : ∀ c ∈ B, c < 256) (h : lr_ I l B) (hm : msg B = true) {a : Nat} (ha : sh[a]? = some (50, 8)) (hal : a < l ∨ l + 4 < a) (h4 : 4 ≤ a) (hq : ∀ I', (∀ i, i < (strg (cts B)).length → I' a i = nI ((strg (cts B)).getD i 0)) → (∀ x, x ≠ a → I' x = I x) → Q (some (.int (nI (strg (cts B)).length))) (sh, I', L, R)) : am_call (d + 2) 50 [.ref l, .ref a] (sh, I, L, R) Q := by
  obtain ⟨l0, l1, l2, l3, l4, r0, r1, r2, r3, r4, l5, lp⟩ := hl
  obtain ⟨h1, h2, h3, h4'⟩ := h
  obtain ⟨-, -, hat'⟩ := h4' hm
  rw [if_pos hm] at h3
  have hc := cng_le B
  have hall := ats_len B
  have hct : ∀ i, i ≤ cng B → (cts B).take i = (ats B).take i := fun i hi => by unfold cts; rw [List.take_take, Nat.min_eq_left hi]
  have full : ∀ (D E : List AT), (strg D).length = 8 → strg (D ++ E) = strg D := by
    intro D E h8
    unfold strg at h8 ⊢
    rw [List.foldl_append]
    generalize List.foldl (fun A a => stp A a.1) [] D = Z at h8 ⊢
    induction E with
    | nil => rfl
    | cons e E ih =>
      rw [List.foldl_cons]
      have : stp Z e.1 = Z := by unfold stp; rw [if_neg (by rw [decide_eq_false (show ¬ Z.length < 8 by omega)]; simp)]
      rw [this]
      exact ih
  have loop : ∀ (r i : Nat) (I1 : Nat → Nat → Int32), i + r = cng B → (∀ j, j < (strg ((cts B).take i)).length → I1 a j = nI ((strg ((cts B).take i)).getD j 0)) → (∀ x, x ≠ a → I1 x = I x) → am_V 50 am_c50 (d + 1) sh Q 4 [some (.ref l), some (.ref a), some (.int (nI (strg ((cts B).take i)).length)), some (.int (nI i))] [] (sh, I1, L, R) := by
    intro r
    induction r with
    | zero =>
      intro i I1 hi x1 f1
      have hlen : (cts B).length = cng B := by unfold cts; simp; omega
      rw [List.take_of_length_le (by omega)] at x1 ⊢
      have s8 := strg_len (cts B)
      refine wp_iload (k := 4) rfl rfl ?_
      refine wp_aload (k := 5) rfl rfl ?_
      refine w_gi (k := 6) (s := 9) rfl rfl (by first | assumption | rfl) (show I1 l 9 = nI (cng B) by rw [f1 l (by omega)]; exact h3) ?_
      refine w_n_ge (k := 7) (t' := 36) rfl rfl (by omega) (fun zq => ?_) (fun zq => absurd zq (by omega))
      refine wp_iload (k := 36) rfl rfl ?_
      refine w_ri (k := 37) rfl rfl rfl rfl ?_
      exact hq I1 x1 f1
    | succ r ih =>
      intro i I1 hi x1 f1
      have hlen : (cts B).length = cng B := by unfold cts; simp; omega
      have s8 := strg_len ((cts B).take i)
      have hi2 : i < (ats B).length := by omega
      have hb := (ats_at hB hi2).1
      obtain ⟨v1, v2, v3, v4⟩ := hat' i hi2
      have v1 : I1 (l + 1) i = nI ((ats B).getD i a0).1 := by rw [f1 _ (by omega)]; exact v1
      have hsn : (cts B).take (i + 1) = (cts B).take i ++ [(ats B).getD i a0] := by
        rw [hct _ (by omega), hct _ (by omega), take_snoc a0 hi2]
      have hst : strg ((cts B).take (i + 1)) = stp (strg ((cts B).take i)) ((ats B).getD i a0).1 := by rw [hsn, strg_snoc]
      generalize hZ : strg ((cts B).take i) = Z at *
      generalize hkk : ((ats B).getD i a0).1 = kk at *
      have nx : stp Z kk = Z → am_V 50 am_c50 (d + 1) sh Q 34 [some (.ref l), some (.ref a), some (.int (nI Z.length)), some (.int (nI i))] [] (sh, I1, L, R) := by
        intro e
        rw [e] at hst
        refine w_incN (k := 34) (m := 1) rfl (oi_nI 1) rfl ?_
        refine w_goto (k := 35) (t' := 4) rfl rfl ?_
        have := ih (i + 1) I1 (by omega) (by rw [hst]; exact x1) f1
        rw [hst] at this
        exact this
      refine wp_iload (k := 4) rfl rfl ?_
      refine wp_aload (k := 5) rfl rfl ?_
      refine w_gi (k := 6) (s := 9) rfl rfl (by first | assumption | rfl) (show I1 l 9 = nI (cng B) by rw [f1 l (by omega)]; exact h3) ?_
      refine w_n_ge (k := 7) (t' := 36) rfl rfl (by omega) (fun zq => absurd zq (by omega)) (fun zq => ?_)
      refine wp_iload (k := 8) rfl rfl ?_
      refine wp_aload (k := 9) rfl rfl ?_
      refine w_alen (k := 10) rfl (by first | assumption | rfl) (by decide) ?_
      refine w_n_ge (k := 11) (t' := 36) rfl rfl (by omega) (fun c => ?_) (fun c => ?_)
      · have h8 : Z.length = 8 := by omega
        have hfull : strg (cts B) = Z := by
          rw [← hZ] at h8
          have := full ((cts B).take i) ((cts B).drop i) h8
          rw [List.take_append_drop, hZ] at this
          exact this
        rw [hfull] at hq
        refine wp_iload (k := 36) rfl rfl ?_
        refine w_ri (k := 37) rfl rfl rfl rfl ?_
        exact hq I1 x1 f1
      · refine wp_aload (k := 12) rfl rfl ?_
        refine w_gr (k := 13) (s := 1) rfl rfl (by first | assumption | rfl) (by first | assumption | rfl) ?_
        refine wp_iload (k := 14) rfl rfl ?_
        refine w_iald (k := 15) rfl rfl (by first | assumption | rfl) (by omega) v1 ?_
        refine w_Si (k := 16) [_] rfl rfl rfl (Nat.le_of_ble_eq_true rfl) (Or.inl ⟨rfl, rfl⟩) ?_
        refine (c_53 hb ?_)
        refine ⟨_, rfl, ?_⟩
        refine w_b_eq (k := 17) (t' := 34) rfl rfl (fun k => ?_) (fun k => ?_)
        · exact nx (by unfold stp; rw [if_neg (by rw [k]; simp)])
        · have hXm : ∀ j, j < (Z.map nI).length → I1 a j = (Z.map nI).getD j 0 := by
            intro j hj
            have hj : j < Z.length := by simpa using hj
            rw [x1 j hj, List.getD_eq_getElem?_getD, List.getD_eq_getElem?_getD, List.getElem?_map, List.getElem?_eq_getElem hj]
            rfl
          have hZb : ∀ z ∈ Z, z < 65536 := fun z hz => by
            rw [← hZ] at hz
            have := (strg_b _ z hz).1
            omega
          have hmem : (nI kk ∈ Z.map nI) ↔ kk ∈ Z := by
            rw [List.mem_map]
            constructor
            · rintro ⟨z, hz, e⟩
              have := (nI_eq (by have := hZb z hz; omega) (by omega)).mp e
              rw [← this]; exact hz
            · intro hz; exact ⟨kk, hz, rfl⟩
          have hml : (Z.map nI).length = Z.length := by simp
          refine wp_aload (k := 18) rfl rfl ?_
          refine wp_iload (k := 19) rfl rfl ?_
          refine wp_aload (k := 20) rfl rfl ?_
          refine w_gr (k := 21) (s := 1) rfl rfl (by first | assumption | rfl) (by first | assumption | rfl) ?_
          refine wp_iload (k := 22) rfl rfl ?_
          refine w_iald (k := 23) rfl rfl (by first | assumption | rfl) (by omega) v1 ?_
          refine w_Si (k := 24) [_, _, _] rfl rfl rfl (Nat.le_of_ble_eq_true rfl) (Or.inl ⟨rfl, rfl⟩) ?_
          refine (c_52 (m := 8) (X := Z.map nI) hml.symm ha (by decide) (by rw [hml]; omega) hXm ?_)
          refine ⟨_, rfl, ?_⟩
          rw [show decide (nI kk ∈ Z.map nI) = decide (kk ∈ Z) from decide_eq_decide.mpr hmem]
          refine w_b_ne (k := 25) (t' := 34) rfl rfl (fun k2 => ?_) (fun k2 => ?_)
          · exact nx (by unfold stp; rw [if_neg (by simp [of_decide_eq_true k2])])
          · have e : stp Z kk = Z ++ [kk] := by unfold stp; rw [if_pos (by simp [k, of_decide_eq_false k2, c])]
            rw [e] at hst
            refine wp_aload (k := 26) rfl rfl ?_
            refine wp_iload (k := 27) rfl rfl ?_
            refine wp_aload (k := 28) rfl rfl ?_
            refine w_gr (k := 29) (s := 1) rfl rfl (by first | assumption | rfl) (by first | assumption | rfl) ?_
            refine wp_iload (k := 30) rfl rfl ?_
            refine w_iald (k := 31) rfl rfl (by first | assumption | rfl) (by omega) v1 ?_
            refine w_iast (k := 32) rfl rfl (by omega) (by first | assumption | rfl) (by omega) ?_
            refine w_incN (k := 33) (m := 1) rfl (oi_nI 1) rfl ?_
            refine w_incN (k := 34) (m := 1) rfl (oi_nI 1) rfl ?_
            refine w_goto (k := 35) (t' := 4) rfl rfl ?_
            have := ih (i + 1) (am_u I1 a Z.length (nI kk)) (by omega) (by
              rw [hst]
              intro j hj
              have hj : j < Z.length + 1 := by simpa using hj
              rw [gD_app hj, am_u_app]
              by_cases q : j = Z.length
              · rw [if_pos ⟨rfl, q⟩, if_pos q]
              · rw [if_neg (fun z => q z.2), if_neg q]
                exact x1 j (by omega)) (fun x hx => by rw [am_uR hx, f1 x hx])
            rw [hst, List.length_append] at this
            exact this
  refine am_enter (ls := [some _, some _, none, none]) (cs := am_c50) rfl rfl (Nat.le_of_ble_eq_true rfl) rfl ?_
  refine w_ic (k := 0) (x := nI 0) rfl (oi_nI 0) ?_
  refine wp_istore (k := 1) rfl rfl ?_
  refine w_ic (k := 2) (x := nI 0) rfl (oi_nI 0) ?_
  refine wp_istore (k := 3) rfl rfl ?_
  have := loop (cng B) 0 I (Nat.zero_add _) (by intro j hj; simp [strg] at hj) (fun _ _ => rfl)
  rw [List.take_zero] at this
  exact this
end LC
