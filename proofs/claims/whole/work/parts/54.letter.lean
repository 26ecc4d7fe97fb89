/-! ===== what stands in a message: the class reads ===== -/
abbrev AT : Type := Nat × Nat × Nat
def a0 : AT := (0, 0, 0)
def ps (B : List Nat) : Nat → Nat → List AT
  | 0, _ => []
  | f + 1, p => if p + 4 ≤ B.length then (nb B p 2, nb B (p + 2) 2, p + 4) :: ps B f (p + 4 + pad4 (nb B (p + 2) 2)) else []
def pe (B : List Nat) : Nat → Nat → Nat
  | 0, p => p
  | f + 1, p => if p + 4 ≤ B.length then pe B f (p + 4 + pad4 (nb B (p + 2) 2)) else p
def sndf (k s : Nat) (f : Int32) : Bool := if k = 6 ∨ k = 20 then decide (1 ≤ s ∧ s ≤ 8) else if k = 21 then decide (s = 8) else if k = 18 ∨ k = 22 ∨ k = 32 then decide (s = 8 ∧ f = nI 1) else if k = 9 ∨ k = 12 ∨ k = 13 ∨ k = 25 ∨ k = 32808 then decide (s = 4) else if k = 10 then decide (s % 2 = 0) else if k = 28 then decide (s = 32) else true
def snd_ (B : List Nat) (a : AT) : Bool := sndf a.1 a.2.1 (byA B (nI (a.2.2 + 1)))
def fin_ (B : List Nat) (D : List AT) : Option Nat := ff (fun i => snd_ B (D.getD i a0) && decide ((D.getD i a0).1 = 28)) 0 D.length
def fgi (B : List Nat) (D : List AT) : Option Nat := ff (fun i => snd_ B (D.getD i a0) && decide ((D.getD i a0).1 = 32808)) 0 D.length
def ats (B : List Nat) : List AT := ps B 104 20
def hdk (B : List Nat) : Bool := decide (20 ≤ B.length ∧ B.getD 0 0 < 64 ∧ nb B 2 2 = B.length - 20 ∧ nb B 4 4 = 554869826)
def msg (B : List Nat) : Bool := hdk B && decide (pe B 104 20 = B.length)
def cng (B : List Nat) : Nat := match fin_ B (ats B) with
  | none => (ats B).length
  | some j => j + 1
theorem ff_snoc {p : Nat → Bool} : ∀ {n i : Nat}, ff p i (n + 1) = match ff p i n with
    | some j => some j
    | none => if p (i + n) then some (i + n) else none
  | 0, i => by simp [ff]
  | n + 1, i => by
    rw [ff]
    conv => rhs; rw [ff]
    by_cases c : p i = true
    · rw [if_pos c, if_pos c]
    · rw [if_neg c, if_neg c, ff_snoc (n := n) (i := i + 1), show i + 1 + n = i + (n + 1) by omega]
theorem ff_app {B : List Nat} {D : List AT} {x : AT} (g : AT → Bool) : ff (fun i => g ((D ++ [x]).getD i a0)) 0 (D ++ [x]).length = match ff (fun i => g (D.getD i a0)) 0 D.length with
    | some j => some j
    | none => if g x then some D.length else none := by
  rw [List.length_append, show D.length + [x].length = D.length + 1 from rfl, ff_snoc, ff_cong (q := fun i => g (D.getD i a0)) (fun k _ hk => by rw [gD_app (by omega), if_neg (by omega)])]
  cases ff (fun i => g (D.getD i a0)) 0 D.length with
  | some j => rfl
  | none =>
    simp only [Nat.zero_add]
    rw [gD_app (by omega), if_pos rfl]
/-- a letter at l over a row at p -/
def lq (sh : List (Nat × Nat)) (R : Nat → Nat → Option Nat) (l p : Nat) : Prop := sh[l]? = some (3, 10) ∧ sh[l + 1]? = some (50, 104) ∧ sh[l + 2]? = some (50, 104) ∧ sh[l + 3]? = some (50, 104) ∧ sh[l + 4]? = some (53, 104) ∧ R l 0 = some p ∧ R l 1 = some (l + 1) ∧ R l 2 = some (l + 2) ∧ R l 3 = some (l + 3) ∧ R l 4 = some (l + 4) ∧ 4 ≤ l ∧ (p < l ∨ l + 4 < p)
def hat (B : List Nat) (I : Nat → Nat → Int32) (l : Nat) : Nat → AT → Prop := fun m x => I (l + 1) m = nI x.1 ∧ I (l + 2) m = nI x.2.1 ∧ I (l + 3) m = nI x.2.2 ∧ I (l + 4) m = bI (snd_ B x)
def lr_ (I : Nat → Nat → Int32) (l : Nat) (B : List Nat) : Prop := I l 5 = bI (msg B) ∧ I l 6 = nI (if msg B then (ats B).length else 0) ∧ I l 9 = nI (if msg B then cng B else 0) ∧ (msg B = true → I l 7 = oI (fin_ B (ats B)) ∧ I l 8 = oI (fgi B (ats B)) ∧ ∀ i, i < (ats B).length → hat B I l i ((ats B).getD i a0))
theorem lr_k {I I' : Nat → Nat → Int32} {l : Nat} {B : List Nat} (h : lr_ I l B) (e : ∀ j, j ≤ 4 → I' (l + j) = I (l + j)) : lr_ I' l B := by
  have e0 : I' l = I l := e 0 (by decide)
  obtain ⟨h1, h2, h3, h4⟩ := h
  refine ⟨by rw [e0]; exact h1, by rw [e0]; exact h2, by rw [e0]; exact h3, fun hm => ?_⟩
  obtain ⟨k1, k2, k3⟩ := h4 hm
  refine ⟨by rw [e0]; exact k1, by rw [e0]; exact k2, fun i hi => ?_⟩
  have := k3 i hi
  unfold hat at this ⊢
  rw [e 1 (by decide), e 2 (by decide), e 3 (by decide), e 4 (by decide)]
  exact this
theorem ps_len (B : List Nat) : ∀ f p, (ps B f p).length ≤ f
  | 0, _ => Nat.le_refl _
  | f + 1, p => by
    rw [ps]
    by_cases c : p + 4 ≤ B.length
    · rw [if_pos c, List.length_cons]
      have := ps_len B f (p + 4 + pad4 (nb B (p + 2) 2))
      omega
    · rw [if_neg c]; simp
/-- where the attributes stand -/
theorem ps_mem {B : List Nat} (hB : ∀ c ∈ B, c < 256) : ∀ f p (a : AT), a ∈ ps B f p → a.1 < 65536 ∧ a.2.1 < 65536 ∧ p + 4 ≤ a.2.2 ∧ a.2.2 ≤ B.length
  | 0, _, _, h => by simp [ps] at h
  | f + 1, p, a, h => by
    rw [ps] at h
    by_cases c : p + 4 ≤ B.length
    · rw [if_pos c] at h
      rcases List.mem_cons.mp h with e | e
      · subst e
        have h1 := nb_lt hB p 2
        have h2 := nb_lt hB (p + 2) 2
        exact ⟨h1, h2, Nat.le_refl _, c⟩
      · obtain ⟨h1, h2, h3, h4⟩ := ps_mem hB f _ a e
        exact ⟨h1, h2, by omega, h4⟩
    · rw [if_neg c] at h
      cases h
section LT
variable {d : Nat} {sh : List (Nat × Nat)} {I : Nat → Nat → Int32} {L : Nat → Nat → Int64} {R : Nat → Nat → Option Nat} {Q : am_Q} {l p b n : Nat} {B : List Nat}
theorem c_37 {k s : Nat} (hk : k < 65536) (hs : s < 65536) {f : Int32} (hq : Q (some (.int (bI (sndf k s f)))) (sh, I, L, R)) : am_call (d + 1) 37 [.int (nI k), .int (nI s), .int f] (sh, I, L, R) Q := by
  unfold sndf at hq
  have b2 : (k = 6 ∨ k = 20) → am_V 37 am_c37 d sh Q 2 [some (.int (nI k)), some (.int (nI s)), some (.int f)] [] (sh, I, L, R) := by
    intro h
    rw [if_pos h] at hq
    refine wp_iload (k := 2) rfl rfl ?_
    refine w_ic (k := 3) (x := nI 1) rfl (oi_nI 1) ?_
    refine w_n_lt (k := 4) (t' := 10) rfl rfl (by omega) (fun c1 => ?_) (fun c1 => ?_)
    · rw [decide_eq_false (by omega)] at hq
      refine w_ic (k := 10) (x := bI false) rfl rfl ?_
      refine w_rz (k := 11) rfl rfl rfl ?_
      exact hq
    · refine wp_iload (k := 5) rfl rfl ?_
      refine w_ic (k := 6) (x := nI 8) rfl (oi_nI 8) ?_
      refine w_n_gt (k := 7) (t' := 10) rfl rfl (by omega) (fun c2 => ?_) (fun c2 => ?_)
      · rw [decide_eq_false (by omega)] at hq
        refine w_ic (k := 10) (x := bI false) rfl rfl ?_
        refine w_rz (k := 11) rfl rfl rfl ?_
        exact hq
      · rw [decide_eq_true ⟨c1, c2⟩] at hq
        refine w_ic (k := 8) (x := bI true) rfl rfl ?_
        refine w_goto (k := 9) (t' := 11) rfl rfl ?_
        refine w_rz (k := 11) rfl rfl rfl ?_
        exact hq
  have b19 : ¬ (k = 6 ∨ k = 20) → ¬ k = 21 → (k = 18 ∨ k = 22 ∨ k = 32) → am_V 37 am_c37 d sh Q 19 [some (.int (nI k)), some (.int (nI s)), some (.int f)] [] (sh, I, L, R) := by
    intro h1 h2 h3
    rw [if_neg h1, if_neg h2, if_pos h3] at hq
    refine wp_iload (k := 19) rfl rfl ?_
    refine w_ic (k := 20) (x := nI 8) rfl (oi_nI 8) ?_
    refine w_n_ne (k := 21) (t' := 27) rfl rfl (by omega) (fun c1 => ?_) (fun c1 => ?_)
    · rw [decide_eq_false (by omega)] at hq
      refine w_ic (k := 27) (x := bI false) rfl rfl ?_
      refine w_rz (k := 28) rfl rfl rfl ?_
      exact hq
    · refine wp_iload (k := 22) rfl rfl ?_
      refine w_ic (k := 23) (x := nI 1) rfl (oi_nI 1) ?_
      refine w_c_ne (k := 24) (t' := 27) rfl rfl (fun c2 => ?_) (fun c2 => ?_)
      · rw [decide_eq_false (fun z => c2 z.2)] at hq
        refine w_ic (k := 27) (x := bI false) rfl rfl ?_
        refine w_rz (k := 28) rfl rfl rfl ?_
        exact hq
      · rw [decide_eq_true ⟨c1, c2⟩] at hq
        refine w_ic (k := 25) (x := bI true) rfl rfl ?_
        refine w_goto (k := 26) (t' := 28) rfl rfl ?_
        refine w_rz (k := 28) rfl rfl rfl ?_
        exact hq
  have b29 : ¬ (k = 6 ∨ k = 20) → ¬ k = 21 → ¬ (k = 18 ∨ k = 22 ∨ k = 32) → (k = 9 ∨ k = 12 ∨ k = 13 ∨ k = 25 ∨ k = 32808) → am_V 37 am_c37 d sh Q 29 [some (.int (nI k)), some (.int (nI s)), some (.int f)] [] (sh, I, L, R) := by
    intro h1 h2 h3 h4
    rw [if_neg h1, if_neg h2, if_neg h3, if_pos h4] at hq
    refine wp_iload (k := 29) rfl rfl ?_
    refine w_ic (k := 30) (x := nI 4) rfl (oi_nI 4) ?_
    refine w_n_ne (k := 31) (t' := 34) rfl rfl (by omega) (fun c1 => ?_) (fun c1 => ?_)
    · rw [decide_eq_false c1] at hq
      refine w_ic (k := 34) (x := bI false) rfl rfl ?_
      refine w_rz (k := 35) rfl rfl rfl ?_
      exact hq
    · rw [decide_eq_true c1] at hq
      refine w_ic (k := 32) (x := bI true) rfl rfl ?_
      refine w_goto (k := 33) (t' := 35) rfl rfl ?_
      refine w_rz (k := 35) rfl rfl rfl ?_
      exact hq
  refine am_enter (ls := [some _, some _, some _]) (cs := am_c37) rfl rfl (Nat.le_of_ble_eq_true rfl) rfl ?_
  refine wp_iload (k := 0) rfl rfl ?_
  by_cases h1 : k = 6 ∨ k = 20
  · have h1' := h1
    rcases h1 with rfl | rfl
    · refine w_sw (k := 1) (t' := 2) rfl (by decide) ?_
      exact b2 h1'
    · refine w_sw (k := 1) (t' := 2) rfl (by decide) ?_
      exact b2 h1'
  · by_cases h2 : k = 21
    · rw [if_neg h1, if_pos h2] at hq
      subst h2
      refine w_sw (k := 1) (t' := 12) rfl (by decide) ?_
      refine wp_iload (k := 12) rfl rfl ?_
      refine w_ic (k := 13) (x := nI 8) rfl (oi_nI 8) ?_
      refine w_n_ne (k := 14) (t' := 17) rfl rfl (by omega) (fun c1 => ?_) (fun c1 => ?_)
      · rw [decide_eq_false c1] at hq
        refine w_ic (k := 17) (x := bI false) rfl rfl ?_
        refine w_rz (k := 18) rfl rfl rfl ?_
        exact hq
      · rw [decide_eq_true c1] at hq
        refine w_ic (k := 15) (x := bI true) rfl rfl ?_
        refine w_goto (k := 16) (t' := 18) rfl rfl ?_
        refine w_rz (k := 18) rfl rfl rfl ?_
        exact hq
    · by_cases h3 : k = 18 ∨ k = 22 ∨ k = 32
      · have h3' := h3
        rcases h3 with rfl | rfl | rfl
        · refine w_sw (k := 1) (t' := 19) rfl (by decide) ?_
          exact b19 h1 h2 h3'
        · refine w_sw (k := 1) (t' := 19) rfl (by decide) ?_
          exact b19 h1 h2 h3'
        · refine w_sw (k := 1) (t' := 19) rfl (by decide) ?_
          exact b19 h1 h2 h3'
      · by_cases h4 : k = 9 ∨ k = 12 ∨ k = 13 ∨ k = 25 ∨ k = 32808
        · have h4' := h4
          rcases h4 with rfl | rfl | rfl | rfl | rfl
          · refine w_sw (k := 1) (t' := 29) rfl (by decide) ?_
            exact b29 h1 h2 h3 h4'
          · refine w_sw (k := 1) (t' := 29) rfl (by decide) ?_
            exact b29 h1 h2 h3 h4'
          · refine w_sw (k := 1) (t' := 29) rfl (by decide) ?_
            exact b29 h1 h2 h3 h4'
          · refine w_sw (k := 1) (t' := 29) rfl (by decide) ?_
            exact b29 h1 h2 h3 h4'
          · refine w_sw (k := 1) (t' := 29) rfl (by decide) ?_
            exact b29 h1 h2 h3 h4'
        · rw [if_neg h1, if_neg h2, if_neg h3, if_neg h4] at hq
          by_cases h5 : k = 10
          · rw [if_pos h5] at hq
            subst h5
            refine w_sw (k := 1) (t' := 36) rfl (by decide) ?_
            refine wp_iload (k := 36) rfl rfl ?_
            refine w_ic (k := 37) (x := nI 2) rfl (oi_nI 2) ?_
            refine wp_irem (k := 38) rfl (by decide) ?_
            rw [pk_rem (by omega) (by decide) (by decide)]
            refine w_m_ne (k := 39) (t' := 42) rfl rfl (by omega) (fun c1 => ?_) (fun c1 => ?_)
            · rw [decide_eq_false c1] at hq
              refine w_ic (k := 42) (x := bI false) rfl rfl ?_
              refine w_rz (k := 43) rfl rfl rfl ?_
              exact hq
            · rw [decide_eq_true c1] at hq
              refine w_ic (k := 40) (x := bI true) rfl rfl ?_
              refine w_goto (k := 41) (t' := 43) rfl rfl ?_
              refine w_rz (k := 43) rfl rfl rfl ?_
              exact hq
          · rw [if_neg h5] at hq
            by_cases h6 : k = 28
            · rw [if_pos h6] at hq
              subst h6
              refine w_sw (k := 1) (t' := 44) rfl (by decide) ?_
              refine wp_iload (k := 44) rfl rfl ?_
              refine w_ic (k := 45) (x := nI 32) rfl (oi_nI 32) ?_
              refine w_n_ne (k := 46) (t' := 49) rfl rfl (by omega) (fun c1 => ?_) (fun c1 => ?_)
              · rw [decide_eq_false c1] at hq
                refine w_ic (k := 49) (x := bI false) rfl rfl ?_
                refine w_rz (k := 50) rfl rfl rfl ?_
                exact hq
              · rw [decide_eq_true c1] at hq
                refine w_ic (k := 47) (x := bI true) rfl rfl ?_
                refine w_goto (k := 48) (t' := 50) rfl rfl ?_
                refine w_rz (k := 50) rfl rfl rfl ?_
                exact hq
            · rw [if_neg h6] at hq
              have ne : ∀ c : Nat, c < 65536 → k ≠ c → nI k ≠ Int32.ofInt (c : Int) := fun c hc hkc z => hkc ((nI_eq (by omega) (by omega)).mp (z.trans (oi_nI c)))
              have e : am_sw 51 (nI k) [(6, 2), (9, 29), (10, 36), (12, 29), (13, 29), (18, 19), (20, 2), (21, 12), (22, 19), (25, 29), (28, 44), (32, 19), (32808, 29)] = 51 := am_sw_no (by
                intro p hp
                simp only [List.mem_cons, List.not_mem_nil, or_false] at hp
                rcases hp with rfl | rfl | rfl | rfl | rfl | rfl | rfl | rfl | rfl | rfl | rfl | rfl | rfl
                · exact ne 6 (by decide) (by omega)
                · exact ne 9 (by decide) (by omega)
                · exact ne 10 (by decide) (by omega)
                · exact ne 12 (by decide) (by omega)
                · exact ne 13 (by decide) (by omega)
                · exact ne 18 (by decide) (by omega)
                · exact ne 20 (by decide) (by omega)
                · exact ne 21 (by decide) (by omega)
                · exact ne 22 (by decide) (by omega)
                · exact ne 25 (by decide) (by omega)
                · exact ne 28 (by decide) (by omega)
                · exact ne 32 (by decide) (by omega)
                · exact ne 32808 (by decide) (by omega))
              refine w_sw (k := 1) (t' := 51) rfl (by show (am_sw 51 (nI k) [(6, 2), (9, 29), (10, 36), (12, 29), (13, 29), (18, 19), (20, 2), (21, 12), (22, 19), (25, 29), (28, 44), (32, 19), (32808, 29)]).toNat = 51; rw [e]; rfl) ?_
              refine w_ic (k := 51) (x := bI true) rfl rfl ?_
              refine w_rz (k := 52) rfl rfl rfl ?_
              exact hq
theorem nar_b (b : Bool) : vp_nar .boolean (bI b) = bI b := by cases b <;> decide
theorem oI_ne {o : Option Nat} {j : Nat} (h : o = some j) (hj : j < 2 ^ 31) : ¬ oI o = -1 := by rw [h]; exact nI_ne1 hj
theorem c_36 (hl : lq sh R l p) (hr : rw_at sh R p b n) (hB : rw_B I p b n B) (hb : b < l ∨ l + 4 < b) (hn : n ≤ 436) (h6 : I l 6 = nI 0) (h7 : I l 7 = -1) (h8 : I l 8 = -1) (hq : ∀ I', I' l 6 = nI (ats B).length → I' l 7 = oI (fin_ B (ats B)) → I' l 8 = oI (fgi B (ats B)) → (∀ i, i < (ats B).length → hat B I' l i ((ats B).getD i a0)) → (∀ x, x < l ∨ l + 4 < x → I' x = I x) → (∀ s, s ≠ 6 → s ≠ 7 → s ≠ 8 → I' l s = I l s) → Q (some (.int (bI (decide (pe B 104 20 = B.length))))) (sh, I', L, R)) : am_call (d + 2) 36 [.ref l] (sh, I, L, R) Q := by
  obtain ⟨l0, l1, l2, l3, l4, r0, r1, r2, r3, r4, l5, lp⟩ := hl
  have rp := hr.1
  have hBl := hB.1
  have loop : ∀ (f i q : Nat) (D : List AT) (I1 : Nat → Nat → Int32), i + f = 104 → D.length = i → D ++ ps B f q = ats B → pe B f q = pe B 104 20 → q ≤ 80000 → I1 l 6 = nI i → I1 l 7 = oI (fin_ B D) → I1 l 8 = oI (fgi B D) → (∀ j, j < D.length → hat B I1 l j (D.getD j a0)) → (∀ x, x < l ∨ l + 4 < x → I1 x = I x) → (∀ s, s ≠ 6 → s ≠ 7 → s ≠ 8 → I1 l s = I l s) → am_V 36 am_c36 (d + 1) sh Q 4 [some (.ref l), some (.int (nI q)), some (.int (nI i))] [] (sh, I1, L, R) := by
    intro f
    induction f with
    | zero =>
      intro i q D I1 hi hD e1 e2 hq8 z6 z7 z8 ha f1 s1
      rw [show ps B 0 q = [] from rfl, List.append_nil] at e1
      subst e1
      have hB1 := rw_keep hB (f1 p (by omega)) (f1 b hb)
      have e2 : q = pe B 104 20 := e2
      refine wp_iload (k := 4) rfl rfl ?_
      refine w_ic (k := 5) (x := nI 104) rfl (oi_nI 104) ?_
      refine w_n_ge (k := 6) (t' := 118) rfl rfl (by omega) (fun zq => ?_) (fun zq => absurd zq (by omega))
      refine wp_iload (k := 118) rfl rfl ?_
      refine wp_aload (k := 119) rfl rfl ?_
      refine w_gr (k := 120) (s := 0) rfl rfl (by first | assumption | rfl) (by first | assumption | rfl) ?_
      refine w_Vi (k := 121) [] rfl rfl rfl (Nat.le_of_ble_eq_true rfl) (by first | assumption | rfl) (Or.inl ⟨rfl, rfl⟩) ?_
      refine (c_82 hr hB1 ?_)
      refine ⟨_, rfl, ?_⟩
      refine w_n_ne (k := 122) (t' := 125) rfl rfl (by omega) (fun c => ?_) (fun c => ?_)
      · refine w_ic (k := 125) (x := bI false) rfl rfl ?_
        refine w_rz (k := 126) rfl rfl rfl ?_
        rw [decide_eq_false (by omega)] at hq
        exact hq I1 (by rw [z6, hD]) z7 z8 ha f1 s1
      · refine w_ic (k := 123) (x := bI true) rfl rfl ?_
        refine w_goto (k := 124) (t' := 126) rfl rfl ?_
        refine w_rz (k := 126) rfl rfl rfl ?_
        rw [decide_eq_true (by omega)] at hq
        exact hq I1 (by rw [z6, hD]) z7 z8 ha f1 s1
    | succ f ih =>
      intro i q D I1 hi hD e1 e2 hq8 z6 z7 z8 ha f1 s1
      have hB1 := rw_keep hB (f1 p (by omega)) (f1 b hb)
      rw [show ps B (f + 1) q = if q + 4 ≤ B.length then (nb B q 2, nb B (q + 2) 2, q + 4) :: ps B f (q + 4 + pad4 (nb B (q + 2) 2)) else [] from rfl] at e1
      rw [show pe B (f + 1) q = if q + 4 ≤ B.length then pe B f (q + 4 + pad4 (nb B (q + 2) 2)) else q from rfl] at e2
      refine wp_iload (k := 4) rfl rfl ?_
      refine w_ic (k := 5) (x := nI 104) rfl (oi_nI 104) ?_
      refine w_n_ge (k := 6) (t' := 118) rfl rfl (by omega) (fun zq => absurd zq (by omega)) (fun zq => ?_)
      refine wp_iload (k := 7) rfl rfl ?_
      refine w_ic (k := 8) (x := nI 4) rfl (oi_nI 4) ?_
      refine w_addN (k := 9) rfl ?_
      refine wp_aload (k := 10) rfl rfl ?_
      refine w_gr (k := 11) (s := 0) rfl rfl (by first | assumption | rfl) (by first | assumption | rfl) ?_
      refine w_Vi (k := 12) [] rfl rfl rfl (Nat.le_of_ble_eq_true rfl) (by first | assumption | rfl) (Or.inl ⟨rfl, rfl⟩) ?_
      refine (c_82 hr hB1 ?_)
      refine ⟨_, rfl, ?_⟩
      refine w_n_gt (k := 13) (t' := 118) rfl rfl (by omega) (fun c => ?_) (fun c => ?_)
      · rw [if_neg (by omega), List.append_nil] at e1
        rw [if_neg (by omega)] at e2
        subst e1
        refine wp_iload (k := 118) rfl rfl ?_
        refine wp_aload (k := 119) rfl rfl ?_
        refine w_gr (k := 120) (s := 0) rfl rfl (by first | assumption | rfl) (by first | assumption | rfl) ?_
        refine w_Vi (k := 121) [] rfl rfl rfl (Nat.le_of_ble_eq_true rfl) (by first | assumption | rfl) (Or.inl ⟨rfl, rfl⟩) ?_
        refine (c_82 hr hB1 ?_)
        refine ⟨_, rfl, ?_⟩
        refine w_n_ne (k := 122) (t' := 125) rfl rfl (by omega) (fun c2 => ?_) (fun c2 => ?_)
        · refine w_ic (k := 125) (x := bI false) rfl rfl ?_
          refine w_rz (k := 126) rfl rfl rfl ?_
          rw [decide_eq_false (by omega)] at hq
          exact hq I1 (by rw [z6, hD]) z7 z8 ha f1 s1
        · refine w_ic (k := 123) (x := bI true) rfl rfl ?_
          refine w_goto (k := 124) (t' := 126) rfl rfl ?_
          refine w_rz (k := 126) rfl rfl rfl ?_
          rw [decide_eq_true (by omega)] at hq
          exact hq I1 (by rw [z6, hD]) z7 z8 ha f1 s1
      · rw [if_pos c] at e1 e2
        have hk := nb_lt hB.2.2.2 q 2
        have hs := nb_lt hB.2.2.2 (q + 2) 2
        have hpad := pad4_ge (nb B (q + 2) 2)
        generalize hkk : nb B q 2 = kk at *
        generalize hss : nb B (q + 2) 2 = ss at *
        refine wp_aload (k := 14) rfl rfl ?_
        refine w_gr (k := 15) (s := 1) rfl rfl (by first | assumption | rfl) (by first | assumption | rfl) ?_
        refine wp_iload (k := 16) rfl rfl ?_
        refine wp_aload (k := 17) rfl rfl ?_
        refine w_gr (k := 18) (s := 0) rfl rfl (by first | assumption | rfl) (by first | assumption | rfl) ?_
        refine wp_iload (k := 19) rfl rfl ?_
        refine w_ic (k := 20) (x := nI 2) rfl (oi_nI 2) ?_
        refine w_Vl (k := 21) [_, _] rfl rfl rfl (Nat.le_of_ble_eq_true rfl) (by first | assumption | rfl) (Or.inl ⟨rfl, rfl⟩) ?_
        refine (c_90 hr hB1 (by omega) ?_)
        refine ⟨_, rfl, ?_⟩
        refine wp_l2i (k := 22) rfl ?_
        rw [hkk, lN_i]
        refine w_iast (k := 23) rfl rfl (by omega) (by first | assumption | rfl) (by omega) ?_
        refine wp_aload (k := 24) rfl rfl ?_
        refine w_gr (k := 25) (s := 2) rfl rfl (by first | assumption | rfl) (by first | assumption | rfl) ?_
        refine wp_iload (k := 26) rfl rfl ?_
        refine wp_aload (k := 27) rfl rfl ?_
        refine w_gr (k := 28) (s := 0) rfl rfl (by first | assumption | rfl) (by first | assumption | rfl) ?_
        refine wp_iload (k := 29) rfl rfl ?_
        refine w_ic (k := 30) (x := nI 2) rfl (oi_nI 2) ?_
        refine w_addN (k := 31) rfl ?_
        refine w_ic (k := 32) (x := nI 2) rfl (oi_nI 2) ?_
        refine w_Vl (k := 33) [_, _] rfl rfl rfl (Nat.le_of_ble_eq_true rfl) (by first | assumption | rfl) (Or.inl ⟨rfl, rfl⟩) ?_
        refine (c_90 hr (rw_keep hB1 (am_uR (by omega)) (am_uR (by omega))) (by omega) ?_)
        refine ⟨_, rfl, ?_⟩
        refine wp_l2i (k := 34) rfl ?_
        rw [hss, lN_i]
        refine w_iast (k := 35) rfl rfl (by omega) (by first | assumption | rfl) (by omega) ?_
        refine wp_aload (k := 36) rfl rfl ?_
        refine w_gr (k := 37) (s := 3) rfl rfl (by first | assumption | rfl) (by first | assumption | rfl) ?_
        refine wp_iload (k := 38) rfl rfl ?_
        refine wp_iload (k := 39) rfl rfl ?_
        refine w_ic (k := 40) (x := nI 4) rfl (oi_nI 4) ?_
        refine w_addN (k := 41) rfl ?_
        refine w_iast (k := 42) rfl rfl (by omega) (by first | assumption | rfl) (by omega) ?_
        refine wp_aload (k := 43) rfl rfl ?_
        refine w_gr (k := 44) (s := 4) rfl rfl (by first | assumption | rfl) (by first | assumption | rfl) ?_
        refine wp_iload (k := 45) rfl rfl ?_
        have hB4 : rw_B (am_u (am_u (am_u I1 (l + 1) i (nI kk)) (l + 2) i (nI ss)) (l + 3) i (nI (q + 4))) p b n B := rw_keep hB1 (by rw [am_uR (by omega), am_uR (by omega), am_uR (by omega)]) (by rw [am_uR (by omega), am_uR (by omega), am_uR (by omega)])
        refine wp_aload (k := 46) rfl rfl ?_
        refine w_gr (k := 47) (s := 1) rfl rfl (by first | assumption | rfl) (by first | assumption | rfl) ?_
        refine wp_iload (k := 48) rfl rfl ?_
        refine w_iald (k := 49) rfl rfl (by first | assumption | rfl) (by omega) (am_uv (by omega) (am_uv (by omega) am_us)) ?_
        refine wp_aload (k := 50) rfl rfl ?_
        refine w_gr (k := 51) (s := 2) rfl rfl (by first | assumption | rfl) (by first | assumption | rfl) ?_
        refine wp_iload (k := 52) rfl rfl ?_
        refine w_iald (k := 53) rfl rfl (by first | assumption | rfl) (by omega) (am_uv (by omega) am_us) ?_
        refine wp_aload (k := 54) rfl rfl ?_
        refine w_gr (k := 55) (s := 0) rfl rfl (by first | assumption | rfl) (by first | assumption | rfl) ?_
        refine wp_aload (k := 56) rfl rfl ?_
        refine w_gr (k := 57) (s := 3) rfl rfl (by first | assumption | rfl) (by first | assumption | rfl) ?_
        refine wp_iload (k := 58) rfl rfl ?_
        refine w_iald (k := 59) rfl rfl (by first | assumption | rfl) (by omega) am_us ?_
        refine w_ic (k := 60) (x := nI 1) rfl (oi_nI 1) ?_
        refine w_addN (k := 61) rfl ?_
        refine w_Vi (k := 62) [_] rfl rfl rfl (Nat.le_of_ble_eq_true rfl) (by first | assumption | rfl) (Or.inl ⟨rfl, rfl⟩) ?_
        refine (c_84 hr hB4 ?_)
        refine ⟨_, rfl, ?_⟩
        refine w_Si (k := 63) [_, _, _] rfl rfl rfl (Nat.le_of_ble_eq_true rfl) (Or.inl ⟨rfl, rfl⟩) ?_
        refine (c_37 (by omega) (by omega) ?_)
        refine ⟨_, rfl, ?_⟩
        refine w_cast (k := 64) rfl rfl (by first | assumption | rfl) (by omega) (nar_b _) ?_
        have hsd : sndf kk ss (byA B (nI (q + 4 + 1))) = snd_ B (kk, ss, q + 4) := rfl
        rw [hsd]
        generalize hI2 : am_u (am_u (am_u (am_u I1 (l + 1) i (nI kk)) (l + 2) i (nI ss)) (l + 3) i (nI (q + 4))) (l + 4) i (bI (snd_ B (kk, ss, q + 4))) = I2
        have g2 : ∀ x, x < l + 1 ∨ l + 4 < x → I2 x = I1 x := fun x hx => by rw [← hI2, am_uR (by omega), am_uR (by omega), am_uR (by omega), am_uR (by omega)]
        have w1 : I2 (l + 1) i = nI kk := by rw [← hI2]; exact am_uv (by omega) (am_uv (by omega) (am_uv (by omega) am_us))
        have w2 : I2 (l + 2) i = nI ss := by rw [← hI2]; exact am_uv (by omega) (am_uv (by omega) am_us)
        have w3 : I2 (l + 3) i = nI (q + 4) := by rw [← hI2]; exact am_uv (by omega) am_us
        have w4 : I2 (l + 4) i = bI (snd_ B (kk, ss, q + 4)) := by rw [← hI2]; exact am_us
        have ha2 : ∀ j, j < (D ++ [(kk, ss, q + 4)]).length → hat B I2 l j ((D ++ [(kk, ss, q + 4)]).getD j a0) := by
          intro j hj
          have hj : j < D.length + 1 := by simpa using hj
          rw [gD_app hj]
          by_cases e : j = D.length
          · rw [if_pos e, e, hD]
            exact ⟨w1, w2, w3, w4⟩
          · rw [if_neg e]
            have := ha j (by omega)
            unfold hat at this ⊢
            rw [← hI2]
            simp [am_u_app, show ¬ j = i by omega]
            exact this
        have hs6 : I2 l = I1 l := g2 l (by omega)
        have hfin := ff_app (B := B) (D := D) (x := (kk, ss, q + 4)) (fun a => snd_ B a && decide (a.1 = 28))
        have hfg := ff_app (B := B) (D := D) (x := (kk, ss, q + 4)) (fun a => snd_ B a && decide (a.1 = 32808))
        -- the size, and on
        have tail : ∀ (I3 : Nat → Nat → Int32), (∀ x, x ≠ l → I3 x = I2 x) → (∀ s, s ≠ 7 → s ≠ 8 → I3 l s = I1 l s) → I3 l 7 = oI (fin_ B (D ++ [(kk, ss, q + 4)])) → I3 l 8 = oI (fgi B (D ++ [(kk, ss, q + 4)])) → am_V 36 am_c36 (d + 1) sh Q 101 [some (.ref l), some (.int (nI q)), some (.int (nI i))] [] (sh, I3, L, R) := by
          intro I3 x3 y3 t7 t8
          refine wp_aload (k := 101) rfl rfl ?_
          refine wp_iload (k := 102) rfl rfl ?_
          refine w_ic (k := 103) (x := nI 1) rfl (oi_nI 1) ?_
          refine w_addN (k := 104) rfl ?_
          refine w_pi (k := 105) (s := 6) rfl rfl (by first | assumption | rfl) ?_
          refine wp_iload (k := 106) rfl rfl ?_
          refine w_ic (k := 107) (x := nI 4) rfl (oi_nI 4) ?_
          refine wp_aload (k := 108) rfl rfl ?_
          refine w_gr (k := 109) (s := 2) rfl rfl (by first | assumption | rfl) (by first | assumption | rfl) ?_
          refine wp_iload (k := 110) rfl rfl ?_
          refine w_iald (k := 111) rfl rfl (by first | assumption | rfl) (by omega) (am_uv (by omega) (show I3 (l + 2) i = nI ss by rw [x3 _ (by omega)]; exact w2)) ?_
          refine w_Si (k := 112) [_] rfl rfl rfl (Nat.le_of_ble_eq_true rfl) (Or.inl ⟨rfl, rfl⟩) ?_
          refine (c_58 (by omega) ?_)
          refine ⟨_, rfl, ?_⟩
          refine w_addN (k := 113) rfl ?_
          refine w_addN (k := 114) rfl ?_
          refine wp_istore (k := 115) rfl rfl ?_
          refine w_incN (k := 116) (m := 1) rfl (oi_nI 1) rfl ?_
          refine w_goto (k := 117) (t' := 4) rfl rfl ?_
          rw [show q + (4 + pad4 ss) = q + 4 + pad4 ss by omega]
          refine ih (i + 1) _ (D ++ [(kk, ss, q + 4)]) _ (by omega) (by simp [hD]) (by rw [← e1]; simp) e2 (by omega) am_us ?_ ?_ (fun j hj => ?_) (fun x hx => ?_) (fun s a b c => ?_)
          · rw [am_uw (by decide) rfl]; exact t7
          · rw [am_uw (by decide) rfl]; exact t8
          · have := ha2 j hj
            unfold hat at this ⊢
            rw [am_uR (by omega), am_uR (by omega), am_uR (by omega), am_uR (by omega), x3 _ (by omega), x3 _ (by omega), x3 _ (by omega), x3 _ (by omega)]
            exact this
          · rw [am_uR (by omega), x3 x (by omega), g2 x (by omega), f1 x hx]
          · rw [am_uw a rfl, y3 s b c, s1 s a b c]
        -- FINGERPRINT
        have fgp : ∀ (I3 : Nat → Nat → Int32), (∀ x, x ≠ l → I3 x = I2 x) → (∀ s, s ≠ 7 → I3 l s = I1 l s) → I3 l 7 = oI (fin_ B (D ++ [(kk, ss, q + 4)])) → am_V 36 am_c36 (d + 1) sh Q 83 [some (.ref l), some (.int (nI q)), some (.int (nI i))] [] (sh, I3, L, R) := by
          intro I3 x3 y3 t7
          have v4 : I3 (l + 4) i = bI (snd_ B (kk, ss, q + 4)) := by rw [x3 _ (by omega)]; exact w4
          have v1 : I3 (l + 1) i = nI kk := by rw [x3 _ (by omega)]; exact w1
          have v8 : I3 l 8 = oI (fgi B D) := by rw [y3 8 (by decide)]; exact z8
          have keep : fgi B (D ++ [(kk, ss, q + 4)]) = fgi B D → am_V 36 am_c36 (d + 1) sh Q 101 [some (.ref l), some (.int (nI q)), some (.int (nI i))] [] (sh, I3, L, R) := fun hk => tail I3 x3 (fun s a b => y3 s a) t7 (by rw [hk]; exact v8)
          refine wp_aload (k := 83) rfl rfl ?_
          refine w_gr (k := 84) (s := 4) rfl rfl (by first | assumption | rfl) (by first | assumption | rfl) ?_
          refine wp_iload (k := 85) rfl rfl ?_
          refine w_cald (k := 86) rfl rfl (by first | assumption | rfl) (by omega) v4 ?_
          refine w_b_eq (k := 87) (t' := 101) rfl rfl (fun k1 => ?_) (fun k1 => ?_)
          · refine keep ?_
            unfold fgi
            rw [hfg]
            cases hf : ff (fun i => snd_ B (D.getD i a0) && decide ((D.getD i a0).1 = 32808)) 0 D.length with
            | some j => rfl
            | none => simp [k1]
          · refine wp_aload (k := 88) rfl rfl ?_
            refine w_gr (k := 89) (s := 1) rfl rfl (by first | assumption | rfl) (by first | assumption | rfl) ?_
            refine wp_iload (k := 90) rfl rfl ?_
            refine w_iald (k := 91) rfl rfl (by first | assumption | rfl) (by omega) v1 ?_
            refine w_ic (k := 92) (x := nI 32808) rfl (oi_nI 32808) ?_
            refine w_n_ne (k := 93) (t' := 101) rfl rfl (by omega) (fun k2 => ?_) (fun k2 => ?_)
            · refine keep ?_
              unfold fgi
              rw [hfg]
              cases hf : ff (fun i => snd_ B (D.getD i a0) && decide ((D.getD i a0).1 = 32808)) 0 D.length with
              | some j => rfl
              | none => simp [k2]
            · cases hf : fgi B D with
              | some j =>
                have hj : j < D.length := by obtain ⟨-, h2, -⟩ := ff_some hf; omega
                rw [hf] at v8
                refine wp_aload (k := 94) rfl rfl ?_
                refine w_gi (k := 95) (s := 8) rfl rfl (by first | assumption | rfl) v8 ?_
                refine w_ic (k := 96) (x := (-1)) rfl (by decide) ?_
                refine w_c_ne (k := 97) (t' := 101) rfl rfl (fun zq => ?_) (fun zq => absurd zq (nI_ne1 (by omega)))
                refine keep ?_
                rw [hf]
                unfold fgi at hf ⊢
                rw [hfg, hf]
              | none =>
                rw [hf] at v8
                refine wp_aload (k := 94) rfl rfl ?_
                refine w_gi (k := 95) (s := 8) rfl rfl (by first | assumption | rfl) v8 ?_
                refine w_ic (k := 96) (x := (-1)) rfl (by decide) ?_
                refine w_c_ne (k := 97) (t' := 101) rfl rfl (fun zq => absurd rfl zq) (fun zq => ?_)
                refine wp_aload (k := 98) rfl rfl ?_
                refine wp_iload (k := 99) rfl rfl ?_
                refine w_pi (k := 100) (s := 8) rfl rfl (by first | assumption | rfl) ?_
                refine tail _ (fun x hx => by rw [am_uR hx, x3 x hx]) (fun s a b => by rw [am_uw b rfl, y3 s a]) (by rw [am_uw (by decide) rfl]; exact t7) ?_
                rw [am_us]
                unfold fgi at hf ⊢
                rw [hfg, hf]
                show nI i = oI (if (snd_ B (kk, ss, q + 4) && decide (kk = 32808)) = true then some D.length else none)
                rw [if_pos (by rw [k1, decide_eq_true k2]; rfl), hD]
                rfl
        have v7 : I2 l 7 = oI (fin_ B D) := by rw [hs6]; exact z7
        have keep : fin_ B (D ++ [(kk, ss, q + 4)]) = fin_ B D → am_V 36 am_c36 (d + 1) sh Q 83 [some (.ref l), some (.int (nI q)), some (.int (nI i))] [] (sh, I2, L, R) := fun hk => fgp I2 (fun _ _ => rfl) (fun s _ => by rw [hs6]) (by rw [hk]; exact v7)
        refine wp_aload (k := 65) rfl rfl ?_
        refine w_gr (k := 66) (s := 4) rfl rfl (by first | assumption | rfl) (by first | assumption | rfl) ?_
        refine wp_iload (k := 67) rfl rfl ?_
        refine w_cald (k := 68) rfl rfl (by first | assumption | rfl) (by omega) w4 ?_
        refine w_b_eq (k := 69) (t' := 83) rfl rfl (fun k1 => ?_) (fun k1 => ?_)
        · refine keep ?_
          unfold fin_
          rw [hfin]
          cases hf : ff (fun i => snd_ B (D.getD i a0) && decide ((D.getD i a0).1 = 28)) 0 D.length with
          | some j => rfl
          | none => simp [k1]
        · refine wp_aload (k := 70) rfl rfl ?_
          refine w_gr (k := 71) (s := 1) rfl rfl (by first | assumption | rfl) (by first | assumption | rfl) ?_
          refine wp_iload (k := 72) rfl rfl ?_
          refine w_iald (k := 73) rfl rfl (by first | assumption | rfl) (by omega) w1 ?_
          refine w_ic (k := 74) (x := nI 28) rfl (oi_nI 28) ?_
          refine w_n_ne (k := 75) (t' := 83) rfl rfl (by omega) (fun k2 => ?_) (fun k2 => ?_)
          · refine keep ?_
            unfold fin_
            rw [hfin]
            cases hf : ff (fun i => snd_ B (D.getD i a0) && decide ((D.getD i a0).1 = 28)) 0 D.length with
            | some j => rfl
            | none => simp [k2]
          · cases hf : fin_ B D with
            | some j =>
              have hj : j < D.length := by obtain ⟨-, h2, -⟩ := ff_some hf; omega
              rw [hf] at v7
              refine wp_aload (k := 76) rfl rfl ?_
              refine w_gi (k := 77) (s := 7) rfl rfl (by first | assumption | rfl) v7 ?_
              refine w_ic (k := 78) (x := (-1)) rfl (by decide) ?_
              refine w_c_ne (k := 79) (t' := 83) rfl rfl (fun zq => ?_) (fun zq => absurd zq (nI_ne1 (by omega)))
              refine keep ?_
              rw [hf]
              unfold fin_ at hf ⊢
              rw [hfin, hf]
            | none =>
              rw [hf] at v7
              refine wp_aload (k := 76) rfl rfl ?_
              refine w_gi (k := 77) (s := 7) rfl rfl (by first | assumption | rfl) v7 ?_
              refine w_ic (k := 78) (x := (-1)) rfl (by decide) ?_
              refine w_c_ne (k := 79) (t' := 83) rfl rfl (fun zq => absurd rfl zq) (fun zq => ?_)
              refine wp_aload (k := 80) rfl rfl ?_
              refine wp_iload (k := 81) rfl rfl ?_
              refine w_pi (k := 82) (s := 7) rfl rfl (by first | assumption | rfl) ?_
              refine fgp _ (fun x hx => am_uR hx) (fun s a => by rw [am_uw a rfl, hs6]) ?_
              rw [am_us]
              unfold fin_ at hf ⊢
              rw [hfin, hf]
              show nI i = oI (if (snd_ B (kk, ss, q + 4) && decide (kk = 28)) = true then some D.length else none)
              rw [if_pos (by rw [k1, decide_eq_true k2]; rfl), hD]
              rfl
  refine am_enter (ls := [some _, none, none]) (cs := am_c36) rfl rfl (Nat.le_of_ble_eq_true rfl) rfl ?_
  refine w_ic (k := 0) (x := nI 20) rfl (oi_nI 20) ?_
  refine wp_istore (k := 1) rfl rfl ?_
  refine w_ic (k := 2) (x := nI 0) rfl (oi_nI 0) ?_
  refine wp_istore (k := 3) rfl rfl ?_
  exact loop 104 0 20 [] I (by omega) rfl rfl rfl (by decide) h6 h7 h8 (fun j hj => absurd hj (Nat.not_lt_zero j)) (fun _ _ => rfl) (fun _ _ _ _ => rfl)
end LT
