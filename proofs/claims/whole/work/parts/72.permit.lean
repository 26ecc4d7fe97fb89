/-! ===== CREATE_PERMISSION and CHANNEL_BIND: the class ===== -/
def nwp (P : PM) (X : List Int32) : Nat := X.countP (fun x => (pf P x).isNone)
def pms (t : Int64) (P : PM) (X : List Int32) : PM := X.foldl (fun P x => pmt P x (t + lN 300)) P
def ppr (al : Nat → Option AL) (t : Int64) (F : FR) (B : List Nat) (k : Nat) (a : AL) : PR :=
  if (prs B (cts B)).length = 0 then (400, al, 0, 0) else if (prs B (cts B)).any (brd F) then (403, al, 0, 0) else if a.2.2.2.1.length + nwp a.2.2.2.1 (prs B (cts B)) ≤ 16 then (0, upa al k (some (a.1, a.2.1, a.2.2.1, pms t a.2.2.2.1 (prs B (cts B)), a.2.2.2.2)), 0, 0) else (508, al, 0, 0)
def bch (al : Nat → Option AL) (t : Int64) (F : FR) (B : List Nat) (k : Nat) (a : AL) : PR := match fnd B 12 with
  | none => (400, al, 0, 0)
  | some c => match fnd B 18 with
    | none => (400, al, 0, 0)
    | some p => if (16384 ≤ nb B (stA B c) 2 ∧ nb B (stA B c) 2 ≤ 20479) ∧ cf a.2.2.2.2 (nI (nb B (stA B c) 2)) = ct a.2.2.2.2 (ipo B p) (poo B p) then (if brd F (ipo B p) then (403, al, 0, 0) else if ((cf a.2.2.2.2 (nI (nb B (stA B c) 2))).isSome || decide (a.2.2.2.2.length < 8)) && ((pf a.2.2.2.1 (ipo B p)).isSome || decide (a.2.2.2.1.length < 16)) then (0, upa al k (some (a.1, a.2.1, a.2.2.1, pmt a.2.2.2.1 (ipo B p) (t + lN 300), cbd a.2.2.2.2 (nI (nb B (stA B c) 2)) (ipo B p) (poo B p) (t + lN 600))), 0, 0) else (508, al, 0, 0)) else (400, al, 0, 0)
theorem tkD {α : Type} {X : List α} (d : α) {i : Nat} (h : i < X.length) : X.take (i + 1) = X.take i ++ [X.getD i d] := by
  rw [List.take_add_one, List.getElem?_eq_getElem h, List.getD_eq_getElem?_getD, List.getElem?_eq_getElem h]; rfl
theorem oI_inj {a b : Option Nat} (ha : ∀ i, a = some i → i < 2 ^ 31) (hb : ∀ i, b = some i → i < 2 ^ 31) : oI a = oI b ↔ a = b := by
  constructor
  · intro h
    cases a with
    | none =>
      cases b with
      | none => rfl
      | some j => exact absurd h.symm (nI_ne1 (hb j rfl))
    | some i =>
      cases b with
      | none => exact absurd h (nI_ne1 (ha i rfl))
      | some j =>
        have h : nI i = nI j := h
        have := congrArg uI h
        rw [uI_nI (by have := ha i rfl; omega), uI_nI (by have := hb j rfl; omega)] at this
        rw [this]
  · intro h; rw [h]
section PP
variable {d N : Nat} {I : Nat → Nat → Int32} {L : Nat → Nat → Int64} {w : Option Nat} {Q : am_Q} {A : List Nat} {al : Nat → Option AL} {t : Int64} {ip port sg n : Int32} {F : FR}
theorem c_9 {q m : Nat} {P : PM} {X : List Int32} (qa : aq (am_SH N) (am_RR w) q) (h : pm_c I L q P) (hm : (am_SH N)[m]? = some (50, 31)) (hX : X.length ≤ 31) (hv : ∀ i, i < X.length → I m i = X.getD i 0) (hq : Q (some (.int (bI (decide (P.length + nwp P X ≤ 16))))) (am_SH N, I, L, am_RR w)) : am_call (d + 2) 9 [.ref q, .ref m, .int (nI X.length)] (am_SH N, I, L, am_RR w) Q := by
  have q0 := qa.1
  have hP := h.2.1
  have loop : ∀ (r i : Nat), i + r = X.length → am_V 9 am_c9 (d + 1) (am_SH N) Q 4 [some (.ref q), some (.ref m), some (.int (nI X.length)), some (.int (nI (nwp P (X.take i)))), some (.int (nI i))] [] (am_SH N, I, L, am_RR w) := by
    intro r
    induction r with
    | zero =>
      intro i hi
      rw [List.take_of_length_le (by omega)]
      have hle : nwp P X ≤ X.length := List.countP_le_length
      refine wp_iload (k := 4) rfl rfl ?_
      refine wp_iload (k := 5) rfl rfl ?_
      refine w_n_ge (k := 6) (t' := 21) rfl rfl (by omega) (fun zq => ?_) (fun zq => absurd zq (by omega))
      refine wp_aload (k := 21) rfl rfl ?_
      refine w_gi (k := 22) (s := 10) rfl rfl (by first | assumption | rfl) h.1 ?_
      refine wp_iload (k := 23) rfl rfl ?_
      refine w_addN (k := 24) rfl ?_
      refine w_ic (k := 25) (x := nI 16) rfl (oi_nI 16) ?_
      refine w_n_gt (k := 26) (t' := 29) rfl rfl (by omega) (fun k1 => ?_) (fun k1 => ?_)
      · rw [decide_eq_false (by omega)] at hq
        refine w_ic (k := 29) (x := bI false) rfl rfl ?_
        refine w_rz (k := 30) rfl rfl rfl ?_
        exact hq
      · rw [decide_eq_true (by omega)] at hq
        refine w_ic (k := 27) (x := bI true) rfl rfl ?_
        refine w_goto (k := 28) (t' := 30) rfl rfl ?_
        refine w_rz (k := 30) rfl rfl rfl ?_
        exact hq
    | succ r ih =>
      intro i hi
      have hle : nwp P (X.take i) ≤ i := Nat.le_trans List.countP_le_length (by rw [List.length_take]; omega)
      have e : nwp P (X.take (i + 1)) = nwp P (X.take i) + if (pf P (X.getD i 0)).isNone then 1 else 0 := by
        unfold nwp
        rw [tkD 0 (by omega), List.countP_append, List.countP_cons, List.countP_nil]
        simp
      refine wp_iload (k := 4) rfl rfl ?_
      refine wp_iload (k := 5) rfl rfl ?_
      refine w_n_ge (k := 6) (t' := 21) rfl rfl (by omega) (fun zq => absurd zq (by omega)) (fun zq => ?_)
      refine wp_iload (k := 7) rfl rfl ?_
      refine wp_aload (k := 8) rfl rfl ?_
      refine w_alen (k := 9) rfl (by first | assumption | rfl) (by decide) ?_
      refine w_n_ge (k := 10) (t' := 21) rfl rfl (by omega) (fun zq => absurd zq (by omega)) (fun zq => ?_)
      refine wp_aload (k := 11) rfl rfl ?_
      refine wp_aload (k := 12) rfl rfl ?_
      refine wp_iload (k := 13) rfl rfl ?_
      refine w_iald (k := 14) rfl rfl (by first | assumption | rfl) (by omega) (hv i (by omega)) ?_
      refine w_Vi (k := 15) [_] rfl rfl rfl (Nat.le_of_ble_eq_true rfl) (by first | assumption | rfl) (Or.inl ⟨rfl, rfl⟩) ?_
      refine (c_7 qa h ?_)
      refine ⟨_, rfl, ?_⟩
      refine w_ic (k := 16) (x := (-1)) rfl (by decide) ?_
      cases hf : pf P (X.getD i 0) with
      | none =>
        rw [hf] at e
        refine w_c_ne (k := 17) (t' := 19) rfl rfl (fun zq => absurd (show oI none = -1 from rfl) zq) (fun zq => ?_)
        refine w_incN (k := 18) (m := 1) rfl (oi_nI 1) rfl ?_
        refine w_incN (k := 19) (m := 1) rfl (oi_nI 1) rfl ?_
        refine w_goto (k := 20) (t' := 4) rfl rfl ?_
        have := ih (i + 1) (by omega)
        rw [e] at this
        exact this
      | some j =>
        rw [hf] at e
        have := (pf_lt hf).1
        refine w_c_ne (k := 17) (t' := 19) rfl rfl (fun zq => ?_) (fun zq => absurd zq (nI_ne1 (by omega)))
        refine w_incN (k := 19) (m := 1) rfl (oi_nI 1) rfl ?_
        refine w_goto (k := 20) (t' := 4) rfl rfl ?_
        have := ih (i + 1) (by omega)
        rw [e] at this
        exact this
  refine am_enter (ls := [some _, some _, some _, none, none]) (cs := am_c9) rfl rfl (Nat.le_of_ble_eq_true rfl) rfl ?_
  refine w_ic (k := 0) (x := nI 0) rfl (oi_nI 0) ?_
  refine wp_istore (k := 1) rfl rfl ?_
  refine w_ic (k := 2) (x := nI 0) rfl (oi_nI 0) ?_
  refine wp_istore (k := 3) rfl rfl ?_
  exact loop X.length 0 (by omega)
theorem c_115 (h : tbc I L al) (ht : L 24 1 = t) (hA : cT I A) (hl : lr_ I 94 A) (hm : msg A = true) (hF : fn_c I F) (hok : fn_ok F) {k : Nat} (hk : k < 8) {a : AL} (ha : al k = some a) (hq : ∀ I' L', tbc I' L' (ppr al t F A k a).2.1 → (∀ x, x < 26 ∨ (81 < x ∧ x ≠ 93) → I' x = I x) → (∀ x, x < 26 ∨ 81 < x → L' x = L x) → Q (some (.int (nI (ppr al t F A k a).1))) (am_SH N, I', L', am_RR w)) : am_call (d + 3) 115 [.ref 91, .ref (26 + 7 * k)] (am_SH N, I, L, am_RR w) Q := by
  have hA4 := hA.1
  have qa := aq_of N w hk
  have q0 := qa.1
  refine am_enter (ls := [some _, some _, none, none]) (cs := am_c115) rfl rfl (Nat.le_of_ble_eq_true rfl) rfl ?_
  refine wp_aload (k := 0) rfl rfl ?_
  refine w_gr (k := 1) (s := 6) rfl rfl (by first | assumption | rfl) (by first | assumption | rfl) ?_
  refine wp_aload (k := 2) rfl rfl ?_
  refine w_gr (k := 3) (s := 9) rfl rfl (by first | assumption | rfl) (by first | assumption | rfl) ?_
  refine w_Vi (k := 4) [_] rfl rfl rfl (Nat.le_of_ble_eq_true rfl) (by first | assumption | rfl) (Or.inl ⟨rfl, rfl⟩) ?_
  refine (c_51 (lqT N w) (rwT N w) hA hA4 hl hm rfl (by decide) (by decide) (by decide) (fun I1 v1 x1 f1 => ⟨_, rfl, ?_⟩))
  refine wp_istore (k := 5) rfl rfl ?_
  have F1 : fc [93] I I1 := fc_1 (a := 93) f1 (by decide)
  have h1 : tbc I1 L al := tbc_k h (fun x _ _ => f1 x (by omega)) (fun _ _ _ => rfl)
  have hF1 : fn_c I1 F := ⟨by rw [f1 21 (by decide)]; exact hF.1, fun i hi => by rw [f1 22 (by decide), f1 23 (by decide)]; exact hF.2 i hi⟩
  have ho := h1 k hk
  rw [ha] at ho
  have ho : ac I1 L (26 + 7 * k) a := ho
  have stay : ∀ e, ppr al t F A k a = (e, al, 0, 0) → Q (some (.int (nI e))) (am_SH N, I1, L, am_RR w) := fun e he => by
    rw [he] at hq
    exact hq I1 L h1 (fun x hx => f1 x (by omega)) (fun _ _ => rfl)
  have ax : ppr al t F A k a = if (prs A (cts A)).length = 0 then (400, al, 0, 0) else if (prs A (cts A)).any (brd F) then (403, al, 0, 0) else if a.2.2.2.1.length + nwp a.2.2.2.1 (prs A (cts A)) ≤ 16 then (0, upa al k (some (a.1, a.2.1, a.2.2.1, pms t a.2.2.2.1 (prs A (cts A)), a.2.2.2.2)), 0, 0) else (508, al, 0, 0) := rfl
  generalize prs A (cts A) = X at *
  obtain ⟨a1, a2, a3, a4, a5, a6, a7, a8, a9, a10⟩ := id ho
  have hlast : ∀ (r i : Nat) (I2 : Nat → Nat → Int32) (L2 : Nat → Nat → Int64), i + r = X.length → X.any (brd F) = false → ¬ X.length = 0 → a.2.2.2.1.length + nwp a.2.2.2.1 X ≤ 16 → pm_c I2 L2 (26 + 7 * k) (pms t a.2.2.2.1 (X.take i)) → (∀ x, x ≠ 26 + 7 * k → x ≠ 26 + 7 * k + 1 → I2 x = I1 x) → (∀ s, s ≠ 10 → I2 (26 + 7 * k) s = I1 (26 + 7 * k) s) → (∀ x, x ≠ 26 + 7 * k + 2 → L2 x = L x) → am_V 115 am_c115 (d + 2) (am_SH N) Q 40 [some (.ref 91), some (.ref (26 + 7 * k)), some (.int (nI X.length)), some (.int (nI i))] [] (am_SH N, I2, L2, am_RR w) := by
    intro r
    induction r with
    | zero =>
      intro i I2 L2 hi k1 k0 k2 p2 f2 g2 e2
      rw [List.take_of_length_le (by omega)] at p2
      rw [if_neg k0, if_neg (by rw [k1]; decide), if_pos k2] at ax
      rw [ax] at hq
      simp only at hq
      refine wp_iload (k := 40) rfl rfl ?_
      refine wp_iload (k := 41) rfl rfl ?_
      refine w_n_ge (k := 42) (t' := 59) rfl rfl (by omega) (fun zq => ?_) (fun zq => absurd zq (by omega))
      refine w_ic (k := 59) (x := nI 0) rfl (oi_nI 0) ?_
      refine w_ri (k := 60) rfl rfl rfl rfl ?_
      refine hq I2 L2 (tbc_u (k := k) (o := some _) h1 (fun x hx => f2 x (by omega) (by omega)) (fun x hx => e2 x (by omega)) ?_) (fun x hx => by rw [f2 x (by omega) (by omega), f1 x (by omega)]) (fun x hx => e2 x (by omega))
      exact ⟨by rw [g2 _ (by decide)]; exact a1, by rw [g2 _ (by decide)]; exact a2, by rw [g2 _ (by decide)]; exact a3, by rw [g2 _ (by decide)]; exact a4, by rw [g2 _ (by decide)]; exact a5, by rw [e2 _ (by omega)]; exact a6, by rw [e2 _ (by omega)]; exact a7, by rw [g2 _ (by decide)]; exact a8, p2, ch_k a10 (g2 _ (by decide)) (f2 _ (by omega) (by omega)) (f2 _ (by omega) (by omega)) (f2 _ (by omega) (by omega)) (e2 _ (by omega))⟩
    | succ r ih =>
      intro i I2 L2 hi k1 k0 k2 p2 f2 g2 e2
      have hv : I2 93 i = X.getD i 0 := by rw [f2 93 (by omega) (by omega)]; exact v1 i (by omega)
      have ht2 : L2 24 1 = t := by rw [e2 24 (by omega)]; exact ht
      refine wp_iload (k := 40) rfl rfl ?_
      refine wp_iload (k := 41) rfl rfl ?_
      refine w_n_ge (k := 42) (t' := 59) rfl rfl (by omega) (fun zq => absurd zq (by omega)) (fun zq => ?_)
      refine wp_iload (k := 43) rfl rfl ?_
      refine w_ic (k := 44) (x := nI 31) rfl (oi_nI 31) ?_
      refine w_n_ge (k := 45) (t' := 59) rfl rfl (by omega) (fun zq => absurd zq (by omega)) (fun zq => ?_)
      refine wp_aload (k := 46) rfl rfl ?_
      refine wp_aload (k := 47) rfl rfl ?_
      refine w_gr (k := 48) (s := 9) rfl rfl (by first | assumption | rfl) (by first | assumption | rfl) ?_
      refine wp_iload (k := 49) rfl rfl ?_
      refine w_iald (k := 50) rfl rfl (by first | assumption | rfl) (by omega) hv ?_
      refine wp_aload (k := 51) rfl rfl ?_
      refine w_gr (k := 52) (s := 3) rfl rfl (by first | assumption | rfl) (by first | assumption | rfl) ?_
      refine w_Vl (k := 53) [] rfl rfl rfl (Nat.le_of_ble_eq_true rfl) (by first | assumption | rfl) (Or.inl ⟨rfl, rfl⟩) ?_
      refine am_enter (ls := [some _]) (cs := am_c22) rfl rfl (Nat.le_of_ble_eq_true rfl) rfl ?_
      refine wp_aload (k := 0) rfl rfl ?_
      refine w_gl (k := 1) (s := 1) rfl rfl (by first | assumption | rfl) (by first | assumption | rfl) ?_
      refine w_rl (k := 2) rfl rfl rfl rfl ?_
      refine ⟨_, rfl, ?_⟩
      refine w_lc (k := 54) (x := lN 300) rfl (ol_lN 300) ?_
      refine wp_ladd (k := 55) rfl ?_
      refine w_Vv (k := 56) [_, _] rfl rfl rfl (Nat.le_of_ble_eq_true rfl) (by first | assumption | rfl) (Or.inl ⟨rfl, rfl⟩) ?_
      refine (c_10 qa p2 (fun I3 L3 p3 f3 g3 e3 => ⟨rfl, ?_⟩))
      refine w_incN (k := 57) (m := 1) rfl (oi_nI 1) rfl ?_
      refine w_goto (k := 58) (t' := 40) rfl rfl ?_
      refine ih (i + 1) I3 L3 (by omega) k1 k0 k2 ?_ (fun x hx hy => by rw [f3 x hx hy, f2 x hx hy]) (fun s hs => by rw [g3 s hs, g2 s hs]) (fun x hx => by rw [e3 x hx, e2 x hx])
      have e : pms t a.2.2.2.1 (X.take (i + 1)) = pmt (pms t a.2.2.2.1 (X.take i)) (X.getD i 0) (t + lN 300) := by
        unfold pms
        rw [tkD 0 (by omega), List.foldl_append]; rfl
      rw [e]
      exact p3
  have hbar : ∀ (r i : Nat), i + r = X.length → ¬ X.length = 0 → (X.take i).any (brd F) = false → am_V 115 am_c115 (d + 2) (am_SH N) Q 12 [some (.ref 91), some (.ref (26 + 7 * k)), some (.int (nI X.length)), some (.int (nI i))] [] (am_SH N, I1, L, am_RR w) := by
    intro r
    induction r with
    | zero =>
      intro i hi k0 hb
      rw [List.take_of_length_le (by omega)] at hb
      refine wp_iload (k := 12) rfl rfl ?_
      refine wp_iload (k := 13) rfl rfl ?_
      refine w_n_ge (k := 14) (t' := 30) rfl rfl (by omega) (fun zq => ?_) (fun zq => absurd zq (by omega))
      refine wp_aload (k := 30) rfl rfl ?_
      refine wp_aload (k := 31) rfl rfl ?_
      refine w_gr (k := 32) (s := 9) rfl rfl (by first | assumption | rfl) (by first | assumption | rfl) ?_
      refine wp_iload (k := 33) rfl rfl ?_
      refine w_Vi (k := 34) [_, _] rfl rfl rfl (Nat.le_of_ble_eq_true rfl) (by first | assumption | rfl) (Or.inl ⟨rfl, rfl⟩) ?_
      refine (c_9 qa a9 rfl x1 v1 ?_)
      refine ⟨_, rfl, ?_⟩
      refine w_b_ne (k := 35) (t' := 38) rfl rfl (fun k2 => ?_) (fun k2 => ?_)
      · refine w_ic (k := 38) (x := nI 0) rfl (oi_nI 0) ?_
        refine wp_istore (k := 39) rfl rfl ?_
        exact hlast X.length 0 I1 L (by omega) hb k0 (of_decide_eq_true k2) a9 (fun _ _ _ => rfl) (fun _ _ => rfl) (fun _ _ => rfl)
      · rw [if_neg k0, if_neg (by rw [hb]; decide), if_neg (of_decide_eq_false k2)] at ax
        refine w_ic (k := 36) (x := nI 508) rfl (oi_nI 508) ?_
        refine w_ri (k := 37) rfl rfl rfl rfl ?_
        exact stay _ ax
    | succ r ih =>
      intro i hi k0 hb
      have e : (X.take (i + 1)).any (brd F) = ((X.take i).any (brd F) || brd F (X.getD i 0)) := by
        rw [tkD 0 (by omega), List.any_append]
        simp
      refine wp_iload (k := 12) rfl rfl ?_
      refine wp_iload (k := 13) rfl rfl ?_
      refine w_n_ge (k := 14) (t' := 30) rfl rfl (by omega) (fun zq => absurd zq (by omega)) (fun zq => ?_)
      refine wp_iload (k := 15) rfl rfl ?_
      refine w_ic (k := 16) (x := nI 31) rfl (oi_nI 31) ?_
      refine w_n_ge (k := 17) (t' := 30) rfl rfl (by omega) (fun zq => absurd zq (by omega)) (fun zq => ?_)
      refine wp_aload (k := 18) rfl rfl ?_
      refine w_gr (k := 19) (s := 2) rfl rfl (by first | assumption | rfl) (by first | assumption | rfl) ?_
      refine wp_aload (k := 20) rfl rfl ?_
      refine w_gr (k := 21) (s := 9) rfl rfl (by first | assumption | rfl) (by first | assumption | rfl) ?_
      refine wp_iload (k := 22) rfl rfl ?_
      refine w_iald (k := 23) rfl rfl (by first | assumption | rfl) (by omega) (v1 i (by omega)) ?_
      refine w_Vi (k := 24) [_] rfl rfl rfl (Nat.le_of_ble_eq_true rfl) (by first | assumption | rfl) (Or.inl ⟨rfl, rfl⟩) ?_
      refine (c_33 hok hF1 ?_)
      refine ⟨_, rfl, ?_⟩
      refine w_b_eq (k := 25) (t' := 28) rfl rfl (fun k2 => ?_) (fun k2 => ?_)
      · refine w_incN (k := 28) (m := 1) rfl (oi_nI 1) rfl ?_
        refine w_goto (k := 29) (t' := 12) rfl rfl ?_
        exact ih (i + 1) (by omega) k0 (by rw [e, hb, k2]; rfl)
      · rw [if_neg k0, if_pos (by rw [List.any_eq_true]; exact ⟨X.getD i 0, gD_mem (by omega), k2⟩)] at ax
        refine w_ic (k := 26) (x := nI 403) rfl (oi_nI 403) ?_
        refine w_ri (k := 27) rfl rfl rfl rfl ?_
        exact stay _ ax
  refine wp_iload (k := 6) rfl rfl ?_
  refine w_m_ne (k := 7) (t' := 10) rfl rfl (by omega) (fun k0 => ?_) (fun k0 => ?_)
  · refine w_ic (k := 10) (x := nI 0) rfl (oi_nI 0) ?_
    refine wp_istore (k := 11) rfl rfl ?_
    exact hbar X.length 0 (by omega) k0 rfl
  · rw [if_pos k0] at ax
    refine w_ic (k := 8) (x := nI 400) rfl (oi_nI 400) ?_
    refine w_ri (k := 9) rfl rfl rfl rfl ?_
    exact stay _ ax
end PP
