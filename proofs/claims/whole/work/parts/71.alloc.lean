/-! ===== ALLOCATE and REFRESH: the class ===== -/
def stA (B : List Nat) (i : Nat) : Nat := ((ats B).getD i a0).2.2
def lfe (B : List Nat) : Nat := match fnd B 13 with
  | none => 600
  | some i => max 600 (min 3600 (nb B (stA B i) 4))
def idB (B : List Nat) : Int32 × Int32 × Int32 := (nI (nb B 8 4), nI (nb B 12 4), nI (nb B 16 4))
def upa (al : Nat → Option AL) (k : Nat) (o : Option AL) : Nat → Option AL := fun j => if j = k then o else al j
/-- an error's number (0: none), the tables then, what is told: port and life -/
abbrev PR : Type := Nat × (Nat → Option AL) × Int32 × Int32
def alc (al : Nat → Option AL) (t : Int64) (n sg : Int32) (B : List Nat) (ip port : Int32) : PR := match clf al ip port with
  | some k => (match al k with
    | none => (437, al, 0, 0)
    | some a => if a.2.2.1 = idB B then (0, al, a.1.2.2.2, (a.2.1 - t).toInt32) else (437, al, 0, 0))
  | none => match fnd B 25 with
    | none => (400, al, 0, 0)
    | some i => if B.getD (stA B i) 0 = 17 then (if nI (ctu al sg 8) < n then (match frf al with
        | none => (508, al, 0, 0)
        | some k => (0, upa al k (some ((ip, port, sg, nI (fpl al 8 49152)), t + lN (lfe B), idB B, [], [])), nI (fpl al 8 49152), (t + lN (lfe B) - t).toInt32)) else (486, al, 0, 0)) else (442, al, 0, 0)
def rfr (al : Nat → Option AL) (t : Int64) (B : List Nat) (k : Nat) (a : AL) : PR := if (match fnd B 13 with
    | none => false
    | some i => decide (nb B (stA B i) 4 = 0)) then (0, upa al k none, 0, nI 0) else (0, upa al k (some (a.1, t + lN (lfe B), a.2.2)), 0, (t + lN (lfe B) - t).toInt32)
theorem id_eq {B : List Nat} (hB : ∀ c ∈ B, c < 256) (x y : Int32) : lN (uI x * 2 ^ 32 + uI y) = lN (nb B 8 8) ↔ x = nI (nb B 8 4) ∧ y = nI (nb B 12 4) := by
  have e : nb B 8 8 = nb B 8 4 * 256 ^ 4 + nb B 12 4 := nb_add B 8 4 4
  have b1 := nb_lt hB 8 4
  have b2 := nb_lt hB 12 4
  have u1 := uI_lt x
  have u2 := uI_lt y
  constructor
  · intro h
    have h := lN_e64 (by omega) (by omega) h
    refine ⟨?_, ?_⟩
    · rw [← nI_uI x]; congr 1; omega
    · rw [← nI_uI y]; congr 1; omega
  · rintro ⟨rfl, rfl⟩
    rw [e, uI_nI (by omega), uI_nI (by omega)]
theorem lfe_lt (B : List Nat) : 600 ≤ lfe B ∧ lfe B ≤ 3600 := by
  unfold lfe
  cases fnd B 13 with
  | none => simp
  | some i => simp only; omega
theorem l_ltN {a b : Nat} (ha : a < 2 ^ 62) (hb : b < 2 ^ 62) : lN a < lN b ↔ a < b := by
  rw [Int64.lt_iff_toInt_lt, pf_lI (by omega), pf_lI (by omega)]; omega
section AL1
variable {d N : Nat} {I : Nat → Nat → Int32} {L : Nat → Nat → Int64} {w : Option Nat} {Q : am_Q} {A : List Nat} {al : Nat → Option AL} {t : Int64} {ip port sg n : Int32}
theorem c_113 (hA : cT I A) (hl : lr_ I 94 A) (hm : msg A = true) (hq : Q (some (.long (lN (lfe A)))) (am_SH N, I, L, am_RR w)) : am_call (d + 2) 113 [.ref 91] (am_SH N, I, L, am_RR w) Q := by
  have l104 := ats_len A
  unfold lfe at hq
  refine am_enter (ls := [some _, none, none, none]) (cs := am_c113) rfl rfl (Nat.le_of_ble_eq_true rfl) rfl ?_
  refine wp_aload (k := 0) rfl rfl ?_
  refine w_gr (k := 1) (s := 6) rfl rfl (by first | assumption | rfl) (by first | assumption | rfl) ?_
  refine w_ic (k := 2) (x := nI 13) rfl (oi_nI 13) ?_
  refine w_Vi (k := 3) [_] rfl rfl rfl (Nat.le_of_ble_eq_true rfl) (by first | assumption | rfl) (Or.inl ⟨rfl, rfl⟩) ?_
  refine (c_38 (lqT N w) hA.2.2.2 hl hm (by decide) ?_)
  refine ⟨_, rfl, ?_⟩
  refine wp_istore (k := 4) rfl rfl ?_
  cases h13 : fnd A 13 with
  | none =>
    rw [h13] at hq
    refine wp_iload (k := 5) rfl rfl ?_
    refine w_ic (k := 6) (x := (-1)) rfl (by decide) ?_
    refine w_c_ne (k := 7) (t' := 10) rfl rfl (fun zq => absurd (show oI none = -1 from rfl) zq) (fun zq => ?_)
    refine w_lc (k := 8) (x := lN 600) rfl (ol_lN 600) ?_
    refine w_goto (k := 9) (t' := 18) rfl rfl ?_
    refine wp_lstore (k := 18) rfl rfl ?_
    refine w_lc (k := 19) (x := lN 600) rfl (ol_lN 600) ?_
    refine w_lc (k := 20) (x := lN 3600) rfl (ol_lN 3600) ?_
    refine wp_lload (k := 21) rfl rfl ?_
    refine wp_mm3 (k := 22) rfl (Nat.le_of_ble_eq_true rfl) ?_
    refine wp_mm2 (k := 23) rfl (Nat.le_of_ble_eq_true rfl) ?_
    rw [if_pos ((l_ltN (by decide) (by decide)).mpr (by decide)), if_neg (by rw [l_ltN (by decide) (by decide)]; decide)]
    refine w_rl (k := 24) rfl rfl rfl rfl ?_
    exact hq
  | some i =>
    have e13 := fnd_lt h13
    have at13 := ats_at hA.2.2.2 e13.2.1
    have hA4 := hA.1
    have b4 := nb_lt hA.2.2.2 (stA A i) 4
    rw [h13] at hq
    simp only at hq
    refine wp_iload (k := 5) rfl rfl ?_
    refine w_ic (k := 6) (x := (-1)) rfl (by decide) ?_
    refine w_c_ne (k := 7) (t' := 10) rfl rfl (fun zq => ?_) (fun zq => absurd zq (nI_ne1 (by omega)))
    refine wp_aload (k := 10) rfl rfl ?_
    refine w_gr (k := 11) (s := 0) rfl rfl (by first | assumption | rfl) (by first | assumption | rfl) ?_
    refine wp_aload (k := 12) rfl rfl ?_
    refine w_gr (k := 13) (s := 6) rfl rfl (by first | assumption | rfl) (by first | assumption | rfl) ?_
    refine wp_iload (k := 14) rfl rfl ?_
    refine w_Vi (k := 15) [_] rfl rfl rfl (Nat.le_of_ble_eq_true rfl) (by first | assumption | rfl) (Or.inl ⟨rfl, rfl⟩) ?_
    refine (c_44 (lqT N w) hl hm e13.2.1 ?_)
    refine ⟨_, rfl, ?_⟩
    refine w_ic (k := 16) (x := nI 4) rfl (oi_nI 4) ?_
    refine w_Vl (k := 17) [_, _] rfl rfl rfl (Nat.le_of_ble_eq_true rfl) (by first | assumption | rfl) (Or.inl ⟨rfl, rfl⟩) ?_
    refine (c_90 (rwT N w) hA (by omega) ?_)
    refine ⟨_, rfl, ?_⟩
    refine wp_lstore (k := 18) rfl rfl ?_
    refine w_lc (k := 19) (x := lN 600) rfl (ol_lN 600) ?_
    refine w_lc (k := 20) (x := lN 3600) rfl (ol_lN 3600) ?_
    refine wp_lload (k := 21) rfl rfl ?_
    refine wp_mm3 (k := 22) rfl (Nat.le_of_ble_eq_true rfl) ?_
    refine wp_mm2 (k := 23) rfl (Nat.le_of_ble_eq_true rfl) ?_
    rw [show (if (if lN (nb A ((ats A).getD i a0).2.2 4) < lN 3600 then lN (nb A ((ats A).getD i a0).2.2 4) else lN 3600) < lN 600 then lN 600 else (if lN (nb A ((ats A).getD i a0).2.2 4) < lN 3600 then lN (nb A ((ats A).getD i a0).2.2 4) else lN 3600)) = lN (max 600 (min 3600 (nb A (stA A i) 4))) from by
      show (if (if lN (nb A (stA A i) 4) < lN 3600 then lN (nb A (stA A i) 4) else lN 3600) < lN 600 then lN 600 else (if lN (nb A (stA A i) 4) < lN 3600 then lN (nb A (stA A i) 4) else lN 3600)) = lN (max 600 (min 3600 (nb A (stA A i) 4)))
      generalize nb A (stA A i) 4 = x at b4
      by_cases c1 : x < 3600
      · rw [if_pos ((l_ltN (by omega) (by decide)).mpr c1)]
        by_cases c2 : x < 600
        · rw [if_pos ((l_ltN (by omega) (by decide)).mpr c2)]; congr 1; omega
        · rw [if_neg (by rw [l_ltN (by omega) (by decide)]; exact c2)]; congr 1; omega
      · rw [if_neg (show ¬ lN x < lN 3600 by rw [l_ltN (by omega) (by decide)]; exact c1), if_neg (show ¬ lN 3600 < lN 600 by rw [l_ltN (by decide) (by decide)]; decide)]; congr 1; omega]
    refine w_rl (k := 24) rfl rfl rfl rfl ?_
    exact hq
theorem c_4 {q : Nat} (q0 : (am_SH N)[q]? = some (0, 16)) {x : Int64} {y : Int32} (hq : Q (some (.int (bI (decide (L q 6 = x ∧ I q 7 = y))))) (am_SH N, I, L, am_RR w)) : am_call (d + 1) 4 [.ref q, .long x, .int y] (am_SH N, I, L, am_RR w) Q := by
  refine am_enter (ls := [some _, some _, none, some _]) (cs := am_c4) rfl rfl (Nat.le_of_ble_eq_true rfl) rfl ?_
  refine wp_aload (k := 0) rfl rfl ?_
  refine w_gl (k := 1) (s := 6) rfl rfl (by first | assumption | rfl) (by first | assumption | rfl) ?_
  refine wp_lload (k := 2) rfl rfl ?_
  refine w_L_ne (k := 3) (t' := 11) rfl rfl rfl (fun k1 => ?_) (fun k1 => ?_)
  · rw [decide_eq_false (fun e => k1 e.1)] at hq
    refine w_ic (k := 11) (x := bI false) rfl rfl ?_
    refine w_rz (k := 12) rfl rfl rfl ?_
    exact hq
  · refine wp_aload (k := 5) rfl rfl ?_
    refine w_gi (k := 6) (s := 7) rfl rfl (by first | assumption | rfl) (by first | assumption | rfl) ?_
    refine wp_iload (k := 7) rfl rfl ?_
    refine w_c_ne (k := 8) (t' := 11) rfl rfl (fun k2 => ?_) (fun k2 => ?_)
    · rw [decide_eq_false (fun e => k2 e.2)] at hq
      refine w_ic (k := 11) (x := bI false) rfl rfl ?_
      refine w_rz (k := 12) rfl rfl rfl ?_
      exact hq
    · rw [decide_eq_true ⟨k1, k2⟩] at hq
      refine w_ic (k := 9) (x := bI true) rfl rfl ?_
      refine w_goto (k := 10) (t' := 12) rfl rfl ?_
      refine w_rz (k := 12) rfl rfl rfl ?_
      exact hq
/-- a place of an allocation is made anew -/
theorem c_2 {q : Nat} (q0 : (am_SH N)[q]? = some (0, 16)) {x y z u : Int32} (hq : ∀ I', (I' q 0 = bI true ∧ I' q 1 = x ∧ I' q 2 = y ∧ I' q 3 = z ∧ I' q 4 = u ∧ I' q 10 = nI 0 ∧ I' q 15 = nI 0) → (∀ x, x ≠ q → I' x = I x) → Q none (am_SH N, I', L, am_RR w)) : am_call (d + 1) 2 [.ref q, .int x, .int y, .int z, .int u] (am_SH N, I, L, am_RR w) Q := by
  refine am_enter (ls := [some _, some _, some _, some _, some _]) (cs := am_c2) rfl rfl (Nat.le_of_ble_eq_true rfl) rfl ?_
  refine wp_aload (k := 0) rfl rfl ?_
  refine w_ic (k := 1) (x := bI true) rfl rfl ?_
  refine w_pz (k := 2) (s := 0) rfl rfl (by first | assumption | rfl) (bI_01 _) ?_
  refine wp_aload (k := 3) rfl rfl ?_
  refine wp_iload (k := 4) rfl rfl ?_
  refine w_pi (k := 5) (s := 1) rfl rfl (by first | assumption | rfl) ?_
  refine wp_aload (k := 6) rfl rfl ?_
  refine wp_iload (k := 7) rfl rfl ?_
  refine w_pi (k := 8) (s := 2) rfl rfl (by first | assumption | rfl) ?_
  refine wp_aload (k := 9) rfl rfl ?_
  refine wp_iload (k := 10) rfl rfl ?_
  refine w_pi (k := 11) (s := 3) rfl rfl (by first | assumption | rfl) ?_
  refine wp_aload (k := 12) rfl rfl ?_
  refine wp_iload (k := 13) rfl rfl ?_
  refine w_pi (k := 14) (s := 4) rfl rfl (by first | assumption | rfl) ?_
  refine wp_aload (k := 15) rfl rfl ?_
  refine w_ic (k := 16) (x := nI 0) rfl (oi_nI 0) ?_
  refine w_pi (k := 17) (s := 10) rfl rfl (by first | assumption | rfl) ?_
  refine wp_aload (k := 18) rfl rfl ?_
  refine w_ic (k := 19) (x := nI 0) rfl (oi_nI 0) ?_
  refine w_pi (k := 20) (s := 15) rfl rfl (by first | assumption | rfl) ?_
  refine w_rv (k := 21) rfl rfl rfl rfl ?_
  refine hq _ ⟨?_, ?_, ?_, ?_, ?_, ?_, ?_⟩ (fun x hx => by rw [am_uR hx, am_uR hx, am_uR hx, am_uR hx, am_uR hx, am_uR hx, am_uR hx])
  · rw [am_uw (by decide) (am_uw (by decide) (am_uw (by decide) (am_uw (by decide) (am_uw (by decide) (am_uw (by decide) am_us)))))]
  · rw [am_uw (by decide) (am_uw (by decide) (am_uw (by decide) (am_uw (by decide) (am_uw (by decide) am_us))))]
  · rw [am_uw (by decide) (am_uw (by decide) (am_uw (by decide) (am_uw (by decide) am_us)))]
  · rw [am_uw (by decide) (am_uw (by decide) (am_uw (by decide) am_us))]
  · rw [am_uw (by decide) (am_uw (by decide) am_us)]
  · rw [am_uw (by decide) am_us]
  · exact am_us
theorem c_3 {q : Nat} (q0 : (am_SH N)[q]? = some (0, 16)) {x : Int64} {y : Int32} (hq : ∀ I' L', I' = am_u I q 7 y → L' = am_u L q 6 x → Q none (am_SH N, I', L', am_RR w)) : am_call (d + 1) 3 [.ref q, .long x, .int y] (am_SH N, I, L, am_RR w) Q := by
  refine am_enter (ls := [some _, some _, none, some _]) (cs := am_c3) rfl rfl (Nat.le_of_ble_eq_true rfl) rfl ?_
  refine wp_aload (k := 0) rfl rfl ?_
  refine wp_lload (k := 1) rfl rfl ?_
  refine w_pl (k := 2) (s := 6) rfl rfl (by first | assumption | rfl) ?_
  refine wp_aload (k := 3) rfl rfl ?_
  refine wp_iload (k := 4) rfl rfl ?_
  refine w_pi (k := 5) (s := 7) rfl rfl (by first | assumption | rfl) ?_
  refine w_rv (k := 6) rfl rfl rfl rfl ?_
  exact hq _ _ rfl rfl
theorem c_112 (h : tbc I L al) (ht : L 24 1 = t) (hA : cT I A) (hl : lr_ I 94 A) (hm : msg A = true) (hn : I 18 5 = n) (h11 : I 91 11 = ip) (h12 : I 91 12 = port) (h14 : I 91 14 = sg) (hw : w = pq (clf al ip port)) (hq : ∀ I' L' w', tbc I' L' (alc al t n sg A ip port).2.1 → ((alc al t n sg A ip port).1 = 0 → ∃ k, k < 8 ∧ w' = some (26 + 7 * k) ∧ I' (26 + 7 * k) 4 = (alc al t n sg A ip port).2.2.1 ∧ (L' (26 + 7 * k) 5 - t).toInt32 = (alc al t n sg A ip port).2.2.2) → (∀ x, x < 26 ∨ 81 < x → I' x = I x) → (∀ x, x < 26 ∨ 81 < x → L' x = L x) → Q (some (.int (nI (alc al t n sg A ip port).1))) (am_SH N, I', L', am_RR w')) : am_call (d + 3) 112 [.ref 91] (am_SH N, I, L, am_RR w) Q := by
  have hA20 : 20 ≤ A.length := by
    unfold msg hdk at hm
    rw [Bool.and_eq_true] at hm
    exact (of_decide_eq_true hm.1).1
  have hA4 := hA.1
  have l104 := ats_len A
  have stay : ∀ e, alc al t n sg A ip port = (e, al, 0, 0) → e ≠ 0 → Q (some (.int (nI e))) (am_SH N, I, L, am_RR w) := fun e he h0 => by
    rw [he] at hq
    exact hq I L w h (fun z => absurd z h0) (fun _ _ => rfl) (fun _ _ => rfl)
  refine am_enter (ls := [some _, none, none, none, none, none]) (cs := am_c112) rfl rfl (Nat.le_of_ble_eq_true rfl) rfl ?_
  refine wp_aload (k := 0) rfl rfl ?_
  refine w_gr (k := 1) (s := 0) rfl rfl (by first | assumption | rfl) (by first | assumption | rfl) ?_
  refine w_ic (k := 2) (x := nI 8) rfl (oi_nI 8) ?_
  refine w_ic (k := 3) (x := nI 8) rfl (oi_nI 8) ?_
  refine w_Vl (k := 4) [_, _] rfl rfl rfl (Nat.le_of_ble_eq_true rfl) (by first | assumption | rfl) (Or.inl ⟨rfl, rfl⟩) ?_
  refine (c_90 (rwT N w) hA (by decide) ?_)
  refine ⟨_, rfl, ?_⟩
  refine wp_lstore (k := 5) (ls2 := [some _, some _, none, none, none, none]) rfl rfl ?_
  refine wp_aload (k := 6) rfl rfl ?_
  refine w_gr (k := 7) (s := 0) rfl rfl (by first | assumption | rfl) (by first | assumption | rfl) ?_
  refine w_ic (k := 8) (x := nI 16) rfl (oi_nI 16) ?_
  refine w_ic (k := 9) (x := nI 4) rfl (oi_nI 4) ?_
  refine w_Vl (k := 10) [_, _] rfl rfl rfl (Nat.le_of_ble_eq_true rfl) (by first | assumption | rfl) (Or.inl ⟨rfl, rfl⟩) ?_
  refine (c_90 (rwT N w) hA (by decide) ?_)
  refine ⟨_, rfl, ?_⟩
  refine wp_l2i (k := 11) rfl ?_
  rw [lN_i]
  cases hk : clf al ip port with
  | some k =>
    obtain ⟨hk8, a, ha, -⟩ := clf_lt hk
    have ho := h k hk8
    rw [ha] at ho
    have ho : ac I L (26 + 7 * k) a := ho
    obtain ⟨a1, a2, a3, a4, a5, a6, a7, a8, a9, a10⟩ := id ho
    have ax : alc al t n sg A ip port = if a.2.2.1 = idB A then (0, al, a.1.2.2.2, (a.2.1 - t).toInt32) else (437, al, 0, 0) := by unfold alc; rw [hk]; simp only; rw [ha]
    rw [hk] at hw
    simp only [pq, Option.map_some] at hw
    subst hw
    have q0 := (aq_of N (some (26 + 7 * k)) hk8).1
    refine wp_istore (k := 12) rfl rfl ?_
    refine wp_aload (k := 13) rfl rfl ?_
    refine w_gr (k := 14) (s := 13) rfl rfl (by first | assumption | rfl) (by first | assumption | rfl) ?_
    refine wp_ifnull (k := 15) rfl ?_
    refine wp_aload (k := 16) rfl rfl ?_
    refine w_gr (k := 17) (s := 13) rfl rfl (by first | assumption | rfl) (by first | assumption | rfl) ?_
    refine wp_lload (k := 18) rfl rfl ?_
    refine wp_iload (k := 19) rfl rfl ?_
    refine w_Vi (k := 20) [_, _] rfl rfl rfl (Nat.le_of_ble_eq_true rfl) (by first | assumption | rfl) (Or.inl ⟨rfl, rfl⟩) ?_
    refine (c_4 q0 ?_)
    refine ⟨_, rfl, ?_⟩
    rw [a7, a8, show decide (lN (uI a.2.2.1.1 * 2 ^ 32 + uI a.2.2.1.2.1) = lN (nb A 8 8) ∧ a.2.2.1.2.2 = nI (nb A 16 4)) = decide (a.2.2.1 = idB A) from decide_eq_decide.mpr (by
      rw [id_eq hA.2.2.2]
      constructor
      · rintro ⟨⟨e1, e2⟩, e3⟩; exact Prod.ext e1 (Prod.ext e2 e3)
      · intro e; rw [e]; exact ⟨⟨rfl, rfl⟩, rfl⟩)]
    refine w_b_eq (k := 21) (t' := 24) rfl rfl (fun k1 => ?_) (fun k1 => ?_)
    · rw [if_neg (of_decide_eq_false k1)] at ax
      refine w_ic (k := 24) (x := nI 437) rfl (oi_nI 437) ?_
      refine w_ri (k := 25) rfl rfl rfl rfl ?_
      exact stay _ ax (by decide)
    · rw [if_pos (of_decide_eq_true k1)] at ax
      refine w_ic (k := 22) (x := nI 0) rfl (oi_nI 0) ?_
      refine w_goto (k := 23) (t' := 25) rfl rfl ?_
      refine w_ri (k := 25) rfl rfl rfl rfl ?_
      rw [ax] at hq
      exact hq I L _ h (fun _ => ⟨k, hk8, rfl, a5, by rw [a6]⟩) (fun _ _ => rfl) (fun _ _ => rfl)
  | none =>
    rw [hk] at hw
    simp only [pq, Option.map_none] at hw
    subst hw
    have ax : alc al t n sg A ip port = (match fnd A 25 with
    | none => (400, al, 0, 0)
    | some i => if A.getD (stA A i) 0 = 17 then (if nI (ctu al sg 8) < n then (match frf al with
        | none => (508, al, 0, 0)
        | some k => (0, upa al k (some ((ip, port, sg, nI (fpl al 8 49152)), t + lN (lfe A), idB A, [], [])), nI (fpl al 8 49152), (t + lN (lfe A) - t).toInt32)) else (486, al, 0, 0)) else (442, al, 0, 0)) := by unfold alc; rw [hk]
    refine wp_istore (k := 12) rfl rfl ?_
    refine wp_aload (k := 13) rfl rfl ?_
    refine w_gn (k := 14) (s := 13) rfl rfl (by first | assumption | rfl) (by first | assumption | rfl) ?_
    refine wp_ifnullN (k := 15) rfl ?_
    refine wp_aload (k := 26) rfl rfl ?_
    refine w_gr (k := 27) (s := 6) rfl rfl (by first | assumption | rfl) (by first | assumption | rfl) ?_
    refine w_ic (k := 28) (x := nI 25) rfl (oi_nI 25) ?_
    refine w_Vi (k := 29) [_] rfl rfl rfl (Nat.le_of_ble_eq_true rfl) (by first | assumption | rfl) (Or.inl ⟨rfl, rfl⟩) ?_
    refine (c_38 (lqT N _) hA.2.2.2 hl hm (by decide) ?_)
    refine ⟨_, rfl, ?_⟩
    refine wp_istore (k := 30) rfl rfl ?_
    cases h25 : fnd A 25 with
    | none =>
      rw [h25] at ax
      refine wp_iload (k := 31) rfl rfl ?_
      refine w_ic (k := 32) (x := (-1)) rfl (by decide) ?_
      refine w_c_ne (k := 33) (t' := 36) rfl rfl (fun zq => absurd (show oI none = -1 from rfl) zq) (fun zq => ?_)
      refine w_ic (k := 34) (x := nI 400) rfl (oi_nI 400) ?_
      refine w_ri (k := 35) rfl rfl rfl rfl ?_
      exact stay _ ax (by decide)
    | some i =>
      have e25 := fnd_lt h25
      have at25 := ats_at hA.2.2.2 e25.2.1
      have fit := ats_fit hm e25.2.1
      have z25 := z_4 (Or.inr (Or.inr e25.2.2.1)) e25.2.2.2
      have b25 := gd_lt hA.2.2.2 (stA A i)
      rw [h25] at ax
      simp only at ax
      refine wp_iload (k := 31) rfl rfl ?_
      refine w_ic (k := 32) (x := (-1)) rfl (by decide) ?_
      refine w_c_ne (k := 33) (t' := 36) rfl rfl (fun zq => ?_) (fun zq => absurd zq (nI_ne1 (by omega)))
      refine wp_aload (k := 36) rfl rfl ?_
      refine w_gr (k := 37) (s := 0) rfl rfl (by first | assumption | rfl) (by first | assumption | rfl) ?_
      refine wp_aload (k := 38) rfl rfl ?_
      refine w_gr (k := 39) (s := 6) rfl rfl (by first | assumption | rfl) (by first | assumption | rfl) ?_
      refine wp_iload (k := 40) rfl rfl ?_
      refine w_Vi (k := 41) [_] rfl rfl rfl (Nat.le_of_ble_eq_true rfl) (by first | assumption | rfl) (Or.inl ⟨rfl, rfl⟩) ?_
      refine (c_44 (lqT N _) hl hm e25.2.1 ?_)
      refine ⟨_, rfl, ?_⟩
      refine w_Vi (k := 42) [_] rfl rfl rfl (Nat.le_of_ble_eq_true rfl) (by first | assumption | rfl) (Or.inl ⟨rfl, rfl⟩) ?_
      refine (c_84 (rwT N _) hA ?_)
      refine ⟨_, rfl, ?_⟩
      rw [byA_n (by omega) (by omega), show A.getD ((ats A).getD i a0).2.2 0 = A.getD (stA A i) 0 from rfl]
      refine w_ic (k := 43) (x := nI 17) rfl (oi_nI 17) ?_
      refine w_n_eq (k := 44) (t' := 47) rfl rfl (by omega) (fun k1 => ?_) (fun k1 => ?_)
      · rw [if_pos k1] at ax
        refine wp_aload (k := 47) rfl rfl ?_
        refine w_gr (k := 48) (s := 3) rfl rfl (by first | assumption | rfl) (by first | assumption | rfl) ?_
        refine wp_aload (k := 49) rfl rfl ?_
        refine w_gi (k := 50) (s := 14) rfl rfl (by first | assumption | rfl) h14 ?_
        refine w_Vi (k := 51) [_] rfl rfl rfl (Nat.le_of_ble_eq_true rfl) (by first | assumption | rfl) (Or.inl ⟨rfl, rfl⟩) ?_
        refine (c_25 h ?_)
        refine ⟨_, rfl, ?_⟩
        refine wp_aload (k := 52) rfl rfl ?_
        refine w_gr (k := 53) (s := 1) rfl rfl (by first | assumption | rfl) (by first | assumption | rfl) ?_
        refine w_Vi (k := 54) [] rfl rfl rfl (Nat.le_of_ble_eq_true rfl) (by first | assumption | rfl) (Or.inl ⟨rfl, rfl⟩) ?_
        refine am_enter (ls := [some _]) (cs := am_c136) rfl rfl (Nat.le_of_ble_eq_true rfl) rfl ?_
        refine wp_aload (k := 0) rfl rfl ?_
        refine w_gi (k := 1) (s := 5) rfl rfl (by first | assumption | rfl) (by first | assumption | rfl) ?_
        refine w_ri (k := 2) rfl rfl rfl rfl ?_
        refine ⟨_, rfl, ?_⟩
        refine w_c_lt (k := 55) (t' := 58) rfl rfl (fun k2 => ?_) (fun k2 => ?_)
        · rw [if_pos k2] at ax
          refine wp_aload (k := 58) rfl rfl ?_
          refine w_gr (k := 59) (s := 3) rfl rfl (by first | assumption | rfl) (by first | assumption | rfl) ?_
          refine w_Vq (k := 60) [] rfl rfl rfl (Nat.le_of_ble_eq_true rfl) (by first | assumption | rfl) (Or.inl ⟨rfl, rfl⟩) ?_
          refine (c_29 h ?_)
          refine ⟨_, rfl, ?_⟩
          cases hf : frf al with
          | none =>
            rw [hf] at ax
            refine wp_astoreN (k := 61) rfl rfl ?_
            refine wp_aloadN (k := 62) rfl rfl ?_
            refine wp_ifnonnullN (k := 63) rfl ?_
            refine w_ic (k := 64) (x := nI 508) rfl (oi_nI 508) ?_
            refine w_ri (k := 65) rfl rfl rfl rfl ?_
            exact stay _ ax (by decide)
          | some k =>
            rw [hf] at ax
            simp only at ax
            obtain ⟨-, hk8, -, -⟩ := ff_some hf
            have hk8 : k < 8 := by omega
            have qa := aq_of N none hk8
            have q0 := qa.1
            rw [ax] at hq
            simp only at hq
            rw [show pq (some k) = some (26 + 7 * k) from rfl]
            generalize hqk : 26 + 7 * k = q at *
            refine wp_astore (k := 61) (ls2 := [some _, some _, none, some _, some _, some _]) rfl rfl ?_
            refine wp_aload (k := 62) rfl rfl ?_
            refine wp_ifnonnull (k := 63) rfl ?_
            refine wp_aload (k := 66) rfl rfl ?_
            refine wp_aload (k := 67) rfl rfl ?_
            refine w_gi (k := 68) (s := 11) rfl rfl (by first | assumption | rfl) h11 ?_
            refine wp_aload (k := 69) rfl rfl ?_
            refine w_gi (k := 70) (s := 12) rfl rfl (by first | assumption | rfl) h12 ?_
            refine wp_aload (k := 71) rfl rfl ?_
            refine w_gi (k := 72) (s := 14) rfl rfl (by first | assumption | rfl) h14 ?_
            refine wp_aload (k := 73) rfl rfl ?_
            refine w_gr (k := 74) (s := 3) rfl rfl (by first | assumption | rfl) (by first | assumption | rfl) ?_
            refine w_Vi (k := 75) [] rfl rfl rfl (Nat.le_of_ble_eq_true rfl) (by first | assumption | rfl) (Or.inl ⟨rfl, rfl⟩) ?_
            refine (c_30 h ?_)
            refine ⟨_, rfl, ?_⟩
            refine w_Vv (k := 76) [_, _, _, _] rfl rfl rfl (Nat.le_of_ble_eq_true rfl) (by first | assumption | rfl) (Or.inl ⟨rfl, rfl⟩) ?_
            refine (c_2 q0 (fun I1 e1 f1 => ⟨rfl, ?_⟩))
            refine wp_aload (k := 77) rfl rfl ?_
            refine wp_lload (k := 78) rfl rfl ?_
            refine wp_iload (k := 79) rfl rfl ?_
            refine w_Vv (k := 80) [_, _] rfl rfl rfl (Nat.le_of_ble_eq_true rfl) (by first | assumption | rfl) (Or.inl ⟨rfl, rfl⟩) ?_
            refine (c_3 q0 (fun I2 L2 e2 g2 => ⟨rfl, ?_⟩))
            have f2 : ∀ x, x ≠ q → I2 x = I x := fun x hx => by rw [e2, am_uR hx, f1 x hx]
            have fl2 : ∀ x, x ≠ q → L2 x = L x := fun x hx => by rw [g2, am_uR hx]
            have A2 : cT I2 A := rw_keep hA (f2 5 (by omega)) (f2 6 (by omega))
            have l2 : lr_ I2 94 A := lr_k hl (fun j hj => f2 _ (by omega))
            have t2 : L2 24 1 = t := by rw [fl2 24 (by omega)]; exact ht
            refine wp_aload (k := 81) rfl rfl ?_
            refine wp_aload (k := 82) rfl rfl ?_
            refine w_gr (k := 83) (s := 3) rfl rfl (by first | assumption | rfl) (by first | assumption | rfl) ?_
            refine w_Vl (k := 84) [] rfl rfl rfl (Nat.le_of_ble_eq_true rfl) (by first | assumption | rfl) (Or.inl ⟨rfl, rfl⟩) ?_
            refine am_enter (ls := [some _]) (cs := am_c22) rfl rfl (Nat.le_of_ble_eq_true rfl) rfl ?_
            refine wp_aload (k := 0) rfl rfl ?_
            refine w_gl (k := 1) (s := 1) rfl rfl (by first | assumption | rfl) (by first | assumption | rfl) ?_
            refine w_rl (k := 2) rfl rfl rfl rfl ?_
            refine ⟨_, rfl, ?_⟩
            refine wp_aload (k := 85) rfl rfl ?_
            refine w_Vl (k := 86) [] rfl rfl rfl (Nat.le_of_ble_eq_true rfl) (by first | assumption | rfl) (Or.inl ⟨rfl, rfl⟩) ?_
            refine (c_113 A2 l2 hm ?_)
            refine ⟨_, rfl, ?_⟩
            refine wp_ladd (k := 87) rfl ?_
            refine w_pl (k := 88) (s := 5) rfl rfl (by first | assumption | rfl) ?_
            refine wp_aload (k := 89) rfl rfl ?_
            refine wp_aload (k := 90) rfl rfl ?_
            refine w_pr (k := 91) (s := 13) rfl rfl (by first | assumption | rfl) ?_
            rw [am_RR_own]
            refine w_ic (k := 92) (x := nI 0) rfl (oi_nI 0) ?_
            refine w_ri (k := 93) rfl rfl rfl rfl ?_
            obtain ⟨y0, y1, y2, y3, y4, y10, y15⟩ := e1
            have I2s : ∀ s, s ≠ 7 → I2 q s = I1 q s := fun s hs => by rw [e2, am_uw hs rfl]
            refine hq I2 _ _ (tbc_u (k := k) (o := some _) h (fun x hx => f2 x (by omega)) (fun x hx => by rw [am_uR (by omega), fl2 x (by omega)]) ?_) (fun _ => ⟨k, hk8, by rw [hqk], ?_, ?_⟩) (fun x hx => f2 x (by omega)) (fun x hx => by rw [am_uR (by omega), fl2 x (by omega)])
            · show ac _ _ (26 + 7 * k) _
              rw [hqk]
              refine ⟨by rw [I2s _ (by decide)]; exact y0, by rw [I2s _ (by decide)]; exact y1, by rw [I2s _ (by decide)]; exact y2, by rw [I2s _ (by decide)]; exact y3, by rw [I2s _ (by decide)]; exact y4, am_us, ?_, ?_, ⟨by rw [I2s _ (by decide)]; exact y10, Nat.zero_le _, fun j hj => absurd hj (Nat.not_lt_zero _)⟩, ⟨by rw [I2s _ (by decide)]; exact y15, Nat.zero_le _, fun j hj => absurd hj (Nat.not_lt_zero _)⟩⟩
              · rw [am_uw (by decide) rfl, g2, am_us]
                exact ((id_eq hA.2.2.2 _ _).mpr ⟨rfl, rfl⟩).symm
              · rw [e2, am_us]; rfl
            · rw [hqk, I2s _ (by decide)]; exact y4
            · rw [hqk, am_us]
        · rw [if_neg k2] at ax
          refine w_ic (k := 56) (x := nI 486) rfl (oi_nI 486) ?_
          refine w_ri (k := 57) rfl rfl rfl rfl ?_
          exact stay _ ax (by decide)
      · rw [if_neg k1] at ax
        refine w_ic (k := 45) (x := nI 442) rfl (oi_nI 442) ?_
        refine w_ri (k := 46) rfl rfl rfl rfl ?_
        exact stay _ ax (by decide)
theorem c_114 (h : tbc I L al) (ht : L 24 1 = t) (hA : cT I A) (hl : lr_ I 94 A) (hm : msg A = true) {k : Nat} (hk : k < 8) {a : AL} (ha : al k = some a) (hq : ∀ I' L', tbc I' L' (rfr al t A k a).2.1 → (L' (26 + 7 * k) 5 - t).toInt32 = (rfr al t A k a).2.2.2 → (∀ x, x < 26 ∨ 81 < x → I' x = I x) → (∀ x, x < 26 ∨ 81 < x → L' x = L x) → Q (some (.int (nI 0))) (am_SH N, I', L', am_RR w)) : am_call (d + 3) 114 [.ref 91, .ref (26 + 7 * k)] (am_SH N, I, L, am_RR w) Q := by
  have l104 := ats_len A
  have ho := h k hk
  rw [ha] at ho
  have ho : ac I L (26 + 7 * k) a := ho
  obtain ⟨a1, a2, a3, a4, a5, a6, a7, a8, a9, a10⟩ := id ho
  have q0 := (aq_of N w hk).1
  have hgo : (match fnd A 13 with | none => false | some i => decide (nb A (stA A i) 4 = 0)) = false → am_V 114 am_c114 (d + 2) (am_SH N) Q 24 [some (.ref 91), some (.ref (26 + 7 * k)), some (.int (oI (fnd A 13)))] [] (am_SH N, I, L, am_RR w) := fun e => by
    unfold rfr at hq
    rw [if_neg (by rw [e]; decide)] at hq
    simp only at hq
    generalize hqk : 26 + 7 * k = q at *
    refine wp_aload (k := 24) rfl rfl ?_
    refine wp_aload (k := 25) rfl rfl ?_
    refine w_gr (k := 26) (s := 3) rfl rfl (by first | assumption | rfl) (by first | assumption | rfl) ?_
    refine w_Vl (k := 27) [] rfl rfl rfl (Nat.le_of_ble_eq_true rfl) (by first | assumption | rfl) (Or.inl ⟨rfl, rfl⟩) ?_
    refine am_enter (ls := [some _]) (cs := am_c22) rfl rfl (Nat.le_of_ble_eq_true rfl) rfl ?_
    refine wp_aload (k := 0) rfl rfl ?_
    refine w_gl (k := 1) (s := 1) rfl rfl (by first | assumption | rfl) (by first | assumption | rfl) ?_
    refine w_rl (k := 2) rfl rfl rfl rfl ?_
    refine ⟨_, rfl, ?_⟩
    refine wp_aload (k := 28) rfl rfl ?_
    refine w_Vl (k := 29) [] rfl rfl rfl (Nat.le_of_ble_eq_true rfl) (by first | assumption | rfl) (Or.inl ⟨rfl, rfl⟩) ?_
    refine (c_113 hA hl hm ?_)
    refine ⟨_, rfl, ?_⟩
    refine wp_ladd (k := 30) rfl ?_
    refine w_pl (k := 31) (s := 5) rfl rfl (by first | assumption | rfl) ?_
    refine w_ic (k := 32) (x := nI 0) rfl (oi_nI 0) ?_
    refine w_ri (k := 33) rfl rfl rfl rfl ?_
    refine hq _ _ (tbc_u (k := k) (o := some _) h (fun x hx => rfl) (fun x hx => am_uR (by omega)) ?_) (by rw [am_us]) (fun _ _ => rfl) (fun x hx => am_uR (by omega))
    show ac _ _ (26 + 7 * k) _
    rw [hqk]
    exact ⟨a1, a2, a3, a4, a5, am_us, by rw [am_uw (by decide) rfl]; exact a7, a8, pm_k a9 rfl rfl (am_uR (by omega)), ch_k a10 rfl rfl rfl rfl (am_uR (by omega))⟩
  refine am_enter (ls := [some _, some _, none]) (cs := am_c114) rfl rfl (Nat.le_of_ble_eq_true rfl) rfl ?_
  refine wp_aload (k := 0) rfl rfl ?_
  refine w_gr (k := 1) (s := 6) rfl rfl (by first | assumption | rfl) (by first | assumption | rfl) ?_
  refine w_ic (k := 2) (x := nI 13) rfl (oi_nI 13) ?_
  refine w_Vi (k := 3) [_] rfl rfl rfl (Nat.le_of_ble_eq_true rfl) (by first | assumption | rfl) (Or.inl ⟨rfl, rfl⟩) ?_
  refine (c_38 (lqT N w) hA.2.2.2 hl hm (by decide) ?_)
  refine ⟨_, rfl, ?_⟩
  refine wp_istore (k := 4) rfl rfl ?_
  cases h13 : fnd A 13 with
  | none =>
    rw [h13] at hgo
    refine wp_iload (k := 5) rfl rfl ?_
    refine w_ic (k := 6) (x := (-1)) rfl (by decide) ?_
    refine w_c_eq (k := 7) (t' := 24) rfl rfl (fun zq => ?_) (fun zq => absurd rfl zq)
    exact hgo rfl
  | some i =>
    have e13 := fnd_lt h13
    have z13 := z_4 (Or.inr (Or.inl e13.2.2.1)) e13.2.2.2
    have b4 := nb_lt hA.2.2.2 (stA A i) 4
    have ev : vlo A i = nb A (stA A i) 4 := by unfold vlo; rw [z13]; rfl
    rw [h13] at hgo
    simp only at hgo
    refine wp_iload (k := 5) rfl rfl ?_
    refine w_ic (k := 6) (x := (-1)) rfl (by decide) ?_
    refine w_c_eq (k := 7) (t' := 24) rfl rfl (fun zq => absurd zq (nI_ne1 (by omega))) (fun zq => ?_)
    refine wp_aload (k := 8) rfl rfl ?_
    refine w_gr (k := 9) (s := 6) rfl rfl (by first | assumption | rfl) (by first | assumption | rfl) ?_
    refine wp_iload (k := 10) rfl rfl ?_
    refine w_Vl (k := 11) [_] rfl rfl rfl (Nat.le_of_ble_eq_true rfl) (by first | assumption | rfl) (Or.inl ⟨rfl, rfl⟩) ?_
    refine (c_45 (lqT N w) (rwT N w) hA hl hm e13.2.1 ?_)
    refine ⟨_, rfl, ?_⟩
    rw [ev]
    refine w_lc (k := 12) (x := lN 0) rfl (ol_lN 0) ?_
    refine w_L_ne (k := 13) (t' := 24) rfl rfl rfl (fun k1 => ?_) (fun k1 => ?_)
    · exact hgo (decide_eq_false (fun e => k1 (by rw [e])))
    · have k1 := lN_e64 (by omega) (by decide) k1
      unfold rfr at hq
      rw [h13] at hq
      simp only at hq
      rw [if_pos (decide_eq_true k1)] at hq
      simp only at hq
      generalize hqk : 26 + 7 * k = q at *
      refine wp_aload (k := 15) rfl rfl ?_
      refine wp_aload (k := 16) rfl rfl ?_
      refine w_gr (k := 17) (s := 3) rfl rfl (by first | assumption | rfl) (by first | assumption | rfl) ?_
      refine w_Vl (k := 18) [] rfl rfl rfl (Nat.le_of_ble_eq_true rfl) (by first | assumption | rfl) (Or.inl ⟨rfl, rfl⟩) ?_
      refine am_enter (ls := [some _]) (cs := am_c22) rfl rfl (Nat.le_of_ble_eq_true rfl) rfl ?_
      refine wp_aload (k := 0) rfl rfl ?_
      refine w_gl (k := 1) (s := 1) rfl rfl (by first | assumption | rfl) (by first | assumption | rfl) ?_
      refine w_rl (k := 2) rfl rfl rfl rfl ?_
      refine ⟨_, rfl, ?_⟩
      refine w_pl (k := 19) (s := 5) rfl rfl (by first | assumption | rfl) ?_
      refine wp_aload (k := 20) rfl rfl ?_
      refine w_ic (k := 21) (x := bI false) rfl rfl ?_
      refine w_pz (k := 22) (s := 0) rfl rfl (by first | assumption | rfl) (bI_01 _) ?_
      refine w_goto (k := 23) (t' := 32) rfl rfl ?_
      refine w_ic (k := 32) (x := nI 0) rfl (oi_nI 0) ?_
      refine w_ri (k := 33) rfl rfl rfl rfl ?_
      refine hq _ _ (tbc_u (k := k) (o := none) h (fun x hx => am_uR (by omega)) (fun x hx => am_uR (by omega)) ?_) (by rw [am_us, Int64.sub_self]; rfl) (fun x hx => am_uR (by omega)) (fun x hx => am_uR (by omega))
      show am_u I q 0 _ (26 + 7 * k) 0 = _
      rw [hqk, am_us]
end AL1
