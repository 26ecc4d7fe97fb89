/-! ===== what stands in a message: the reference reads ===== -/
def cnD (B : List Nat) (D : List AT) : Nat := match fin_ B D with
  | none => D.length
  | some j => j + 1
def oA (D : List AT) (o : Option Nat) : Int32 := match o with
  | none => -1
  | some j => nI ((D.getD j a0).2.2 - 4)
def lsA (D : List AT) : Int32 := if D.length = 0 then -1 else nI ((D.getD (D.length - 1) a0).2.2 - 4)
def mD (I : Nat → Nat → Int32) (B : List Nat) (D : List AT) : Prop := I 100 53 = nI (cnD B D) ∧ I 100 54 = oA D (fin_ B D) ∧ I 100 55 = oA D (fgi B D) ∧ I 100 56 = lsA D ∧ ∀ i, i < cnD B D → I 135 i = nI (D.getD i a0).1 ∧ I 136 i = nI (D.getD i a0).2.1 ∧ I 137 i = nI (D.getD i a0).2.2
theorem cnD_le (B : List Nat) (D : List AT) : cnD B D ≤ D.length := by
  unfold cnD
  cases h : fin_ B D with
  | none => exact Nat.le_refl _
  | some j => exact fin_lt h
theorem pe_big {B : List Nat} : ∀ f p, B.length < p + 4 → pe B f p = p
  | 0, _, _ => rfl
  | f + 1, p, h => by rw [pe, if_neg (by omega)]
theorem oA_app {D : List AT} {x : AT} {o : Option Nat} (h : ∀ j, o = some j → j < D.length) : oA (D ++ [x]) o = oA D o := by
  cases o with
  | none => rfl
  | some j =>
    have := h j rfl
    show nI _ = nI _
    rw [gD_app (by omega), if_neg (by omega)]
theorem snd_28 {B : List Nat} {s t : Nat} : snd_ B (28, s, t) = decide (s = 32) := rfl
theorem snd_32808 {B : List Nat} {s t : Nat} : snd_ B (32808, s, t) = decide (s = 4) := by
  show sndf 32808 s _ = _
  unfold sndf
  rw [if_neg (by decide), if_neg (by decide), if_neg (by decide), if_pos (by decide)]
theorem fin_app {B : List Nat} {D : List AT} {x : AT} : fin_ B (D ++ [x]) = match fin_ B D with
    | some j => some j
    | none => if (snd_ B x && decide (x.1 = 28)) then some D.length else none := ff_app (B := B) (fun a => snd_ B a && decide (a.1 = 28))
theorem fgi_app {B : List Nat} {D : List AT} {x : AT} : fgi B (D ++ [x]) = match fgi B D with
    | some j => some j
    | none => if (snd_ B x && decide (x.1 = 32808)) then some D.length else none := ff_app (B := B) (fun a => snd_ B a && decide (a.1 = 32808))
section ML
variable {d N : Nat} {I : Nat → Nat → Int32} {L : Nat → Nat → Int64} {w : Option Nat} {Q : am_Q} {B : List Nat}
theorem c_215 {D : List AT} (h53 : I 100 53 = nI (cnD B D)) (h54 : I 100 54 = oA D (fin_ B D)) (h55 : I 100 55 = oA D (fgi B D)) (har : ∀ i, i < cnD B D → I 135 i = nI (D.getD i a0).1 ∧ I 136 i = nI (D.getD i a0).2.1 ∧ I 137 i = nI (D.getD i a0).2.2) (hD : D.length < 100) (hst : ∀ j, j < D.length → (D.getD j a0).2.2 < 1000) {kk ss q : Nat} (hk : kk < 65536) (hs : ss < 65536) (hq9 : q < 900) (hq : ∀ I', I' 100 53 = nI (cnD B (D ++ [(kk, ss, q + 4)])) → I' 100 54 = oA (D ++ [(kk, ss, q + 4)]) (fin_ B (D ++ [(kk, ss, q + 4)])) → I' 100 55 = oA (D ++ [(kk, ss, q + 4)]) (fgi B (D ++ [(kk, ss, q + 4)])) → (∀ i, i < cnD B (D ++ [(kk, ss, q + 4)]) → I' 135 i = nI ((D ++ [(kk, ss, q + 4)]).getD i a0).1 ∧ I' 136 i = nI ((D ++ [(kk, ss, q + 4)]).getD i a0).2.1 ∧ I' 137 i = nI ((D ++ [(kk, ss, q + 4)]).getD i a0).2.2) → fx [135, 136, 137] [53, 54, 55] I I' → Q none (am_SH N, I', L, am_RR w)) : am_call (d + 1) 215 [.ref 100, .int (nI kk), .int (nI ss), .int (nI q)] (am_SH N, I, L, am_RR w) Q := by
  have hnew : ∀ o, (∀ j, o = some j → j < D.length) → oA (D ++ [(kk, ss, q + 4)]) o = oA D o := fun o ho => oA_app ho
  have hlast : oA (D ++ [(kk, ss, q + 4)]) (some D.length) = nI q := by
    show nI _ = _
    rw [gD_app (by omega), if_pos rfl]
    show nI (q + 4 - 4) = _
    rw [Nat.add_sub_cancel]
  have oApos : ∀ o, (∀ j, o = some j → j < D.length) → o.isSome = true → ¬ oA D o < 0 := by
    intro o ho hs2
    cases o with
    | none => cases hs2
    | some j =>
      have := hst j (ho j rfl)
      exact nI_pos (by omega)
  -- behind the fingerprint
  have back : ∀ (I1 : Nat → Nat → Int32), I1 100 53 = nI (cnD B D) → I1 100 54 = oA D (fin_ B D) → I1 100 55 = oA (D ++ [(kk, ss, q + 4)]) (fgi B (D ++ [(kk, ss, q + 4)])) → (∀ i, i < cnD B D → I1 135 i = nI (D.getD i a0).1 ∧ I1 136 i = nI (D.getD i a0).2.1 ∧ I1 137 i = nI (D.getD i a0).2.2) → fx [135, 136, 137] [53, 54, 55] I I1 → am_V 215 am_c215 d (am_SH N) Q 12 [some (.ref 100), some (.int (nI kk)), some (.int (nI ss)), some (.int (nI q))] [] (am_SH N, I1, L, am_RR w) := by
    intro I1 y53 y54 y55 yar f1
    cases hf : fin_ B D with
    | some j =>
      have hj := fin_lt hf
      have e1 : fin_ B (D ++ [(kk, ss, q + 4)]) = some j := by rw [fin_app, hf]
      have e2 : cnD B (D ++ [(kk, ss, q + 4)]) = cnD B D := by unfold cnD; rw [e1, hf]
      rw [hf] at y54
      refine wp_aload (k := 12) rfl rfl ?_
      refine w_gi (k := 13) (s := 54) rfl rfl (by first | assumption | rfl) y54 ?_
      refine w_z_lt (k := 14) (t' := 16) rfl rfl (fun zq => absurd zq (oApos (some j) (fun i hi => by cases hi; exact hj) rfl)) (fun zq => ?_)
      refine w_rv (k := 15) rfl rfl rfl rfl ?_
      refine hq I1 (by rw [e2]; exact y53) (by rw [e1, hnew _ (fun i hi => by cases hi; exact hj)]; exact y54) y55 (fun i hi => ?_) f1
      rw [e2] at hi
      have hcl := cnD_le B D
      rw [gD_app (by omega), if_neg (by omega)]
      exact yar i hi
    | none =>
      have e53 : cnD B D = D.length := by unfold cnD; rw [hf]
      rw [e53] at y53 yar
      rw [hf] at y54
      have store : ∀ (I2 : Nat → Nat → Int32), I2 100 53 = nI D.length → I2 100 54 = oA (D ++ [(kk, ss, q + 4)]) (fin_ B (D ++ [(kk, ss, q + 4)])) → I2 100 55 = oA (D ++ [(kk, ss, q + 4)]) (fgi B (D ++ [(kk, ss, q + 4)])) → (∀ i, i < D.length → I2 135 i = nI (D.getD i a0).1 ∧ I2 136 i = nI (D.getD i a0).2.1 ∧ I2 137 i = nI (D.getD i a0).2.2) → fx [135, 136, 137] [53, 54, 55] I I2 → am_V 215 am_c215 d (am_SH N) Q 25 [some (.ref 100), some (.int (nI kk)), some (.int (nI ss)), some (.int (nI q))] [] (am_SH N, I2, L, am_RR w) := by
        intro I2 t53 t54 t55 tar f2
        have e2 : cnD B (D ++ [(kk, ss, q + 4)]) = D.length + 1 := by
          unfold cnD
          rw [fin_app, hf]
          simp only
          by_cases c : (snd_ B (kk, ss, q + 4) && decide ((kk, ss, q + 4).1 = 28)) = true
          · rw [if_pos c]
          · rw [if_neg c]; simp
        refine wp_aload (k := 25) rfl rfl ?_
        refine w_gr (k := 26) (s := 50) rfl rfl (by first | assumption | rfl) (by first | assumption | rfl) ?_
        refine wp_aload (k := 27) rfl rfl ?_
        refine w_gi (k := 28) (s := 53) rfl rfl (by first | assumption | rfl) (by first | assumption | rfl) ?_
        refine wp_iload (k := 29) rfl rfl ?_
        refine w_iast (k := 30) rfl rfl (by omega) (by first | assumption | rfl) (by omega) ?_
        refine wp_aload (k := 31) rfl rfl ?_
        refine w_gr (k := 32) (s := 51) rfl rfl (by first | assumption | rfl) (by first | assumption | rfl) ?_
        refine wp_aload (k := 33) rfl rfl ?_
        refine w_gi (k := 34) (s := 53) rfl rfl (by first | assumption | rfl) (am_uv (by decide) t53) ?_
        refine wp_iload (k := 35) rfl rfl ?_
        refine w_iast (k := 36) rfl rfl (by omega) (by first | assumption | rfl) (by omega) ?_
        refine wp_aload (k := 37) rfl rfl ?_
        refine w_gr (k := 38) (s := 52) rfl rfl (by first | assumption | rfl) (by first | assumption | rfl) ?_
        refine wp_aload (k := 39) rfl rfl ?_
        refine w_gi (k := 40) (s := 53) rfl rfl (by first | assumption | rfl) (am_uv (by decide) (am_uv (by decide) t53)) ?_
        refine wp_iload (k := 41) rfl rfl ?_
        refine w_ic (k := 42) (x := nI 4) rfl (oi_nI 4) ?_
        refine w_addN (k := 43) rfl ?_
        refine w_iast (k := 44) rfl rfl (by omega) (by first | assumption | rfl) (by omega) ?_
        refine wp_aload (k := 45) rfl rfl ?_
        refine wp_dup (k := 46) rfl rfl ?_
        refine w_gi (k := 47) (s := 53) rfl rfl (by first | assumption | rfl) (am_uv (by decide) (am_uv (by decide) (am_uv (by decide) t53))) ?_
        refine w_ic (k := 48) (x := nI 1) rfl (oi_nI 1) ?_
        refine w_addN (k := 49) rfl ?_
        refine w_pi (k := 50) (s := 53) rfl rfl (by first | assumption | rfl) ?_
        refine w_rv (k := 51) rfl rfl rfl rfl ?_
        refine hq _ (by rw [am_us, e2]) ?_ ?_ (fun i hi => ?_) (fx_t f2 (fx_t (fx_t (fx_t (fx_p (by decide) (by decide)) (fx_p (by decide) (by decide))) (fx_p (by decide) (by decide))) (fx_s (by decide))))
        · rw [am_uw (by decide) rfl, am_uR (by decide), am_uR (by decide), am_uR (by decide)]; exact t54
        · rw [am_uw (by decide) rfl, am_uR (by decide), am_uR (by decide), am_uR (by decide)]; exact t55
        · rw [e2] at hi
          rw [gD_app hi]
          by_cases e : i = D.length
          · rw [if_pos e]
            subst e
            simp [am_u_app]
          · rw [if_neg e]
            have := tar i (by omega)
            simp [am_u_app, e]
            exact this
      have plain : (snd_ B (kk, ss, q + 4) && decide (kk = 28)) = false → am_V 215 am_c215 d (am_SH N) Q 25 [some (.ref 100), some (.int (nI kk)), some (.int (nI ss)), some (.int (nI q))] [] (am_SH N, I1, L, am_RR w) := by
        intro hp
        have e1 : fin_ B (D ++ [(kk, ss, q + 4)]) = none := by
          rw [fin_app, hf]
          show (if (snd_ B (kk, ss, q + 4) && decide (kk = 28)) = true then some D.length else none) = none
          rw [if_neg (by rw [hp]; decide)]
        exact store I1 y53 (by rw [e1]; exact y54) y55 yar f1
      refine wp_aload (k := 12) rfl rfl ?_
      refine w_gi (k := 13) (s := 54) rfl rfl (by first | assumption | rfl) y54 ?_
      refine w_z_lt (k := 14) (t' := 16) rfl rfl (fun zq => ?_) (fun zq => absurd (show (-1 : Int32) < 0 by decide) zq)
      refine wp_iload (k := 16) rfl rfl ?_
      refine w_ic (k := 17) (x := nI 28) rfl (oi_nI 28) ?_
      refine w_n_ne (k := 18) (t' := 25) rfl rfl (by omega) (fun c1 => ?_) (fun c1 => ?_)
      · exact plain (by rw [decide_eq_false c1]; simp)
      · refine wp_iload (k := 19) rfl rfl ?_
        refine w_ic (k := 20) (x := nI 32) rfl (oi_nI 32) ?_
        refine w_n_ne (k := 21) (t' := 25) rfl rfl (by omega) (fun c2 => ?_) (fun c2 => ?_)
        · exact plain (by subst c1; rw [snd_28, decide_eq_false c2]; rfl)
        · have e1 : fin_ B (D ++ [(kk, ss, q + 4)]) = some D.length := by
            rw [fin_app, hf]
            show (if (snd_ B (kk, ss, q + 4) && decide (kk = 28)) = true then some D.length else none) = _
            rw [if_pos (by subst c1; rw [snd_28, decide_eq_true c2]; rfl)]
          refine wp_aload (k := 22) rfl rfl ?_
          refine wp_iload (k := 23) rfl rfl ?_
          refine w_pi (k := 24) (s := 54) rfl rfl (by first | assumption | rfl) ?_
          refine store _ (by rw [am_uw (by decide) rfl]; exact y53) (by rw [am_us, e1, hlast]) (by rw [am_uw (by decide) rfl]; exact y55) (fun i hi => ?_) (fx_t f1 (fx_s (by decide)))
          rw [am_uR (by decide), am_uR (by decide), am_uR (by decide)]
          exact yar i hi
  have keep : fgi B (D ++ [(kk, ss, q + 4)]) = fgi B D → am_V 215 am_c215 d (am_SH N) Q 12 [some (.ref 100), some (.int (nI kk)), some (.int (nI ss)), some (.int (nI q))] [] (am_SH N, I, L, am_RR w) := fun e => back I h53 h54 (by rw [e, hnew _ (fun j hj => fgi_lt hj)]; exact h55) har fx_rf
  have same : (snd_ B (kk, ss, q + 4) && decide (kk = 32808)) = false → fgi B (D ++ [(kk, ss, q + 4)]) = fgi B D := by
    intro hp
    rw [fgi_app]
    cases hf : fgi B D with
    | some j => rfl
    | none =>
      show (if (snd_ B (kk, ss, q + 4) && decide (kk = 32808)) = true then some D.length else none) = none
      rw [if_neg (by rw [hp]; decide)]
  refine am_enter (ls := [some _, some _, some _, some _]) (cs := am_c215) rfl rfl (Nat.le_of_ble_eq_true rfl) rfl ?_
  refine wp_iload (k := 0) rfl rfl ?_
  refine w_ic (k := 1) (x := nI 32808) rfl (oi_nI 32808) ?_
  refine w_n_ne (k := 2) (t' := 12) rfl rfl (by omega) (fun c1 => ?_) (fun c1 => ?_)
  · exact keep (same (by rw [decide_eq_false c1]; simp))
  · refine wp_iload (k := 3) rfl rfl ?_
    refine w_ic (k := 4) (x := nI 4) rfl (oi_nI 4) ?_
    refine w_n_ne (k := 5) (t' := 12) rfl rfl (by omega) (fun c2 => ?_) (fun c2 => ?_)
    · exact keep (same (by subst c1; rw [snd_32808, decide_eq_false c2]; rfl))
    · cases hf : fgi B D with
      | some j =>
        have hj := fgi_lt hf
        rw [hf] at h55
        refine wp_aload (k := 6) rfl rfl ?_
        refine w_gi (k := 7) (s := 55) rfl rfl (by first | assumption | rfl) h55 ?_
        refine w_z_ge (k := 8) (t' := 12) rfl rfl (fun zq => ?_) (fun zq => absurd (Int32.not_lt.mp (oApos (some j) (fun i hi => by cases hi; exact hj) rfl)) zq)
        exact keep (by rw [fgi_app, hf])
      | none =>
        rw [hf] at h55
        refine wp_aload (k := 6) rfl rfl ?_
        refine w_gi (k := 7) (s := 55) rfl rfl (by first | assumption | rfl) h55 ?_
        refine w_z_ge (k := 8) (t' := 12) rfl rfl (fun zq => absurd zq (show ¬ (0 : Int32) ≤ -1 by decide)) (fun zq => ?_)
        refine wp_aload (k := 9) rfl rfl ?_
        refine wp_iload (k := 10) rfl rfl ?_
        refine w_pi (k := 11) (s := 55) rfl rfl (by first | assumption | rfl) ?_
        refine back _ (by rw [am_uw (by decide) rfl]; exact h53) (by rw [am_uw (by decide) rfl]; exact h54) ?_ (fun i hi => ?_) (fx_s (by decide))
        · rw [am_us, fgi_app, hf]
          show _ = oA _ (if (snd_ B (kk, ss, q + 4) && decide (kk = 32808)) = true then some D.length else none)
          rw [if_pos (by subst c1; rw [snd_32808, decide_eq_true c2]; rfl), hlast]
        · rw [am_uR (by decide), am_uR (by decide), am_uR (by decide)]
          exact har i hi
/-- how the attributes lie: behind each other, each whole -/
theorem c_214 (hB : mT I B) (hq : ∀ I', (msg B = true → mD I' B (ats B)) → fx [135, 136, 137] [53, 54, 55, 56] I I' → Q (some (.int (bI (msg B)))) (am_SH N, I', L, am_RR w)) : am_call (d + 3) 214 [.ref 100, .ref 112, .int (nI B.length)] (am_SH N, I, L, am_RR w) Q := by
  obtain ⟨g1, g2, g3⟩ := hB
  have no : ∀ ls, hdk B = false → am_V 214 am_c214 (d + 2) (am_SH N) Q 20 ls [] (am_SH N, I, L, am_RR w) := by
    intro ls h
    have hm : msg B = false := by unfold msg; rw [h]; rfl
    rw [hm] at hq
    refine w_ic (k := 20) (x := bI false) rfl rfl ?_
    refine w_rz (k := 21) rfl rfl rfl ?_
    exact hq I (fun z => by cases z) fx_rf
  refine am_enter (ls := [some _, some _, some _, none, none, none]) (cs := am_c214) rfl rfl (Nat.le_of_ble_eq_true rfl) rfl ?_
  refine wp_iload (k := 0) rfl rfl ?_
  refine w_ic (k := 1) (x := nI 20) rfl (oi_nI 20) ?_
  refine w_n_lt (k := 2) (t' := 20) rfl rfl (by omega) (fun c1 => ?_) (fun c1 => ?_)
  · exact no _ (decide_eq_false (fun z => absurd z.1 (by omega)))
  · have hg0 := gd_lt g2.2 0
    refine wp_aload (k := 3) rfl rfl ?_
    refine w_ic (k := 4) (x := nI 0) rfl (oi_nI 0) ?_
    refine w_iald (k := 5) rfl rfl (by first | assumption | rfl) (by omega) (g2.1 0 (by omega)) ?_
    refine w_ic (k := 6) (x := nI 63) rfl (oi_nI 63) ?_
    refine w_n_gt (k := 7) (t' := 20) rfl rfl (by omega) (fun c2 => ?_) (fun c2 => ?_)
    · exact no _ (decide_eq_false (fun z => absurd z.2.1 (by omega)))
    · have hb22 := nb_lt g2.2 2 2
      have hb44 := nb_lt g2.2 4 4
      refine wp_aload (k := 8) rfl rfl ?_
      refine w_ic (k := 9) (x := nI 4) rfl (oi_nI 4) ?_
      refine w_Si (k := 10) [_, _] rfl rfl rfl (Nat.le_of_ble_eq_true rfl) (Or.inl ⟨rfl, rfl⟩) ?_
      refine (c_180 (n := 400) rfl (by decide) g2 (by omega) g3 ?_)
      refine ⟨_, rfl, ?_⟩
      refine w_ic (k := 11) (x := nI 554869826) rfl (oi_nI 554869826) ?_
      refine w_c_ne (k := 12) (t' := 20) rfl rfl (fun c3 => ?_) (fun c3 => ?_)
      · exact no _ (decide_eq_false (fun z => c3 (by rw [z.2.2.2])))
      · have c3 : nb B 4 4 = 554869826 := by
          have := congrArg uI c3
          rw [uI_nI (by omega), uI_nI (by decide)] at this
          exact this
        refine wp_aload (k := 13) rfl rfl ?_
        refine w_ic (k := 14) (x := nI 2) rfl (oi_nI 2) ?_
        refine w_Si (k := 15) [_, _] rfl rfl rfl (Nat.le_of_ble_eq_true rfl) (Or.inl ⟨rfl, rfl⟩) ?_
        refine (c_179 (n := 400) rfl (by decide) g2 (by omega) g3 ?_)
        refine ⟨_, rfl, ?_⟩
        refine wp_iload (k := 16) rfl rfl ?_
        refine w_ic (k := 17) (x := nI 20) rfl (oi_nI 20) ?_
        refine w_subN (k := 18) rfl (by omega) ?_
        refine w_n_eq (k := 19) (t' := 22) rfl rfl (by omega) (fun c4 => ?_) (fun c4 => ?_)
        · have hk : hdk B = true := decide_eq_true ⟨c1, by omega, c4, c3⟩
          have hmsg : msg B = decide (pe B 104 20 = B.length) := by unfold msg; rw [hk]; rfl
          have loop : ∀ (f q : Nat) (D : List AT) (I1 : Nat → Nat → Int32) (o4 o5 : Option Value), D.length + f = 104 → 20 + 4 * D.length ≤ q → q ≤ B.length → B.length ≤ q + 4 * f → D ++ ps B f q = ats B → pe B f q = pe B 104 20 → (∀ j, j < D.length → (D.getD j a0).2.2 < 1000) → mD I1 B D → fx [135, 136, 137] [53, 54, 55, 56] I I1 → am_V 214 am_c214 (d + 2) (am_SH N) Q 36 [some (.ref 100), some (.ref 112), some (.int (nI B.length)), some (.int (nI q)), o4, o5] [] (am_SH N, I1, L, am_RR w) := by
            intro f
            induction f with
            | zero =>
              intro q D I1 o4 o5 hD h20 hq1 hq2 e1 e2 hst md f1
              rw [show ps B 0 q = [] from rfl, List.append_nil] at e1
              have e2 : q = pe B 104 20 := e2
              refine wp_iload (k := 36) rfl rfl ?_
              refine wp_iload (k := 37) rfl rfl ?_
              refine w_n_ge (k := 38) (t' := 84) rfl rfl (by omega) (fun zq => ?_) (fun zq => absurd zq (by omega))
              refine w_ic (k := 84) (x := bI true) rfl rfl ?_
              refine w_rz (k := 85) rfl rfl rfl ?_
              rw [hmsg, decide_eq_true (by omega)] at hq
              rw [e1] at md
              exact hq I1 (fun _ => md) f1
            | succ f ih =>
              intro q D I1 o4 o5 hD h20 hq1 hq2 e1 e2 hst md f1
              rw [show ps B (f + 1) q = if q + 4 ≤ B.length then (nb B q 2, nb B (q + 2) 2, q + 4) :: ps B f (q + 4 + pad4 (nb B (q + 2) 2)) else [] from rfl] at e1
              rw [show pe B (f + 1) q = if q + 4 ≤ B.length then pe B f (q + 4 + pad4 (nb B (q + 2) 2)) else q from rfl] at e2
              refine wp_iload (k := 36) rfl rfl ?_
              refine wp_iload (k := 37) rfl rfl ?_
              refine w_n_ge (k := 38) (t' := 84) rfl rfl (by omega) (fun k1 => ?_) (fun k1 => ?_)
              · rw [if_neg (by omega), List.append_nil] at e1
                rw [if_neg (by omega)] at e2
                refine w_ic (k := 84) (x := bI true) rfl rfl ?_
                refine w_rz (k := 85) rfl rfl rfl ?_
                rw [hmsg, decide_eq_true (by omega)] at hq
                rw [e1] at md
                exact hq I1 (fun _ => md) f1
              · have a1 : av I1 112 B := av_keep g2 (f1.1 112 (by decide) (by decide))
                refine wp_iload (k := 39) rfl rfl ?_
                refine w_ic (k := 40) (x := nI 4) rfl (oi_nI 4) ?_
                refine w_addN (k := 41) rfl ?_
                refine wp_iload (k := 42) rfl rfl ?_
                refine w_n_le (k := 43) (t' := 46) rfl rfl (by omega) (fun k2 => ?_) (fun k2 => ?_)
                · rw [if_pos k2] at e1 e2
                  have hk1 := nb_lt a1.2 q 2
                  have hk2 := nb_lt a1.2 (q + 2) 2
                  have hpad := pad4_ge (nb B (q + 2) 2)
                  refine wp_aload (k := 46) rfl rfl ?_
                  refine wp_iload (k := 47) rfl rfl ?_
                  refine w_ic (k := 48) (x := nI 2) rfl (oi_nI 2) ?_
                  refine w_addN (k := 49) rfl ?_
                  refine w_Si (k := 50) [_, _] rfl rfl rfl (Nat.le_of_ble_eq_true rfl) (Or.inl ⟨rfl, rfl⟩) ?_
                  refine (c_179 (n := 400) rfl (by decide) a1 (by omega) g3 ?_)
                  refine ⟨_, rfl, ?_⟩
                  generalize hss : nb B (q + 2) 2 = ss at *
                  refine wp_istore (k := 51) (ls2 := [some _, some _, some _, some _, some _, _]) rfl rfl ?_
                  refine w_ic (k := 52) (x := nI 4) rfl (oi_nI 4) ?_
                  refine wp_iload (k := 53) rfl rfl ?_
                  refine w_ic (k := 54) (x := nI 3) rfl (oi_nI 3) ?_
                  refine w_addN (k := 55) rfl ?_
                  refine w_ic (k := 56) (x := nI 4) rfl (oi_nI 4) ?_
                  refine wp_idiv (k := 57) rfl (by decide) ?_
                  rw [pk_div (by omega) (by decide) (by decide)]
                  refine w_ic (k := 58) (x := nI 4) rfl (oi_nI 4) ?_
                  refine w_mulN (k := 59) rfl ?_
                  refine w_addN (k := 60) rfl ?_
                  refine wp_istore (k := 61) (ls2 := [some _, some _, some _, some _, some _, some _]) rfl rfl ?_
                  refine wp_iload (k := 62) rfl rfl ?_
                  refine wp_iload (k := 63) rfl rfl ?_
                  refine w_addN (k := 64) rfl ?_
                  refine wp_iload (k := 65) rfl rfl ?_
                  refine w_n_le (k := 66) (t' := 69) rfl rfl (by omega) (fun k3 => ?_) (fun k3 => ?_)
                  · have k3 : q + (4 + pad4 ss) ≤ B.length := k3
                    refine wp_aload (k := 69) rfl rfl ?_
                    refine wp_iload (k := 70) rfl rfl ?_
                    refine w_pi (k := 71) (s := 56) rfl rfl (by first | assumption | rfl) ?_
                    refine wp_aload (k := 72) rfl rfl ?_
                    refine wp_aload (k := 73) rfl rfl ?_
                    refine wp_iload (k := 74) rfl rfl ?_
                    refine w_Si (k := 75) [_, _] rfl rfl rfl (Nat.le_of_ble_eq_true rfl) (Or.inl ⟨rfl, rfl⟩) ?_
                    refine (c_179 (n := 400) rfl (by decide) (av_keep a1 (am_uR (by decide))) (by omega) g3 ?_)
                    refine ⟨_, rfl, ?_⟩
                    generalize hkk : nb B q 2 = kk at *
                    obtain ⟨m1, m2, m3, m4, m5⟩ := md
                    refine wp_iload (k := 76) rfl rfl ?_
                    refine wp_iload (k := 77) rfl rfl ?_
                    refine w_Vv (k := 78) [_, _, _] rfl rfl rfl (Nat.le_of_ble_eq_true rfl) (by first | assumption | rfl) (Or.inl ⟨rfl, rfl⟩) ?_
                    refine (c_215 (B := B) (D := D) (by rw [am_uw (by decide) rfl]; exact m1) (by rw [am_uw (by decide) rfl]; exact m2) (by rw [am_uw (by decide) rfl]; exact m3) (fun i hi => by rw [am_uR (by decide), am_uR (by decide), am_uR (by decide)]; exact m5 i hi) (by omega) hst (by omega) (by omega) (by omega) (fun I2 y53 y54 y55 yar f2 => ⟨rfl, ?_⟩))
                    refine wp_iload (k := 79) rfl rfl ?_
                    refine wp_iload (k := 80) rfl rfl ?_
                    refine w_addN (k := 81) rfl ?_
                    refine wp_istore (k := 82) rfl rfl ?_
                    refine w_goto (k := 83) (t' := 36) rfl rfl ?_
                    have f2' : fx [135, 136, 137] [53, 54, 55, 56] I1 I2 := fx_t (fx_s (by decide)) (fx_mo f2 (by decide) (by decide))
                    have hls : I2 100 56 = lsA (D ++ [(kk, ss, q + 4)]) := by
                      rw [f2.2 56 (by decide), am_us]
                      unfold lsA
                      rw [if_neg (by simp), List.length_append, show D.length + [(kk, ss, q + 4)].length - 1 = D.length from rfl, gD_app (by omega), if_pos rfl]
                      show _ = nI (q + 4 - 4)
                      rw [Nat.add_sub_cancel]
                    refine ih (q + (4 + pad4 ss)) (D ++ [(kk, ss, q + 4)]) I2 _ _ (by simp; omega) (by simp; omega) k3 (by omega) ?_ ?_ ?_ ⟨y53, y54, y55, hls, yar⟩ (fx_t f1 f2')
                    · rw [← e1, show q + (4 + pad4 ss) = q + 4 + pad4 ss by omega]; simp
                    · rw [← e2, show q + (4 + pad4 ss) = q + 4 + pad4 ss by omega]
                    · intro j hj
                      have hj : j < D.length + 1 := by simpa using hj
                      rw [gD_app hj]
                      by_cases e : j = D.length
                      · rw [if_pos e]; show q + 4 < 1000; omega
                      · rw [if_neg e]; exact hst j (by omega)
                  · have k3 : B.length < q + (4 + pad4 ss) := k3
                    rw [pe_big _ _ (by omega)] at e2
                    refine w_ic (k := 67) (x := bI false) rfl rfl ?_
                    refine w_rz (k := 68) rfl rfl rfl ?_
                    have hm : msg B = false := by rw [hmsg]; exact decide_eq_false (by omega)
                    rw [hm] at hq
                    exact hq I1 (fun z => by cases z) f1
                · rw [if_neg (by omega)] at e2
                  refine w_ic (k := 44) (x := bI false) rfl rfl ?_
                  refine w_rz (k := 45) rfl rfl rfl ?_
                  have hm : msg B = false := by rw [hmsg]; exact decide_eq_false (by omega)
                  rw [hm] at hq
                  exact hq I1 (fun z => by cases z) f1
          refine wp_aload (k := 22) rfl rfl ?_
          refine w_ic (k := 23) (x := nI 0) rfl (oi_nI 0) ?_
          refine w_pi (k := 24) (s := 53) rfl rfl (by first | assumption | rfl) ?_
          refine wp_aload (k := 25) rfl rfl ?_
          refine w_ic (k := 26) (x := (-1)) rfl (by decide) ?_
          refine w_pi (k := 27) (s := 54) rfl rfl (by first | assumption | rfl) ?_
          refine wp_aload (k := 28) rfl rfl ?_
          refine w_ic (k := 29) (x := (-1)) rfl (by decide) ?_
          refine w_pi (k := 30) (s := 55) rfl rfl (by first | assumption | rfl) ?_
          refine wp_aload (k := 31) rfl rfl ?_
          refine w_ic (k := 32) (x := (-1)) rfl (by decide) ?_
          refine w_pi (k := 33) (s := 56) rfl rfl (by first | assumption | rfl) ?_
          refine w_ic (k := 34) (x := nI 20) rfl (oi_nI 20) ?_
          refine wp_istore (k := 35) (ls2 := [some _, some _, some _, some _, none, none]) rfl rfl ?_
          refine loop 104 20 [] _ none none rfl (by decide) c1 (by omega) rfl rfl (fun j hj => absurd hj (Nat.not_lt_zero j)) ⟨?_, ?_, ?_, am_us, fun i hi => absurd hi (Nat.not_lt_zero i)⟩ (fx_t (fx_t (fx_t (fx_s (by decide)) (fx_s (by decide))) (fx_s (by decide))) (fx_s (by decide)))
          · exact am_uw (by decide) (am_uw (by decide) (am_uw (by decide) am_us))
          · exact am_uw (by decide) (am_uw (by decide) am_us)
          · exact am_uw (by decide) am_us
        · exact no _ (decide_eq_false (fun z => c4 z.2.2.1))
end ML
