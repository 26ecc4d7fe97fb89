/-! ===== what a call keeps: tables, what is sent ===== -/
theorem pu_pw {P : PM} : pu P ↔ P.Pairwise (fun a b => a.1 ≠ b.1) := by
  rw [List.pairwise_iff_getElem]
  constructor
  · intro h i j hi hj hij
    have := h i j hij hj
    rw [List.getD_eq_getElem?_getD, List.getD_eq_getElem?_getD, List.getElem?_eq_getElem hi, List.getElem?_eq_getElem hj] at this
    exact this
  · intro h i j hij hj
    have := h i j (by omega) hj hij
    rw [List.getD_eq_getElem?_getD, List.getD_eq_getElem?_getD, List.getElem?_eq_getElem (by omega), List.getElem?_eq_getElem hj]
    exact this
theorem cu_pw {C : CH} : cu C ↔ C.Pairwise (fun a b => a.1 ≠ b.1 ∧ ¬ (a.2.1 = b.2.1 ∧ a.2.2.1 = b.2.2.1)) := by
  rw [List.pairwise_iff_getElem]
  constructor
  · intro h i j hi hj hij
    have := h i j hij hj
    rw [List.getD_eq_getElem?_getD, List.getD_eq_getElem?_getD, List.getElem?_eq_getElem hi, List.getElem?_eq_getElem hj] at this
    exact this
  · intro h i j hij hj
    have := h i j (by omega) hj hij
    rw [List.getD_eq_getElem?_getD, List.getD_eq_getElem?_getD, List.getElem?_eq_getElem (by omega), List.getElem?_eq_getElem hj]
    exact this
theorem tok_drp {al : Nat → Option AL} (h : tok al) (now : Int64) : tok (fun k => drp now (al k)) := by
  have key : ∀ k b, drp now (al k) = some b → ∃ a, al k = some a ∧ b = (a.1, a.2.1, a.2.2.1, fp_ now a.2.2.2.1, fch now a.2.2.2.2) := by
    intro k b e
    unfold drp at e
    cases ha : al k with
    | none => rw [ha] at e; cases e
    | some a =>
      rw [ha] at e
      simp only at e
      by_cases c : now < a.2.1
      · rw [if_pos c] at e
        exact ⟨a, rfl, (Option.some.inj e).symm⟩
      · rw [if_neg c] at e; cases e
  refine ⟨fun k b hk e => ?_, fun i j a b hij hj e1 e2 => ?_⟩
  · obtain ⟨a, ha, rfl⟩ := key k b e
    obtain ⟨h1, h2, h3, h4, h5⟩ := h.1 k a hk ha
    refine ⟨pu_pw.mpr ((pu_pw.mp h1).filter _), cu_pw.mpr ((cu_pw.mp h2).filter _), Nat.le_trans (List.length_filter_le _ _) h3, Nat.le_trans (List.length_filter_le _ _) h4, h5⟩
  · obtain ⟨a', ha, rfl⟩ := key i a e1
    obtain ⟨b', hb, rfl⟩ := key j b e2
    exact h.2 i j a' b' hij hj ha hb
theorem tok_alt {al : Nat → Option AL} (h : tok al) (t : Int64) (n : Int32) : tok (alt al t n) := by
  unfold alt
  by_cases c : oktk n = true
  · rw [if_pos c]; exact tok_drp h _
  · rw [if_neg c]; exact h
/-- one table anew: none, or with the same client and port -/
theorem tok_up {al : Nat → Option AL} (h : tok al) {k : Nat} (hk : k < 8) {a : AL} (ha : al k = some a) {o : Option AL} (ho : ∀ b, o = some b → alo b ∧ b.1 = a.1) : tok (upa al k o) := by
  refine ⟨fun j b hj e => ?_, fun i j b c hij hj e1 e2 => ?_⟩
  · unfold upa at e
    by_cases q : j = k
    · rw [if_pos q] at e; exact (ho b e).1
    · rw [if_neg q] at e; exact h.1 j b hj e
  · unfold upa at e1 e2
    by_cases q1 : i = k
    · rw [if_pos q1] at e1
      rw [if_neg (by omega)] at e2
      have := h.2 i j a c hij hj (by rw [q1]; exact ha) e2
      rw [(ho b e1).2]; exact this
    · rw [if_neg q1] at e1
      by_cases q2 : j = k
      · rw [if_pos q2] at e2
        have := h.2 i j b a hij hj e1 (by rw [q2]; exact ha)
        rw [(ho c e2).2]; exact this
      · rw [if_neg q2] at e2
        exact h.2 i j b c hij hj e1 e2
theorem fpl_spec {al : Nat → Option AL} : ∀ (r p : Nat), ∃ j, j ≤ r ∧ fpl al r p = p + j ∧ (∀ i, i < j → (ptf al (nI (p + i))).isSome = true) ∧ (j < r → (ptf al (nI (p + j))).isSome = false)
  | 0, p => ⟨0, Nat.le_refl _, rfl, fun i hi => absurd hi (Nat.not_lt_zero _), fun h => absurd h (Nat.not_lt_zero _)⟩
  | r + 1, p => by
    rw [show fpl al (r + 1) p = if (ptf al (nI p)).isSome then fpl al r (p + 1) else p from rfl]
    cases c : (ptf al (nI p)).isSome with
    | false =>
      rw [if_neg (by decide)]
      exact ⟨0, Nat.zero_le _, rfl, fun i hi => absurd hi (Nat.not_lt_zero _), fun _ => c⟩
    | true =>
      rw [if_pos rfl]
      obtain ⟨j, h1, h2, h3, h4⟩ := fpl_spec (al := al) r (p + 1)
      refine ⟨j + 1, by omega, by rw [h2]; omega, fun i hi => ?_, fun h => ?_⟩
      · cases i with
        | zero => exact c
        | succ i => have := h3 i (by omega); rw [show p + (i + 1) = p + 1 + i by omega]; exact this
      · rw [show p + (j + 1) = p + 1 + j by omega]; exact h4 (by omega)
theorem fpl_free {al : Nat → Option AL} {k : Nat} (hk : k < 8) (hf : al k = none) : fpl al 8 49152 < 49160 ∧ 49152 ≤ fpl al 8 49152 ∧ ptf al (nI (fpl al 8 49152)) = none := by
  obtain ⟨j, h1, h2, h3, h4⟩ := fpl_spec (al := al) 8 49152
  have hj : j < 8 := by
    refine Classical.byContradiction fun q => ?_
    have h3 : ∀ i, i < 8 → ∃ g, g < 8 ∧ ∃ a, al g = some a ∧ a.1.2.2.2 = nI (49152 + i) := fun i hi => by
      have := h3 i (by omega)
      cases e : ptf al (nI (49152 + i)) with
      | none => rw [e] at this; cases this
      | some g => obtain ⟨g1, a, g2, g3⟩ := ptf_lt e; exact ⟨g, g1, a, g2, g3⟩
    obtain ⟨i, hi, e⟩ := fb_onto (n := 8) (f := fun i => if h : i < 8 then Classical.choose (h3 i h) else 0) (fun i hi => by
      simp only [dif_pos hi]
      exact (Classical.choose_spec (h3 i hi)).1) (fun i j hij hj => by
      simp only [dif_pos (show i < 8 by omega), dif_pos hj]
      intro e
      obtain ⟨-, a, a1, a2⟩ := Classical.choose_spec (h3 i (by omega))
      obtain ⟨-, b, b1, b2⟩ := Classical.choose_spec (h3 j hj)
      rw [e, b1] at a1
      have := Option.some.inj a1
      rw [← this, b2] at a2
      have := congrArg uI a2
      rw [uI_nI (by omega), uI_nI (by omega)] at this
      omega) hk
    simp only [dif_pos hi] at e
    obtain ⟨-, a, a1, -⟩ := Classical.choose_spec (h3 i hi)
    rw [e, hf] at a1
    cases a1
  have hn := h4 hj
  rw [h2]
  refine ⟨by omega, by omega, ?_⟩
  cases e : ptf al (nI (49152 + j)) with
  | none => rfl
  | some g => rw [e] at hn; cases hn
theorem tok_new {al : Nat → Option AL} (h : tok al) {k : Nat} (hk : k < 8) (hf : al k = none) {ip port sg : Int32} (hc : clf al ip port = none) {tl : Int64} {id3 : Int32 × Int32 × Int32} : tok (upa al k (some ((ip, port, sg, nI (fpl al 8 49152)), tl, id3, [], []))) := by
  obtain ⟨f1, f2, f3⟩ := fpl_free hk hf
  have hcl : ∀ j b, j < 8 → al j = some b → ¬ (b.1.1 = ip ∧ b.1.2.1 = port) ∧ b.1.2.2.2 ≠ nI (fpl al 8 49152) := by
    intro j b hj e
    have c1 := ff_none hc j (Nat.zero_le _) (by omega)
    have c2 := ff_none f3 j (Nat.zero_le _) (by omega)
    unfold isc at c1
    unfold isp at c2
    rw [e] at c1 c2
    exact ⟨of_decide_eq_false c1, of_decide_eq_false c2⟩
  refine ⟨fun j b hj e => ?_, fun i j b c hij hj e1 e2 => ?_⟩
  · unfold upa at e
    by_cases q : j = k
    · rw [if_pos q] at e
      have e := Option.some.inj e
      subst e
      exact ⟨fun i j _ hj => absurd hj (Nat.not_lt_zero _), fun i j _ hj => absurd hj (Nat.not_lt_zero _), Nat.zero_le _, Nat.zero_le _, fpl al 8 49152, f2, f1, rfl⟩
    · rw [if_neg q] at e; exact h.1 j b hj e
  · unfold upa at e1 e2
    by_cases q1 : i = k
    · rw [if_pos q1] at e1
      rw [if_neg (by omega)] at e2
      have e1 := Option.some.inj e1
      subst e1
      obtain ⟨y1, y2⟩ := hcl j c hj e2
      exact ⟨fun z => y1 ⟨z.1.symm, z.2.symm⟩, fun z => y2 z.symm⟩
    · rw [if_neg q1] at e1
      by_cases q2 : j = k
      · rw [if_pos q2] at e2
        have e2 := Option.some.inj e2
        subst e2
        exact hcl i b (by omega) e1
      · rw [if_neg q2] at e2
        exact h.2 i j b c hij hj e1 e2
theorem pu_pms {P : PM} (h : pu P) (hl : P.length ≤ 16) (t : Int64) : ∀ X : List Int32, pu (pms t P X) ∧ (pms t P X).length ≤ 16 := by
  intro X
  induction X generalizing P with
  | nil => exact ⟨h, hl⟩
  | cons x X ih => exact ih (pu_pmt h x _) (pmt_len hl x _)
theorem cu_cbd {C : CH} {n ip port : Int32} {t : Int64} (h : cu C) (hl : C.length ≤ 8) (he : cf C n = ct C ip port) : cu (cbd C n ip port t) ∧ (cbd C n ip port t).length ≤ 8 := by
  unfold cbd
  cases hc : cf C n with
  | some i =>
    obtain ⟨i1, i2⟩ := cf_lt hc
    obtain ⟨-, i3, i4⟩ := ct_lt (he.symm.trans hc)
    have e : ∀ z, z < C.length → ((C.set i (n, ip, port, t)).getD z c0).1 = (C.getD z c0).1 ∧ ((C.set i (n, ip, port, t)).getD z c0).2.1 = (C.getD z c0).2.1 ∧ ((C.set i (n, ip, port, t)).getD z c0).2.2.1 = (C.getD z c0).2.2.1 := fun z hz => by
      rw [gD_set hz]
      by_cases q : z = i
      · rw [if_pos q, q]; exact ⟨i2.symm, i3.symm, i4.symm⟩
      · rw [if_neg q]; exact ⟨rfl, rfl, rfl⟩
    refine ⟨fun a b hab hb => ?_, by show (C.set i _).length ≤ 8; rw [List.length_set]; exact hl⟩
    have hb : b < C.length := by have : b < (C.set i (n, ip, port, t)).length := hb; rwa [List.length_set] at this
    show ((C.set i (n, ip, port, t)).getD a c0).1 ≠ ((C.set i (n, ip, port, t)).getD b c0).1 ∧ ¬ (((C.set i (n, ip, port, t)).getD a c0).2.1 = ((C.set i (n, ip, port, t)).getD b c0).2.1 ∧ ((C.set i (n, ip, port, t)).getD a c0).2.2.1 = ((C.set i (n, ip, port, t)).getD b c0).2.2.1)
    rw [(e a (by omega)).1, (e b hb).1, (e a (by omega)).2.1, (e b hb).2.1, (e a (by omega)).2.2, (e b hb).2.2]
    exact h a b hab hb
  | none =>
    show cu (if C.length < 8 then C ++ [(n, ip, port, t)] else C) ∧ (if C.length < 8 then C ++ [(n, ip, port, t)] else C).length ≤ 8
    have hct : ct C ip port = none := he.symm.trans hc
    by_cases q : C.length < 8
    · rw [if_pos q]
      refine ⟨fun a b hab hb => ?_, by rw [List.length_append]; show C.length + 1 ≤ 8; omega⟩
      rw [List.length_append] at hb
      have hb : b < C.length + 1 := hb
      rw [gD_app (by omega), gD_app hb, if_neg (by omega)]
      by_cases z : b = C.length
      · rw [if_pos z]
        have y1 := ff_none hc a (Nat.zero_le _) (by omega)
        have y2 := ff_none hct a (Nat.zero_le _) (by omega)
        exact ⟨of_decide_eq_false y1, of_decide_eq_false y2⟩
      · rw [if_neg z]; exact h a b hab (by omega)
    · rw [if_neg q]; exact ⟨h, hl⟩
theorem tok_pfm {al : Nat → Option AL} (h : tok al) (t : Int64) (n sg : Int32) (F : FR) (B : List Nat) (ip port m : Int32) : tok (pfm al t n sg F B ip port m).2.1 := by
  unfold pfm
  by_cases m1 : m = nI 1
  · rw [if_pos m1]; exact h
  · rw [if_neg m1]
    by_cases m3 : m = nI 3
    · rw [if_pos m3]
      unfold alc
      cases hc : clf al ip port with
      | some k =>
        simp only
        cases ha : al k with
        | none => exact h
        | some a =>
          simp only
          by_cases q : a.2.2.1 = idB B
          · rw [if_pos q]; exact h
          · rw [if_neg q]; exact h
      | none =>
        simp only
        cases fnd B 25 with
        | none => exact h
        | some i =>
          simp only
          by_cases q1 : B.getD (stA B i) 0 = 17
          · rw [if_pos q1]
            by_cases q2 : nI (ctu al sg 8) < n
            · rw [if_pos q2]
              cases hf : frf al with
              | none => exact h
              | some k =>
                obtain ⟨-, k2, k3, -⟩ := ff_some hf
                have hn : al k = none := by
                  cases e : al k with
                  | none => rfl
                  | some a => rw [e] at k3; cases k3
                exact tok_new h (by omega) hn hc
            · rw [if_neg q2]; exact h
          · rw [if_neg q1]; exact h
    · rw [if_neg m3]
      cases hc : clf al ip port with
      | none => exact h
      | some k =>
        obtain ⟨hk8, a, ha, -⟩ := clf_lt hc
        obtain ⟨o1, o2, o3, o4, o5⟩ := h.1 k a hk8 ha
        simp only [ha]
        by_cases u : a.1.2.2.1 = sg
        · rw [if_pos u]
          by_cases m4 : m = nI 4
          · rw [if_pos m4]
            have r1 : tok (upa al k none) := tok_up h hk8 ha (fun b e => by cases e)
            have r2 : tok (upa al k (some (a.1, t + lN (lfe B), a.2.2))) := tok_up h hk8 ha (fun b e => by cases e; exact ⟨⟨o1, o2, o3, o4, o5⟩, rfl⟩)
            unfold rfr
            (repeat' split) <;> assumption
          · rw [if_neg m4]
            by_cases m8 : m = nI 8
            · rw [if_pos m8]
              unfold ppr
              by_cases q1 : (prs B (cts B)).length = 0
              · rw [if_pos q1]; exact h
              · rw [if_neg q1]
                by_cases q2 : (prs B (cts B)).any (brd F) = true
                · rw [if_pos q2]; exact h
                · rw [if_neg q2]
                  by_cases q3 : a.2.2.2.1.length + nwp a.2.2.2.1 (prs B (cts B)) ≤ 16
                  · rw [if_pos q3]
                    have pp := pu_pms o1 o3 t (prs B (cts B))
                    exact tok_up h hk8 ha (fun b e => by cases e; exact ⟨⟨pp.1, o2, pp.2, o4, o5⟩, rfl⟩)
                  · rw [if_neg q3]; exact h
            · rw [if_neg m8]
              unfold bch
              cases fnd B 12 with
              | none => exact h
              | some c =>
                simp only
                cases fnd B 18 with
                | none => exact h
                | some p =>
                  simp only
                  by_cases q1 : (16384 ≤ nb B (stA B c) 2 ∧ nb B (stA B c) 2 ≤ 20479) ∧ cf a.2.2.2.2 (nI (nb B (stA B c) 2)) = ct a.2.2.2.2 (ipo B p) (poo B p)
                  · rw [if_pos q1]
                    by_cases q2 : brd F (ipo B p) = true
                    · rw [if_pos q2]; exact h
                    · rw [if_neg q2]
                      by_cases q3 : (((cf a.2.2.2.2 (nI (nb B (stA B c) 2))).isSome || decide (a.2.2.2.2.length < 8)) && ((pf a.2.2.2.1 (ipo B p)).isSome || decide (a.2.2.2.1.length < 16))) = true
                      · rw [if_pos q3]
                        have cc := cu_cbd (t := t + lN 600) o2 o4 q1.2
                        exact tok_up h hk8 ha (fun b e => by cases e; exact ⟨⟨pu_pmt o1 _ _, cc.1, pmt_len o3 _ _, cc.2, o5⟩, rfl⟩)
                      · rw [if_neg q3]; exact h
                  · rw [if_neg q1]; exact h
        · rw [if_neg u]; exact h
theorem tok_dgr {U : UR} {rl : List Nat} {fr : Int64} {n : Int32} {F : FR} {al : Nat → Option AL} {t : Int64} {B : List Nat} {s : SN} {T : Nat → Int32} {ip port : Int32} (h : tok al) : tok (dgr U rl fr n F al t B s T ip port).2 := by
  unfold dgr
  by_cases q1 : chD B = true
  · rw [if_pos q1]; exact h
  · rw [if_neg q1]
    by_cases q2 : (msg B && !fpw B) = true
    · rw [if_pos q2]
      by_cases q3 : rnk (nb B 0 2) = 0
      · rw [if_pos q3]
        show tok (prf U rl fr n F al t B ip port (mth (nb B 0 2))).2.1
        unfold prf
        by_cases q4 : (acs U rl fr B (mth (nb B 0 2))).1 = 0
        · rw [if_pos q4]; exact tok_pfm h _ _ _ _ _ _ _ _
        · rw [if_neg q4]; exact h
      · rw [if_neg q3]
        by_cases q4 : rnk (nb B 0 2) = nI 1 ∧ mth (nb B 0 2) = nI 6
        · rw [if_pos q4]; exact h
        · rw [if_neg q4]; exact h
    · rw [if_neg q2]; exact h
