/-! ===== the small machine's word on a method is the great one's contract of it ===== -/
theorem am_row_at {own : String} {cc : ByteArray} {nL fr lo : Nat} {ini : Bool} {rt : Option FieldType} {pcs : Nat → Nat} : ∀ (rs : List (Nat × Instr × Nat × Nat)) (cs : List Instr) (k : Nat), am_row own cc nL fr lo ini rt pcs k rs cs = true → ∀ j, j < cs.length → ∃ ri len hint, decode cc (pcs (k + j)) = .ok (ri, len) ∧ am_ck own nL fr lo ini rt pcs (k + j) ri len hint (am_nth cs j) = true
  | [], [], _, _, j, hj => absurd hj (Nat.not_lt_zero _)
  | [], _ :: _, _, h, _, _ => by simp [am_row] at h
  | _ :: _, [], _, h, _, _ => by simp [am_row] at h
  | (pc, ri, len, hint) :: rs, ai :: cs, k, h, j, hj => by
    simp only [am_row, Bool.and_eq_true, decide_eq_true_eq] at h
    obtain ⟨h1, h2, h3, h4⟩ := h
    cases j with
    | zero => exact ⟨ri, len, hint, by rw [Nat.add_zero, h1]; exact h2, h3⟩
    | succ j =>
      have := am_row_at rs cs (k + 1) h4 j (by simpa using hj)
      rw [show k + 1 + j = k + (j + 1) by omega] at this
      exact this
theorem am_nth_none : ∀ (cs : List Instr) (k : Nat), ¬ k < cs.length → am_nth cs k = .nop
  | [], _, _ => rfl
  | _ :: _, 0, h => absurd (Nat.succ_pos _) h
  | _ :: cs, k + 1, h => am_nth_none cs k (by simpa using h)
theorem am_slots_lg (ad : Nat → Nat) : ∀ (as : List Value), (lg_sl (as.map (am_vv ad))).length = (am_slots as).length ∧ ∀ (j : Nat) (v : Value), (am_slots as)[j]? = some (some v) → (lg_sl (as.map (am_vv ad)))[j]? = some (.val (am_vv ad v))
  | [] => ⟨rfl, fun j v h => by simp [am_slots] at h⟩
  | a :: as => by
    obtain ⟨h1, h2⟩ := am_slots_lg ad as
    have e : lg_sl ((a :: as).map (am_vv ad)) = (if a.category = 2 then [.val (am_vv ad a), .second] else [.val (am_vv ad a)]) ++ lg_sl (as.map (am_vv ad)) := by simp [lg_sl, am_vv_cat]
    rw [e]
    unfold am_slots
    by_cases hc : a.category = 2
    · rw [if_pos hc, if_pos hc]
      refine ⟨by simp [h1], fun j v hj => ?_⟩
      match j, hj with
      | 0, hj => simp only [List.getElem?_cons_zero, Option.some.injEq] at hj; subst hj; rfl
      | 1, hj => simp at hj
      | j + 2, hj => exact h2 j v (by simpa using hj)
    · rw [if_neg hc, if_neg hc]
      refine ⟨by simp [h1], fun j v hj => ?_⟩
      match j, hj with
      | 0, hj => simp only [List.getElem?_cons_zero, Option.some.injEq] at hj; subst hj; rfl
      | j + 1, hj => exact h2 j v (by simpa using hj)
theorem am_slots_mem : ∀ (as : List Value) (v : Value), some v ∈ am_slots as → v ∈ as
  | [], v, h => by simp [am_slots] at h
  | a :: as, v, h => by
    unfold am_slots at h
    split at h
    · rcases List.mem_cons.mp h with e | h
      · cases e; exact List.mem_cons_self
      · rcases List.mem_cons.mp h with e | h
        · cases e
        · exact List.mem_cons_of_mem _ (am_slots_mem as v h)
    · rcases List.mem_cons.mp h with e | h
      · cases e; exact List.mem_cons_self
      · exact List.mem_cons_of_mem _ (am_slots_mem as v h)
theorem am_ent_loc {ad : Nat → Nat} {as : List Value} {n : Nat} (hn : (am_slots as).length ≤ n) : am_loc ad (am_ent as n) n ((lg_sl (as.map (am_vv ad)) ++ List.replicate (n - (lg_sl (as.map (am_vv ad))).length) Slot.unset).toArray) := by
  obtain ⟨h1, h2⟩ := am_slots_lg ad as
  have hl := lv_entry (as.map (am_vv ad)) (n := n) (by rw [h1]; exact hn)
  refine ⟨hl.1, hl.2.1, by simp [am_ent]; omega, fun j v hj => ?_⟩
  unfold am_ent at hj
  have hlt : j < (am_slots as).length := by
    rcases Nat.lt_or_ge j (am_slots as).length with q | q
    · exact q
    · rw [List.getElem?_append_right q] at hj
      have := List.mem_of_getElem? hj
      simp at this
  rw [List.getElem?_append_left hlt] at hj
  have := h2 j v hj
  rw [List.getElem?_toArray, List.getElem?_append_left (by rw [h1]; exact hlt)]
  exact this
theorem am_ent_mem {as : List Value} {n : Nat} {v : Value} (h : some v ∈ am_ent as n) : v ∈ as := by
  unfold am_ent at h
  rcases List.mem_append.mp h with h | h
  · exact am_slots_mem as v h
  · simp at h
section AMS
variable {l : Launch} {D : va_G} {cA : Nat → ClassId} {base : Nat} {L0 : Nat → Nat} {X0 : Nat → Nat → Int32}
theorem am_sound : ∀ (d q : Nat) (as : List Value) (h : am_H) (Q : am_Q), (0 < q ∧ q < am_NM) → am_call d q as h Q → am_Met l D cA base L0 X0 (am_y q) (am_cc q) (am_nl q) (am_rt q) (am_fr q) (am_lo q) (am_mc q) (am_ms q) as h Q
  | 0, _, _, _, _, _, hc => hc.elim
  | d + 1, q, as, h, Q, hq, hc => by
    obtain ⟨hn, hw⟩ := hc
    obtain ⟨c1, c2, c3, c4, -⟩ := am_o2_all hq
    intro a0
    refine Met.ofW (cc := am_cc q) (maxL := am_nl q) (ret := am_rt q) c4 rfl ?_
    intro p e s m args below meth c s₁ B hml hv
    obtain ⟨rfl, hwf, hrel, henv⟩ := hv
    have hts := atoms_spec (ws := Cond.code (am_y q) (am_cc q) (am_nl q) (am_rt q) :: am_tbl) B.pre
    have hown : s.vm.findClass (am_y q).cls = some m.cls := findClass_of_methodNamed B.named
    have hlocks := B.notSynchronized
    have hr := B.returns
    have hin : meth.name = (am_y q).name := (name_of_methodNamed B.named B.method).1
    have F : am_F p s m ((as.map (am_vv a0)).toArray) c (am_cc q) (am_nl q) (am_y q).cls (Cond.code (am_y q) (am_cc q) (am_nl q) (am_rt q) :: am_tbl) D a0 cA base L0 X0 := ⟨B.exec, B.bytes, hml, hown, hts, fun w hw => List.mem_cons_of_mem _ hw, henv⟩
    have hvb := am_vb_all (q := q) (by omega)
    unfold am_vb at hvb
    rw [Bool.and_eq_true, decide_eq_true_eq] at hvb
    have key := hw (am_J p l e (headSpec (Cond.code (am_y q) (am_cc q) (am_nl q) (am_rt q) :: am_tbl) (am_rm (am_fr q) (am_lo q) (am_mc q) (am_ms q))).room s m ((as.map (am_vv a0)).toArray) below meth c (MQ below (am_Qc D a0 cA base L0 X0 (am_mc q) (am_ms q) h Q) ((as.map (am_vv a0)).toArray) s (am_mc q) (am_ms q) (fun a => base ≤ a)) (am_nl q) D a0 cA base L0 X0 h.1.length (am_sl h.1) (am_pc q)) (by
      intro k ls st h1 hs
      by_cases hk : k < (am_cs q).length
      · obtain ⟨ri, len, hint, hd, hb⟩ := am_row_at _ _ 0 hvb.2 k hk
        rw [Nat.zero_add] at hd hb
        refine am_close F hrel.2.2.1 rfl rfl rfl rfl (fun hi => by rw [hin]; exact of_decide_eq_true hi) (fun q2 as2 h2 Q2 hq2 hc2 => am_sound d q2 as2 h2 Q2 hq2 hc2) (fun q2 hq2 => am_o2_all hq2) (am_nth (am_cs q) k) (fun hi hs2 => ?_) hd hb hs
        rcases hi with hi | hi | hi | hi
        · rw [hi] at hb hs2
          simp only [am_ck, Bool.and_eq_true, Bool.or_eq_true, decide_eq_true_eq] at hb
          obtain ⟨rfl, rfl, hrt | hrt⟩ := hb
          · exact aj_ireturn F hlocks (hr.trans hrt) hd hs2
          · exact aj_zreturn F hlocks (hr.trans hrt) hrt hd hs2
        · rw [hi] at hb hs2
          simp only [am_ck, Bool.and_eq_true, decide_eq_true_eq] at hb
          obtain ⟨rfl, rfl, hrt⟩ := hb
          exact aj_lreturn F hlocks (hr.trans hrt) hd hs2
        · rw [hi] at hb hs2
          simp only [am_ck, Bool.and_eq_true, decide_eq_true_eq] at hb
          obtain ⟨rfl, rfl, hrt⟩ := hb
          split at hrt
          · rename_i ty hty
            exact aj_areturn F hlocks (hr.trans hty) hd hs2
          · cases hrt
        · rw [hi] at hb hs2
          simp only [am_ck, Bool.and_eq_true, decide_eq_true_eq] at hb
          obtain ⟨rfl, rfl, hrt⟩ := hb
          exact aj_return F hlocks (hr.trans hrt) hd hs2
      · rw [am_nth_none _ _ hk] at hs
        exact hs.elim)
    rw [lg_entry_eq]
    have hJ := key a0 s.heap [] _ 0 0 (fun _ _ => rfl) ⟨fun v hv => hwf.2.1 v (am_ent_mem hv), fun v hv => by simp at hv, hwf.2.2⟩ hrel va_S.rf (am_ent_loc (ad := a0) hn) (by omega) (by omega) ⟨Nat.le_add_right _ _, Nat.le_add_right _ _⟩
    rw [hvb.1] at hJ
    exact hJ
end AMS
