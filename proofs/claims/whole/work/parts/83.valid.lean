/-! ===== the check of all methods ===== -/
noncomputable def am_pc (q : Nat) (k : Nat) : Nat := ((am_rows.getD q []).getD k (0, .nop, 0, 0)).1
noncomputable def am_row (own : String) (cc : ByteArray) (nL fr lo : Nat) (ini : Bool) (rt : Option FieldType) (pcs : Nat → Nat) : Nat → List (Nat × Instr × Nat × Nat) → List Instr → Bool
  | _, [], [] => true
  | k, (pc, ri, len, hint) :: rs, ai :: cs => decide (pcs k = pc) && (decide (decode cc pc = .ok (ri, len)) && (am_ck own nL fr lo ini rt pcs k ri len hint ai && am_row own cc nL fr lo ini rt pcs (k + 1) rs cs))
  | _, _, _ => false
noncomputable def am_vb (q : Nat) : Bool := decide (am_pc q 0 = 0) && am_row (am_y q).cls (am_cc q) (am_nl q) (am_fr q) (am_lo q) (decide ((am_y q).name = "<init>")) (am_rt q) (am_pc q) 0 (am_rows.getD q []) (am_cs q)
noncomputable def am_o2 (q : Nat) : Bool := match am_hints.getD q (0, 0, 0, 0) with
  | (hc, hi, ha, hs) => am_wd hc (.code (am_y q) (am_cc q) (am_nl q) (am_rt q)) && (am_wd hi (.initialized (am_y q).cls) && (decide ((am_y q).cls ≠ "java/lang/invoke/MethodHandle" ∧ (am_y q).cls ≠ "java/lang/invoke/VarHandle") && (plainName (am_y q).cls && (match (parseMethodDescriptor (am_y q).desc).map (fun d => d.parameters.length) with
    | none => false
    | some n => if am_rc q < 50 then decide (am_na q = n + 1) && (am_wd ha (.instanceMethod (am_y q)) && ((!am_vi q || am_wd hs (.selects (am_y q).cls (am_y q) (am_y q))) && (match am_cl[am_rc q]? with
        | some (Cn, _, _) => decide (Cn = (am_y q).cls)
        | none => false)))
      else decide (am_rc q = 99) && (decide (am_na q = n) && am_wd ha (.static (am_y q)))))))
theorem am_o2_ok {q : Nat} (h : am_o2 q = true) : am_ok2 q := by
  unfold am_o2 at h
  split at h
  rename_i hc hi ha hs _
  simp only [Bool.and_eq_true, decide_eq_true_eq] at h
  obtain ⟨h1, h2, h3, h4, h5⟩ := h
  refine ⟨am_wd_ok h1, am_wd_ok h2, h3, h4, ?_⟩
  split at h5
  · cases h5
  · rename_i n hn
    refine ⟨n, hn, fun hr => ?_, fun hr => ?_⟩
    · rw [if_pos hr] at h5
      simp only [Bool.and_eq_true, decide_eq_true_eq] at h5
      obtain ⟨g1, g2, g3, g4⟩ := h5
      refine ⟨g1, am_wd_ok g2, fun hv => ?_, ?_⟩
      · rw [hv] at g3
        exact am_wd_ok (by simpa using g3)
      · split at g4
        · rename_i Cn T N hcl
          have g4 : Cn = (am_y q).cls := by simpa using g4
          exact ⟨T, N, by rw [hcl, g4]⟩
        · cases g4
    · rw [if_neg (by omega)] at h5
      simp only [Bool.and_eq_true, decide_eq_true_eq] at h5
      exact ⟨h5.2.1, am_wd_ok h5.2.2⟩
