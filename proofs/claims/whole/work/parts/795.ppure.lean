/-! ===== permissions told twice ===== -/
def okA (A : List Nat) (i : Nat) : Bool := decide (((ats A).getD i a0).1 = 18) && snd_ A ((ats A).getD i a0)
def Xi (A : List Nat) (i : Nat) : List Int32 := prs A ((ats A).take i)
theorem Xi_s {A : List Nat} {i : Nat} (hi : i < (ats A).length) : Xi A (i + 1) = if okA A i then (if ipo A i ∈ Xi A i then Xi A i else Xi A i ++ [ipo A i]) else Xi A i := by
  unfold Xi prs
  rw [tkD a0 hi, List.foldl_append]
  rfl
theorem Xi_mem {A : List Nat} : ∀ {i : Nat}, i ≤ (ats A).length → ∀ x, x ∈ Xi A i ↔ ∃ j, j < i ∧ okA A j = true ∧ ipo A j = x
  | 0, _, x => ⟨fun h => absurd h (List.not_mem_nil), fun ⟨j, hj, _⟩ => absurd hj (Nat.not_lt_zero _)⟩
  | i + 1, hi, x => by
    have ih := Xi_mem (A := A) (i := i) (by omega) x
    rw [Xi_s (by omega)]
    by_cases c : okA A i = true
    · rw [if_pos c]
      have key : (x ∈ if ipo A i ∈ Xi A i then Xi A i else Xi A i ++ [ipo A i]) ↔ (x ∈ Xi A i ∨ x = ipo A i) := by
        by_cases c2 : ipo A i ∈ Xi A i
        · rw [if_pos c2]
          exact ⟨Or.inl, fun h => h.elim id (fun e => e ▸ c2)⟩
        · rw [if_neg c2, List.mem_append, List.mem_singleton]
      rw [key, ih]
      constructor
      · rintro (⟨j, h1, h2, h3⟩ | h)
        · exact ⟨j, by omega, h2, h3⟩
        · exact ⟨i, by omega, c, h.symm⟩
      · rintro ⟨j, h1, h2, h3⟩
        by_cases e : j = i
        · exact Or.inr (by rw [← h3, e])
        · exact Or.inl ⟨j, by omega, h2, h3⟩
    · rw [if_neg c, ih]
      constructor
      · rintro ⟨j, h1, h2, h3⟩
        exact ⟨j, by omega, h2, h3⟩
      · rintro ⟨j, h1, h2, h3⟩
        refine ⟨j, ?_, h2, h3⟩
        by_cases e : j = i
        · rw [e] at h2; exact absurd h2 c
        · omega
theorem Xi_pre {A : List Nat} : ∀ {r i : Nat}, i + r ≤ (ats A).length → ∃ Z, Xi A (i + r) = Xi A i ++ Z
  | 0, i, _ => ⟨[], by simp⟩
  | r + 1, i, h => by
    obtain ⟨Z, hZ⟩ := Xi_pre (A := A) (r := r) (i := i) (by omega)
    rw [← Nat.add_assoc, Xi_s (by omega), hZ]
    by_cases c : okA A (i + r) = true
    · rw [if_pos c]
      by_cases c2 : ipo A (i + r) ∈ Xi A i ++ Z
      · rw [if_pos c2]; exact ⟨Z, rfl⟩
      · rw [if_neg c2]; exact ⟨Z ++ [ipo A (i + r)], by rw [List.append_assoc]⟩
    · rw [if_neg c]; exact ⟨Z, rfl⟩
theorem nwp_app (P : PM) (X Z : List Int32) : nwp P (X ++ Z) = nwp P X + nwp P Z := by unfold nwp; rw [List.countP_append]
theorem nwp_1 (P : PM) (x : Int32) : nwp P [x] = if (pf P x).isNone then 1 else 0 := by
  unfold nwp
  rw [List.countP_cons, List.countP_nil, Nat.zero_add]
def hasT (P : PM) (x : Int32) (tt : Int64) : Prop := ∃ j, pf P x = some j ∧ P.getD j p0 = (x, tt)
theorem pf_set {P : PM} {y : Int32} {j : Nat} (hj : pf P y = some j) (tt : Int64) (x : Int32) : pf (P.set j (y, tt)) x = pf P x := by
  obtain ⟨h1, h2⟩ := pf_lt hj
  unfold pf
  rw [List.length_set]
  refine ff_cong (fun k _ hk => ?_)
  rw [gD_set (by omega)]
  by_cases e : k = j
  · rw [if_pos e, e, h2]
  · rw [if_neg e]
theorem pf_app (P : PM) (y : Int32) (tt : Int64) (x : Int32) : pf (P ++ [(y, tt)]) x = match pf P x with
    | some j => some j
    | none => if y = x then some P.length else none := by
  unfold pf
  rw [List.length_append, show [(y, tt)].length = 1 from rfl, ff_snoc, Nat.zero_add]
  have e : ff (fun i => decide (((P ++ [(y, tt)]).getD i p0).1 = x)) 0 P.length = ff (fun i => decide ((P.getD i p0).1 = x)) 0 P.length := ff_cong (fun k _ hk => by rw [gD_app (by omega), if_neg (by omega)])
  rw [e, gD_app (by omega), if_pos rfl]
  cases ff (fun i => decide ((P.getD i p0).1 = x)) 0 P.length with
  | some j => rfl
  | none => simp only; by_cases c : y = x <;> simp [c]
theorem hasT_id {P : PM} {x : Int32} {tt : Int64} (h : hasT P x tt) : pmt P x tt = P := by
  obtain ⟨j, h1, h2⟩ := h
  have hl := (pf_lt h1).1
  unfold pmt
  rw [h1]
  show P.set j (x, tt) = P
  rw [← h2, List.getD_eq_getElem?_getD, List.getElem?_eq_getElem hl]
  exact List.set_getElem_self hl
theorem hasT_ne {P : PM} {x y : Int32} {tt : Int64} (h : hasT P x tt) (hxy : x ≠ y) : hasT (pmt P y tt) x tt := by
  obtain ⟨j, h1, h2⟩ := h
  have hl := (pf_lt h1).1
  unfold pmt
  cases hy : pf P y with
  | some i =>
    show hasT (P.set i (y, tt)) x tt
    have hi := pf_lt hy
    refine ⟨j, by rw [pf_set hy]; exact h1, ?_⟩
    rw [gD_set hl]
    by_cases e : j = i
    · have := (pf_lt h1).2
      rw [e, hi.2] at this
      exact absurd this.symm hxy
    · rw [if_neg e]; exact h2
  | none =>
    show hasT (if P.length < 16 then P ++ [(y, tt)] else P) x tt
    by_cases c : P.length < 16
    · rw [if_pos c]
      refine ⟨j, by rw [pf_app, h1], ?_⟩
      rw [gD_app (by omega), if_neg (by omega)]
      exact h2
    · rw [if_neg c]; exact ⟨j, h1, h2⟩
theorem hasT_new {P : PM} {y : Int32} {tt : Int64} (hr : pf P y = none → P.length < 16) : hasT (pmt P y tt) y tt := by
  unfold pmt
  cases hy : pf P y with
  | some i =>
    have hi := pf_lt hy
    show hasT (P.set i (y, tt)) y tt
    exact ⟨i, by rw [pf_set hy]; exact hy, by rw [gD_set hi.1, if_pos rfl]⟩
  | none =>
    show hasT (if P.length < 16 then P ++ [(y, tt)] else P) y tt
    rw [if_pos (hr hy)]
    refine ⟨P.length, by rw [pf_app, hy]; simp, ?_⟩
    rw [gD_app (by omega), if_pos rfl]
theorem pmt_none {P : PM} {y x : Int32} {tt : Int64} (h : pf (pmt P y tt) x = none) : pf P x = none := by
  unfold pmt at h
  cases hy : pf P y with
  | some i =>
    rw [hy] at h
    have h : pf (P.set i (y, tt)) x = none := h
    rwa [pf_set hy] at h
  | none =>
    rw [hy] at h
    have h : pf (if P.length < 16 then P ++ [(y, tt)] else P) x = none := h
    by_cases c : P.length < 16
    · rw [if_pos c, pf_app] at h
      cases hx : pf P x with
      | some j => rw [hx] at h; cases h
      | none => rfl
    · rw [if_neg c] at h; exact h
def pinv (t : Int64) (P : PM) (X : List Int32) (P' : PM) : Prop := P' = pms t P X ∧ (∀ x ∈ X, hasT P' x (t + lN 300)) ∧ P'.length ≤ P.length + nwp P X ∧ (∀ x, pf P' x = none → pf P x = none) ∧ pu P'
theorem pinv_0 {t : Int64} {P : PM} (h : pu P) : pinv t P [] P := ⟨rfl, fun x hx => (by cases hx), Nat.le_add_right _ _, fun _ h => h, h⟩
theorem pinv_in {t : Int64} {P P' : PM} {X : List Int32} {y : Int32} (h : pinv t P X P') (hy : y ∈ X) : pinv t P X (pmt P' y (t + lN 300)) := by
  rw [hasT_id (h.2.1 y hy)]
  exact h
theorem pinv_room {t : Int64} {P P' : PM} {X : List Int32} {y : Int32} (h : pinv t P X P') (hn : P.length + nwp P (X ++ [y]) ≤ 16) : pf P' y = none → P'.length < 16 := fun e => by
  have := h.2.2.2.1 y e
  have h1 : nwp P [y] = 1 := by rw [nwp_1, this]; rfl
  rw [nwp_app, h1] at hn
  have := h.2.2.1
  omega
theorem pinv_new {t : Int64} {P P' : PM} {X : List Int32} {y : Int32} (h : pinv t P X P') (hy : y ∉ X) (hr : pf P' y = none → P'.length < 16) : pinv t P (X ++ [y]) (pmt P' y (t + lN 300)) := by
  obtain ⟨h1, h2, h3, h4, h5⟩ := h
  refine ⟨?_, fun x hx => ?_, ?_, fun x hx => h4 x (pmt_none hx), pu_pmt h5 _ _⟩
  · unfold pms at h1 ⊢
    rw [List.foldl_append, ← h1]; rfl
  · rcases List.mem_append.mp hx with q | q
    · exact hasT_ne (h2 x q) (fun e => hy (e ▸ q))
    · rw [List.mem_singleton.mp q]; exact hasT_new hr
  · rw [nwp_app, nwp_1]
    unfold pmt
    cases e : pf P' y with
    | some i => show (P'.set i _).length ≤ _; rw [List.length_set]; omega
    | none =>
      show (if P'.length < 16 then P' ++ [(y, t + lN 300)] else P').length ≤ _
      rw [if_pos (hr e), h4 y e, List.length_append]
      show P'.length + 1 ≤ P.length + (nwp P X + 1)
      omega
