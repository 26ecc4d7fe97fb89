/-! THE CLAIM OUT OF ONE WALK OF THE LAW'S BODY. Your part is whole_start (and what it stands on); all else here is the same for every law, but numbers. -/
def R_law : String := "RelayHouseLaw"
def lw_P (b : Addr) (xs : List Int32) (args : Array Value) (s : State) : Prop := args = #[.ref b] ∧ s.IntsAt b xs ∧ xs.length ≤ 3072 ∧ (Jvm.Cond.and given_1 narrow_1).before args s = true
def lw_Q (_ : Array Value) (s : State) (o : Outcome) (t : State) : Prop := o = .returned (some (.int 1)) ∧ Framed s o t [] 600000 7302249
def lw_Z (below : List Frame) (a : Array Value) (s : State) : State → Prop := fun t => ∃ o, t.status = .running ∧ Ended t below o ∧ lw_Q a s o t
/-- the law's own end, with 1 on the stack, nothing written that was there before, its room as the claim has it -/
theorem lw_ret {p : Program} {l : Launch} {e : Env} {s : State} {m : MethodId} {below : List Frame} {meth : Method} {c : Code} {b : Nat} (hx : p.tables.exec = Jvm.exec) (hb : c.code = code) (hr : meth.sig.returnType = ret) (hlocks : meth.locks = false) {pc : Nat} {H : Heap} {ls : Array Slot} (hdg : decode code pc = .ok (.ireturn, 1)) : W p l e room_1 s m #[Value.ref b] below meth c H [] 600000 7302249 (lw_Z below #[Value.ref b] s) (F0 m pc ls [.int 1]) := by
  intro T hT X
  obtain ⟨fs, hret, hrun, hended, hW, hframe⟩ := X.leave (v := some (.int 1)) (hlocks := hlocks) (fun h => by rw [hr] at h; cases h)
  have hmeth' : T.vm.method? m = some meth := X.method'
  refine ⟨T.setFrames fs, ?_, .returned (some (.int 1)), hrun, hended, rfl, ⟨_, rfl⟩, hW, hframe⟩
  jvm_step X.here [X.here.top, hx, hb, hdg, hmeth', hr, ret, narrow_b1]
  (try refine ⟨rfl, ?_⟩); (try refine ⟨rfl, ?_⟩)
  first | (intro acts; rw [hret _ acts rfl rfl rfl]) | rw [hret _ _ rfl rfl rfl]
  exact Steps.refl _
/-- what holds at the law's entry: the machine, the code, the tables' words (any of lw_tbl by 'hts w (by decide +kernel)'), the script of L ints xs at the cell b, what the Statement gives of the start (any of its parts by flat_of_before) -/
def lw_At (p : Program) (s : State) (m : MethodId) (meth : Method) (c : Code) (b L : Nat) (xs : Nat → Int32) : Prop :=
  p.tables.exec = Jvm.exec ∧ c.code = code ∧ meth.sig.returnType = ret ∧ c.maxLocals = 4 ∧ s.vm.findClass R_law = some m.cls ∧ (∀ w ∈ lw_tbl, w.before #[Value.ref b] s = true) ∧ va_X b L xs s s.heap ∧ b < s.heap.size ∧ meth.locks = false ∧ (Jvm.Cond.and given_1 narrow_1).before #[Value.ref b] s = true
/-! ===== the law itself: its start out of the small machine ===== -/
/-- the first tables: the static arrays, the script -/
def am_I0 (xs : Nat → Int32) : Nat → Nat → Int32 := fun p => match p with
  | 0 => fun j => am_first.getD j 0
  | 1 => fun j => am_round.getD j 0
  | 2 => fun j => am_nibl.getD j 0
  | 3 => xs
  | _ => fun _ => 0
def am_h0 (L : Nat) (xs : Nat → Int32) : am_H := ([(50, 8), (50, 64), (50, 16), (50, L)], am_I0 xs, fun _ _ => 0, fun _ _ => none)
theorem am_ro {args : Array Value} {s : State} {tm : Term} {N : Nat} {f : Nat → Int32} (hN : N < 2 ^ 31) (harr : (Cond.arrayOf tm .int).before args s = true) (hlen : (Cond.eq (.length tm) (.int (Int32.ofNat N))).before args s = true) (hel : ∀ j : Nat, j < N → (Cond.eq (.elem tm (.int (Int32.ofNat j))) (.int (f j))).before args s = true) : ∃ t : Nat, tm.eval args s none [] s = some (.ref t) ∧ va_X t N f s s.heap ∧ t < s.heap.size := by
  have hv := va_eqt hlen
  obtain ⟨t, ht, cell, c1, c2, c3, c4, c5, c6, -⟩ := va_Tof (A := fun _ => False) (f := fun j => .int (f j)) hN harr hv (fun j hj => va_eqt (hel j hj)) (fun _ _ h => h)
  obtain ⟨a, cell2, ht2, hat, -⟩ := Term.length_spec hv
  cases ht.symm.trans ht2
  obtain ⟨hc2, -, -, -⟩ := State.arrayAt?_spec hat
  cases c1.symm.trans hc2
  have hsz : cell.slots.size < 2 ^ 31 := by
    simp only [Term.eval, ht, hat, Option.bind_eq_bind, Option.bind_some] at hv
    by_cases hlt : cell.slots.size < 2147483648
    · exact hlt
    · simp [hlt] at hv
  have e : cell.slots.size = N := by
    have h1 : (Int32.ofNat cell.slots.size).toInt = (Int32.ofNat N).toInt := congrArg Int32.toInt c5
    rw [Int32.toInt_ofNat_small hsz, Int32.toInt_ofNat_small hN] at h1
    exact Int.ofNat_inj.mp h1
  exact ⟨t, ht, ⟨cell, c1, c2, c3, e, c6⟩, (Array.getElem?_eq_some_iff.mp c1).1⟩
theorem am_arr {args : Array Value} {s : State} {ty : FieldType} (h : (Cond.arrayClass ty).before args s = true) : ∃ c, s.vm.findClass ("[" ++ ty.toString) = some c ∧ ArrOfT s c ty := by
  obtain ⟨c, k, comp, h1, h2, h3⟩ := Cond.arrayClass_spec h
  exact ⟨c, h1, fun n z => ⟨fun k h => (by cases h), k, h2, comp, h3⟩⟩
theorem am_fl0 : ∀ j, j < 8 → Cond.eq (.elem (.static "RelayHouse$Sha" "FIRST" "[I") (.int (Int32.ofNat j))) (.int (am_first.getD j 0)) ∈ flatC (Jvm.Cond.and given_1 narrow_1) := by decide +kernel
theorem am_fa0 : Cond.arrayOf (.static "RelayHouse$Sha" "FIRST" "[I") .int ∈ flatC (Jvm.Cond.and given_1 narrow_1) ∧ Cond.eq (.length (.static "RelayHouse$Sha" "FIRST" "[I")) (.int (Int32.ofNat 8)) ∈ flatC (Jvm.Cond.and given_1 narrow_1) ∧ Cond.laysStatic "RelayHouse$Sha" "FIRST" "[I" ∈ lw_tbl ∧ Cond.initialized "RelayHouse$Sha" ∈ lw_tbl := by decide +kernel
theorem am_fl1 : ∀ j, j < 64 → Cond.eq (.elem (.static "RelayHouse$Sha" "ROUNDS" "[I") (.int (Int32.ofNat j))) (.int (am_round.getD j 0)) ∈ flatC (Jvm.Cond.and given_1 narrow_1) := by decide +kernel
theorem am_fa1 : Cond.arrayOf (.static "RelayHouse$Sha" "ROUNDS" "[I") .int ∈ flatC (Jvm.Cond.and given_1 narrow_1) ∧ Cond.eq (.length (.static "RelayHouse$Sha" "ROUNDS" "[I")) (.int (Int32.ofNat 64)) ∈ flatC (Jvm.Cond.and given_1 narrow_1) ∧ Cond.laysStatic "RelayHouse$Sha" "ROUNDS" "[I" ∈ lw_tbl ∧ Cond.initialized "RelayHouse$Sha" ∈ lw_tbl := by decide +kernel
theorem am_fl2 : ∀ j, j < 16 → Cond.eq (.elem (.static "RelayHouse$Pen" "NIBBLES" "[I") (.int (Int32.ofNat j))) (.int (am_nibl.getD j 0)) ∈ flatC (Jvm.Cond.and given_1 narrow_1) := by decide +kernel
theorem am_fa2 : Cond.arrayOf (.static "RelayHouse$Pen" "NIBBLES" "[I") .int ∈ flatC (Jvm.Cond.and given_1 narrow_1) ∧ Cond.eq (.length (.static "RelayHouse$Pen" "NIBBLES" "[I")) (.int (Int32.ofNat 16)) ∈ flatC (Jvm.Cond.and given_1 narrow_1) ∧ Cond.laysStatic "RelayHouse$Pen" "NIBBLES" "[I" ∈ lw_tbl ∧ Cond.initialized "RelayHouse$Pen" ∈ lw_tbl := by decide +kernel
theorem am_ao_in : Cond.arrayOver (.object RX0) ∈ lw_tbl := by decide +kernel
def am_ar (t0 t1 t2 b : Nat) : Nat → Nat := fun j => match j with
  | 0 => t0
  | 1 => t1
  | 2 => t2
  | 3 => b
  | _ => 0
def am_L0 (L : Nat) : Nat → Nat := fun j => match j with
  | 0 => 8
  | 1 => 64
  | 2 => 16
  | _ => L
def am_ca (c0 c1 c2 c3 c4 : ClassId) : Nat → ClassId := fun t => if t = 50 then c0 else if t = 51 then c1 else if t = 52 then c2 else if t = 53 then c3 else c4
section AML
variable {p : Program} {e : Env} {s : State} {m : MethodId} {below : List Frame} {meth : Method} {c : Code}
set_option maxHeartbeats 4000000 in
set_option maxRecDepth 20000 in
theorem am_law (l : Launch) {b L : Nat} {xs : Nat → Int32} (C0 : lw_At p s m meth c b L xs) {d : Nat} (hw : am_WP am_rc am_na am_mc am_ms (4 + 600000) (am_sl (am_h0 L xs).1 + 7302249) (am_cs am_NM) (am_call d) (fun r _ => r = some (.int 1)) 0 [some (.ref 3), none, none, none] [] (am_h0 L xs)) : W p l e room_1 s m #[Value.ref b] below meth c s.heap [] 0 0 (lw_Z below #[Value.ref b] s) (entryFrame m ([Value.ref b] : List Value).toArray 4) := by
  obtain ⟨hx, hb, hr, hml, hown, hts, hX, hbl, hlocks, hgv⟩ := id C0
  have hs := flat_of_before _ hgv
  have hkn : ∀ ci : Nat, ∃ (cC : ClassId) (iS : Nat → Nat), ∀ q : vw_C, am_cl[ci]? = some q → u_Kn s q.1 q.2.1 q.2.2 cC iS := by
    intro ci
    cases hq : am_cl[ci]? with
    | none => exact ⟨0, fun _ => 0, fun q h => by cases h⟩
    | some q =>
      obtain ⟨Cn, T, N⟩ := q
      obtain ⟨k1, ty0, k2, k3, k4, k5, k6⟩ := am_kls_ok hq
      obtain ⟨cC, iS, h1⟩ := u_known (n := N) hts (fun w hw => (List.mem_filter.mp (k1 w hw)).1) (hts _ (List.mem_filter.mp k5).1)
      exact ⟨cC, iS, fun q h => by cases h; exact h1⟩
  obtain ⟨D, hD⟩ : ∃ D : va_G, ∀ (ci : Nat) (q : vw_C), am_cl[ci]? = some q → u_Kn s q.1 q.2.1 q.2.2 (D.1 ci) (D.2 ci) := ⟨(fun ci => Classical.choose (hkn ci), fun ci => Classical.choose (Classical.choose_spec (hkn ci))), fun ci q h => Classical.choose_spec (Classical.choose_spec (hkn ci)) q h⟩
  obtain ⟨c0, i0, j0⟩ := am_arr (hts (.arrayClass .int) (List.mem_filter.mp (am_wi 14 rfl)).1)
  obtain ⟨c1, i1, j1⟩ := am_arr (hts (.arrayClass .long) (List.mem_filter.mp (am_wi 15 rfl)).1)
  obtain ⟨c2, i2, j2⟩ := am_arr (hts (.arrayClass .byte) (List.mem_filter.mp (am_wi 16 rfl)).1)
  obtain ⟨c3, i3, j3⟩ := am_arr (hts (.arrayClass .boolean) (List.mem_filter.mp (am_wi 17 rfl)).1)
  obtain ⟨comp, c4, kR, r1, -, r3, r4, r5⟩ := Cond.arrayOver_spec (hts _ am_ao_in)
  obtain ⟨t0, e0, x0, l0⟩ := am_ro (N := 8) (f := fun j => am_first.getD j 0) (by decide) (hs _ am_fa0.1) (hs _ am_fa0.2.1) (fun j hj => hs _ (am_fl0 j hj))
  obtain ⟨t1, e1, x1, l1⟩ := am_ro (N := 64) (f := fun j => am_round.getD j 0) (by decide) (hs _ am_fa1.1) (hs _ am_fa1.2.1) (fun j hj => hs _ (am_fl1 j hj))
  obtain ⟨t2, e2, x2, l2⟩ := am_ro (N := 16) (f := fun j => am_nibl.getD j 0) (by decide) (hs _ am_fa2.1) (hs _ am_fa2.2.1) (fun j hj => hs _ (am_fl2 j hj))
  have hA : ∀ a : Nat, a < s.heap.size → ¬ (fun q : Nat => s.heap.size ≤ q) a := fun a h => Nat.not_le.mpr h
  have hK : va_K D am_cl (am_tys (am_ca c0 c1 c2 c3 c4)) s := by
    refine ⟨hD, fun k q hk => ?_⟩
    match k, hk with
    | 0, hk => cases hk; exact ⟨j0, i0⟩
    | 1, hk => cases hk; exact ⟨j1, i1⟩
    | 2, hk => cases hk; exact ⟨j2, i2⟩
    | 3, hk => cases hk; exact ⟨j3, i3⟩
    | 4, hk => cases hk; exact ⟨fun N z => ⟨(fun k h => by cases h), kR, r3, comp, r4⟩, kR, comp, r3, r4, r1, r5⟩
    | n + 5, hk => simp [am_tys] at hk
  have henv : am_env D (am_ar t0 t1 t2 b) (am_ca c0 c1 c2 c3 c4) s.heap.size (am_L0 L) (am_I0 xs) s := by
    refine ⟨hK, fun j hj => ?_, Nat.le_refl _, fun j hj => ?_, fun j hj => ?_, va_AO.of (hts _ am_ao_in), fun a i x hh hm => va_Nw.of rfl (hts _ hm)⟩
    · match j, hj with
      | 0, _ => exact ⟨x0, l0⟩
      | 1, _ => exact ⟨x1, l1⟩
      | 2, _ => exact ⟨x2, l2⟩
      | 3, _ => exact ⟨hX, hbl⟩
      | n + 4, h => exact absurd h (by omega)
    · match j, hj with
      | 0, _ => exact va_Zof (hts _ am_fa0.2.2.1) (hts _ am_fa0.2.2.2) e0 hA
      | 1, _ => exact va_Zof (hts _ am_fa1.2.2.1) (hts _ am_fa1.2.2.2) e1 hA
      | 2, _ => exact va_Zof (hts _ am_fa2.2.2.1) (hts _ am_fa2.2.2.2) e2 hA
      | n + 3, h => exact absurd h (by omega)
    · match j, hj with
      | 0, _ => exact i0
      | 1, _ => exact i1
      | 2, _ => exact i2
      | 3, _ => exact i3
      | 4, _ => exact r5
      | n + 5, h => exact absurd h (by omega)
  have F : am_F p s m #[Value.ref b] c (am_cc am_NM) 4 (am_y am_NM).cls lw_tbl D (am_ar t0 t1 t2 b) (am_ca c0 c1 c2 c3 c4) s.heap.size (am_L0 L) (am_I0 xs) := ⟨hx, hb, hml, hown, hts, fun w hw => (List.mem_filter.mp hw).1, henv⟩
  have hrel : am_rel D (am_ar t0 t1 t2 b) (am_ca c0 c1 c2 c3 c4) s.heap.size (am_L0 L) (am_I0 xs) (am_h0 L xs) s.heap := by
    refine ⟨fun k q h => by simp [am_ws, am_h0] at h, ⟨fun i j p q h => by simp [am_ws, am_h0] at h, fun k q h => by simp [am_ws, am_h0] at h⟩, by simp [am_h0], fun j hj => ?_, fun a q hq hlt => ?_⟩
    · match j, hj with
      | 0, _ => exact ⟨rfl, rfl⟩
      | 1, _ => exact ⟨rfl, rfl⟩
      | 2, _ => exact ⟨rfl, rfl⟩
      | 3, _ => exact ⟨rfl, rfl⟩
      | n + 4, h => exact absurd h (by omega)
    · match a, hq with
      | 0, hq => cases hq; exact absurd hlt (by decide)
      | 1, hq => cases hq; exact absurd hlt (by decide)
      | 2, hq => cases hq; exact absurd hlt (by decide)
      | 3, hq => cases hq; exact absurd (show (50 : Nat) < 50 from hlt) (by decide)
      | n + 4, hq => simp [am_h0] at hq
  have hvb := am_vb_all (q := am_NM) (Nat.le_refl _)
  unfold am_vb at hvb
  rw [Bool.and_eq_true, decide_eq_true_eq] at hvb
  have key := hw (am_J p l e room_1 s m #[Value.ref b] below meth c (lw_Z below #[Value.ref b] s) 4 D (am_ar t0 t1 t2 b) (am_ca c0 c1 c2 c3 c4) s.heap.size (am_L0 L) (am_I0 xs) 4 (am_sl (am_h0 L xs).1) (am_pc am_NM)) (by
    intro k ls st h1 hs1
    by_cases hk : k < (am_cs am_NM).length
    · obtain ⟨ri, len, hint, hd, hbk⟩ := am_row_at _ _ 0 hvb.2 k hk
      rw [Nat.zero_add] at hd hbk
      refine am_close F (Nat.le_refl 4) rfl rfl rfl rfl (fun hi => absurd (of_decide_eq_true hi) (by decide +kernel)) (fun q2 as2 h2 Q2 hq2 hc2 => am_sound d q2 as2 h2 Q2 hq2 hc2) (fun q2 hq2 => am_o2_all hq2) (am_nth (am_cs am_NM) k) (fun hi hs2 => ?_) hd hbk hs1
      rcases hi with hi | hi | hi | hi
      · rw [hi] at hbk hs2
        simp only [am_ck, Bool.and_eq_true, Bool.or_eq_true, decide_eq_true_eq] at hbk
        obtain ⟨rfl, rfl, -⟩ := hbk
        obtain ⟨x, rfl, hz⟩ := hs2
        cases hz
        intro ad H locs lr cells slots hag hwf hR hS hL hc hz2 hcap
        have hcap : h1.1.length ≤ 4 + 600000 ∧ am_sl h1.1 ≤ am_sl (am_h0 L xs).1 + 7302249 := hcap
        refine va_forget (fun q hq => hS.2.2 q hq) (W.widen (k := 600000) (n := 7302249) (by omega) (by omega) (lw_ret hx hb hr hlocks hd))
      · rw [hi] at hbk
        simp only [am_ck, Bool.and_eq_true, decide_eq_true_eq] at hbk
        exact absurd hbk.2.2 (by decide +kernel)
      · rw [hi] at hbk
        simp only [am_ck, Bool.and_eq_true, decide_eq_true_eq] at hbk
        exact absurd hbk.2.2 (by decide +kernel)
      · rw [hi] at hbk
        simp only [am_ck, Bool.and_eq_true, decide_eq_true_eq] at hbk
        exact absurd hbk.2.2 (by decide +kernel)
    · rw [am_nth_none _ _ hk] at hs1
      exact hs1.elim)
  rw [lg_entry_eq]
  have hloc := am_ent_loc (ad := am_ar t0 t1 t2 b) (as := [.ref 3]) (n := 4) (by decide)
  have hJ := key (am_ar t0 t1 t2 b) s.heap [] _ 0 0 (fun _ _ => rfl) ⟨fun v hv => ?_, fun v hv => by simp at hv, fun a k q hq => by simp [am_h0] at hq⟩ hrel va_S.rf hloc (by simp [am_h0]) (by omega) ⟨by simp [am_h0], by omega⟩
  · rw [hvb.1] at hJ
    exact hJ
  · simp at hv
    subst hv
    show (3 : Nat) < _
    simp [am_h0]
end AML
