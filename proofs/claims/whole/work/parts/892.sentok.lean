/-! ===== what is sent is told well ===== -/
theorem ats_4 {B : List Nat} (hm : msg B = true) : 4 * (ats B).length + 20 ≤ B.length := by
  have hst : ∀ f p, 4 * (ps B f p).length + p ≤ pe B f p := by
    intro f
    induction f with
    | zero => intro p; simp [ps, pe]
    | succ f ih =>
      intro p
      rw [ps, pe]
      by_cases c : p + 4 ≤ B.length
      · rw [if_pos c, if_pos c, List.length_cons]
        have := ih (p + 4 + pad4 (nb B (p + 2) 2))
        omega
      · rw [if_neg c, if_neg c]; simp
  have := hst 104 20
  rw [(msg_pe hm).2] at this
  exact this
theorem sn_420 {s : SN} (h1 : s.1 = false → s.2.2.2.2 = []) (h2 : s.2.2.2.2.length ≤ 420) : sn_ok s := ⟨h1, by omega, fun hm => by have := ats_4 hm; omega⟩
theorem sn_clr (s : SN) : sn_ok (clr s) := sn_420 (fun _ => rfl) (by show ([] : List Nat).length ≤ 420; decide)
theorem sn_rly {a : AL} {A : List Nat} {s : SN} {T : Nat → Int32} {ip port : Int32} {i m : Nat} (hA : A.length ≤ 400) : sn_ok (rly a A s T ip port i m).1 := by
  unfold rly
  by_cases c : (pf a.2.2.2.1 ip).isSome = true
  · rw [if_pos c]
    refine sn_420 (fun h => by cases h) ?_
    show ((A.drop i).take m).length ≤ 420
    rw [List.length_take, List.length_drop]; omega
  · rw [if_neg c]; exact sn_clr s
theorem sn_cd {al : Nat → Option AL} {A : List Nat} {s : SN} {T : Nat → Int32} {ip port : Int32} (hA : A.length ≤ 400) : sn_ok (cd_s al A s T ip port).1 := by
  unfold cd_s
  cases (clf al ip port).bind al with
  | none => exact sn_clr s
  | some a =>
    simp only
    cases cf a.2.2.2.2 (nI (nb A 0 2)) with
    | none => exact sn_clr s
    | some c => exact sn_rly hA
theorem sn_sd {al : Nat → Option AL} {A : List Nat} {s : SN} {T : Nat → Int32} {ip port : Int32} (hA : A.length ≤ 400) : sn_ok (sd_s al A s T ip port).1 := by
  unfold sd_s
  cases (clf al ip port).bind al with
  | none => exact sn_clr s
  | some a =>
    simp only
    cases fnd A 18 with
    | none => exact sn_clr s
    | some p =>
      simp only
      cases fnd A 19 with
      | none => exact sn_clr s
      | some c =>
        simp only
        by_cases q : 0 < (strg (cts A)).length
        · rw [if_pos q]; exact sn_clr s
        · rw [if_neg q]; exact sn_rly hA
theorem nb_at2 {X Y : List Nat} {v s : Nat} (hs : s = X.length) (hv : v < 65536) (Z : List Nat) : nb (X ++ be 2 v ++ Z) s 2 = v := by
  subst hs
  have l2 : (be 2 v).length = 2 := be_len _ _
  have g : ∀ i, i < 2 → (X ++ be 2 v ++ Z).getD (X.length + i) 0 = (be 2 v).getD i 0 := fun i hi => by
    rw [gd_app1 (by rw [List.length_append, l2]; omega), gd_app2 (by omega)]
    congr 1
    omega
  show (0 * 256 + (X ++ be 2 v ++ Z).getD (X.length + 0) 0) * 256 + (X ++ be 2 v ++ Z).getD (X.length + 1) 0 = v
  rw [g 0 (by decide), g 1 (by decide), be2]
  show (0 * 256 + v / 256 % 256) * 256 + v % 256 = v
  omega
/-- an indication has two attributes -/
theorem ats_ind {A : List Nat} (hA : A.length ≤ 400) (ip port t : Int32) : (ats (ind A ip port t)).length ≤ 2 ∧ (ind A ip port t).length ≤ 436 := by
  have hH : (hd20 (uI (tyC (nI 7) (nI 1))) 0 0 (uI t)).length = 20 := hd20_len _ _ _ _
  have hG : (at_ (hd20 (uI (tyC (nI 7) (nI 1))) 0 0 (uI t)) 18 (adr ip port)).length = 32 := by rw [at_len (by omega), adr_len, hH]; rfl
  have e1 : ∃ Z, at_ (hd20 (uI (tyC (nI 7) (nI 1))) 0 0 (uI t)) 18 (adr ip port) = (wr (hd20 (uI (tyC (nI 7) (nI 1))) 0 0 (uI t)) 2 (be 2 (20 + 4 + pad4 8 - 20)) ++ be 2 18) ++ be 2 8 ++ Z := by
    refine ⟨adr ip port ++ List.replicate (pad4 (adr ip port).length - (adr ip port).length) 0, ?_⟩
    unfold at_ hd_
    rw [adr_len, hH]
    simp only [List.append_assoc]
  obtain ⟨Z, eZ⟩ := e1
  have hwr : (wr (hd20 (uI (tyC (nI 7) (nI 1))) 0 0 (uI t)) 2 (be 2 (20 + 4 + pad4 8 - 20)) ++ be 2 18).length = 22 := by rw [List.length_append, wr_in (by rw [be_len]; omega), be_len, hH]
  have n1 : nb (at_ (hd20 (uI (tyC (nI 7) (nI 1))) 0 0 (uI t)) 18 (adr ip port)) 22 2 = 8 := by rw [eZ]; exact nb_at2 (Y := []) hwr.symm (by decide) Z
  unfold ind
  generalize at_ (hd20 (uI (tyC (nI 7) (nI 1))) 0 0 (uI t)) 18 (adr ip port) = G at *
  have p4 := pad4_ge A.length
  have hpm : pad4 A.length ≤ 400 := by unfold pad4; omega
  have hB : (at_ G 19 A).length = 36 + pad4 A.length := by rw [at_len (by omega), hG]
  have e2 : at_ G 19 A = (wr G 2 (be 2 (32 + 4 + pad4 A.length - 20)) ++ be 2 19) ++ be 2 A.length ++ (A ++ List.replicate (pad4 A.length - A.length) 0) := by
    unfold at_ hd_
    rw [hG]
    simp only [List.append_assoc]
  have hwr2 : (wr G 2 (be 2 (32 + 4 + pad4 A.length - 20)) ++ be 2 19).length = 34 := by rw [List.length_append, wr_in (by rw [be_len]; omega), be_len, hG]
  have n2 : nb (at_ G 19 A) 34 2 = A.length := by rw [e2]; exact nb_at2 (Y := []) hwr2.symm (by omega) _
  have n3 : nb (at_ G 19 A) 22 2 = 8 := by
    rw [← n1]
    have g : ∀ i, 4 ≤ i → i < 32 → (at_ G 19 A).getD i 0 = G.getD i 0 := fun i h1 h2 => by
      rw [e2, gd_app1 (by rw [List.length_append, hwr2, be_len]; omega), gd_app1 (by rw [hwr2]; omega), gd_app1 (by rw [wr_in (by rw [be_len]; omega)]; omega), wr_getD (by omega), if_neg (by omega), if_neg (by rw [be_len]; omega)]
    show (0 * 256 + (at_ G 19 A).getD 22 0) * 256 + (at_ G 19 A).getD 23 0 = (0 * 256 + G.getD 22 0) * 256 + G.getD 23 0
    rw [g 22 (by decide) (by decide), g 23 (by decide) (by decide)]
  generalize at_ G 19 A = B at *
  refine ⟨?_, by omega⟩
  unfold ats
  rw [show ps B 104 20 = if 20 + 4 ≤ B.length then (nb B 20 2, nb B 22 2, 20 + 4) :: ps B 103 (20 + 4 + pad4 (nb B 22 2)) else [] from rfl, if_pos (by omega), n3]
  rw [show ps B 103 (20 + 4 + pad4 8) = if 32 + 4 ≤ B.length then (nb B 32 2, nb B 34 2, 32 + 4) :: ps B 102 (32 + 4 + pad4 (nb B 34 2)) else [] from rfl, if_pos (by omega), n2]
  rw [show ps B 102 (32 + 4 + pad4 A.length) = if 32 + 4 + pad4 A.length + 4 ≤ B.length then (nb B (32 + 4 + pad4 A.length) 2, nb B (32 + 4 + pad4 A.length + 2) 2, 32 + 4 + pad4 A.length + 4) :: ps B 101 (32 + 4 + pad4 A.length + 4 + pad4 (nb B (32 + 4 + pad4 A.length + 2) 2)) else [] from rfl, if_neg (by omega)]
  exact Nat.le_refl _
theorem sn_pr {al : Nat → Option AL} {A : List Nat} {s : SN} {T : Nat → Int32} {rel ip port : Int32} (hA : A.length ≤ 400) : sn_ok (pr_s al A s T rel ip port).1 := by
  unfold pr_s
  cases (ptf al rel).bind al with
  | none => exact sn_clr s
  | some a =>
    simp only
    by_cases q : (pf a.2.2.2.1 ip).isSome = true
    · rw [if_pos q]
      cases ct a.2.2.2.2 ip port with
      | some c =>
        refine sn_420 (fun h => by cases h) ?_
        show (chd (a.2.2.2.2.getD c c0).1 A).length ≤ 420
        unfold chd
        rw [List.length_append, List.length_append, be_len, be_len]; omega
      | none =>
        obtain ⟨h1, h2⟩ := ats_ind hA ip port (T 1)
        exact ⟨fun h => (by cases h), h2, fun _ => Nat.le_trans h1 (by decide)⟩
    · rw [if_neg q]; exact sn_clr s
theorem sn_ans {U : UR} {rl : List Nat} {fr : Int64} {n : Int32} {F : FR} {al : Nat → Option AL} {t : Int64} {B : List Nat} {T : Nat → Int32} {ip port m : Int32} (hrl : wd rl) : sn_ok (ans U rl fr n F al t B T ip port m).1.1 := by
  refine sn_420 (fun h => by cases h) ?_
  show (fgb B (sgb U rl (acs U rl fr B m).2 (bod rl fr B m ip port (prf U rl fr n F al t B ip port m).1 (prf U rl fr n F al t B ip port m).2.2.1 (prf U rl fr n F al t B ip port m).2.2.2))).length ≤ 420
  generalize (prf U rl fr n F al t B ip port m).2.2.1 = x
  generalize (prf U rl fr n F al t B ip port m).2.2.2 = y
  generalize (prf U rl fr n F al t B ip port m).1 = e
  have hb : 20 ≤ (bod rl fr B m ip port e x y).length ∧ (bod rl fr B m ip port e x y).length ≤ 60 := by
    have hl20 : (hdA B m e).length = 20 := hd20_len _ _ _ _
    unfold bod
    by_cases c : e = 0
    · rw [if_pos c]; exact told_len hl20 _ _ _ _ _
    · rw [if_neg c]; exact errb_len hl20 hrl.1 (strg_len _) _ _
  have hs : 20 ≤ (sgb U rl (acs U rl fr B m).2 (bod rl fr B m ip port e x y)).length ∧ (sgb U rl (acs U rl fr B m).2 (bod rl fr B m ip port e x y)).length ≤ 96 := by
    unfold sgb
    cases (acs U rl fr B m).2 with
    | none => exact ⟨hb.1, by show (bod rl fr B m ip port e x y).length ≤ 96; omega⟩
    | some k =>
      show 20 ≤ (at_ _ 28 _).length ∧ (at_ _ 28 _).length ≤ 96
      rw [at_len (by omega), mcy_len, show pad4 32 = 32 from rfl]; omega
  generalize sgb U rl (acs U rl fr B m).2 (bod rl fr B m ip port e x y) = b at *
  unfold fgb
  by_cases c : (fgi B (ats B)).isSome = true
  · rw [if_pos c, at_len (by omega)]
    have : (fgr b).length = 4 := be_len _ _
    rw [this, pad4_4]; omega
  · rw [if_neg c]; omega
theorem sn_dgr {U : UR} {rl : List Nat} {fr : Int64} {n : Int32} {F : FR} {al : Nat → Option AL} {t : Int64} {B : List Nat} {s : SN} {T : Nat → Int32} {ip port : Int32} (hrl : wd rl) (hB : B.length ≤ 400) : sn_ok (dgr U rl fr n F al t B s T ip port).1.1 := by
  unfold dgr
  by_cases q1 : chD B = true
  · rw [if_pos q1]; exact sn_cd hB
  · rw [if_neg q1]
    by_cases q2 : (msg B && !fpw B) = true
    · rw [if_pos q2]
      by_cases q3 : rnk (nb B 0 2) = 0
      · rw [if_pos q3]; exact sn_ans hrl
      · rw [if_neg q3]
        by_cases q4 : rnk (nb B 0 2) = nI 1 ∧ mth (nb B 0 2) = nI 6
        · rw [if_pos q4]; exact sn_sd hB
        · rw [if_neg q4]; exact sn_clr s
    · rw [if_neg q2]; exact sn_clr s
