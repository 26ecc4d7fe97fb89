section AMC
variable {p : Program} {l : Launch} {e : Env} {R : Room} {s : State} {m : MethodId} {args : Array Value} {below : List Frame} {meth : Method} {c : Code} {Qm : State → Prop} {cc : ByteArray} {nL : Nat} {own : String} {Ts : List Cond} {D : va_G} {a0 : Nat → Nat} {cA : Nat → ClassId} {base : Nat} {L0 : Nat → Nat} {X0 : Nat → Nat → Int32} {n0 z0 : Nat} {pcs : Nat → Nat} {rc na mcT msT : Nat → Nat} {cN cZ : Nat} {C : am_C} {Z : am_Q} {k : Nat} {ls : List (Option Value)} {st : List Value} {h : am_H}
variable {ad : Nat → Nat} {H : Heap}
theorem am_tl {n : Nat} {v : Value} {st : List Value} (hw : ∀ w ∈ v :: st, am_okv n w) : ∀ w ∈ st, am_okv n w := fun w q => hw w (List.mem_cons_of_mem _ q)
theorem am_okc {n : Nat} {v : Value} {st : List Value} (hv : am_okv n v) (hw : ∀ w ∈ st, am_okv n w) : ∀ w ∈ v :: st, am_okv n w := fun w q => by
  rcases List.mem_cons.mp q with rfl | q
  · exact hv
  · exact hw w q
theorem am_okr {n : Nat} {r : Option Nat} (hr : ∀ q, r = some q → q < n) : am_okv n (va_rf r) := by
  cases r with
  | none => trivial
  | some q => exact hr q rfl
theorem am_okrf {n : Nat} {r : Option Nat} {st : List Value} (hw : ∀ w ∈ st, am_okv n w) (hr : ∀ q, r = some q → q < n) : ∀ w ∈ va_rf r :: st, am_okv n w := am_okc (am_okr hr) hw
theorem am_wfR {ls : List (Option Value)} {st : List Value} {h : am_H} {p1 j : Nat} {r : Option Nat} {w : Value} (hwf : am_wf ls (va_rf r :: w :: st) h) : am_wf ls st (h.1, h.2.1, h.2.2.1, am_u h.2.2.2 p1 j r) := by
  refine ⟨hwf.1, am_tl (am_tl hwf.2.1), fun a b q hq => ?_⟩
  have hq : am_u h.2.2.2 p1 j r a b = some q := hq
  unfold am_u va_up at hq
  split at hq
  · dsimp only at hq
    split at hq
    · subst hq
      exact hwf.2.1 (.ref q) List.mem_cons_self
    · exact hwf.2.2 p1 b q hq
  · exact hwf.2.2 a b q hq
theorem am_pl (hR : am_rel D ad cA base L0 X0 h H) {p t n : Nat} (hp : h.1[p]? = some (t, n)) (ht : ¬ t = 50) : 4 ≤ p := by
  rcases Nat.lt_or_ge p 4 with q | q
  · have := (hR.2.2.2.1 p q).1
    rw [hp] at this
    cases this
    exact absurd rfl ht
  · exact q
theorem am_fsl {p t n j : Nat} (hj : j < n) : ((List.range n).map (am_fv ad h p t))[j]? = some (am_fv ad h p t j) := by
  rw [List.getElem?_map, List.getElem?_range hj]
  rfl
/-- the same shapes, one cell other: the relation behind a store -/
theorem am_rel_set {h' : am_H} {H1 : Heap} (hR : am_rel D ad cA base L0 X0 h H) {p : Nat} {e1 : va_E} (h4 : 4 ≤ p) (hp : p < h.1.length) (hl : h'.1 = h.1) (he : am_el ad cA h' p = e1) (ho : ∀ q, q ≠ p → am_el ad cA h' q = am_el ad cA h q) (hI : ∀ j, j < 4 → h'.2.1 j = h.2.1 j)
    (hP : va_P D am_cl ((am_ws ad cA h).set (p - 4) (ad p, e1)) H1) (hD : va_D (fun q => base ≤ q) ((am_ws ad cA h).set (p - 4) (ad p, e1))) : am_rel D ad cA base L0 X0 h' H1 := by
  rw [am_ws_set h4 hp hl he ho] at hP hD
  obtain ⟨-, -, h3, h5, h6⟩ := hR
  refine ⟨hP, hD, by rw [hl]; exact h3, fun j hj => ?_, by rw [hl]; exact h6⟩
  rw [hl, hI j hj]
  exact h5 j hj
theorem am_el_oI {h : am_H} {I' : Nat → Nat → Int32} {q : Nat} (hq : I' q = h.2.1 q) : am_el ad cA (h.1, I', h.2.2) q = am_el ad cA h q := by
  unfold am_el
  cases hs : h.1[q]? with
  | none => simp
  | some x =>
    obtain ⟨t, n⟩ := x
    have hfv : am_fv ad (h.1, I', h.2.2) q t = am_fv ad h q t := by
      funext j
      unfold am_fv
      simp [hq]
    simp [hfv, hq]
theorem am_el_oL {h : am_H} {I' : Nat → Nat → Int64} {q : Nat} (hq : I' q = h.2.2.1 q) : am_el ad cA (h.1, h.2.1, I', h.2.2.2) q = am_el ad cA h q := by
  unfold am_el
  cases hs : h.1[q]? with
  | none => simp
  | some x =>
    obtain ⟨t, n⟩ := x
    have hfv : am_fv ad (h.1, h.2.1, I', h.2.2.2) q t = am_fv ad h q t := by
      funext j
      unfold am_fv
      simp [hq]
    simp [hfv, hq]
theorem am_el_oR {h : am_H} {I' : Nat → Nat → Option Nat} {q : Nat} (hq : I' q = h.2.2.2 q) : am_el ad cA (h.1, h.2.1, h.2.2.1, I') q = am_el ad cA h q := by
  unfold am_el
  cases hs : h.1[q]? with
  | none => simp
  | some x =>
    obtain ⟨t, n⟩ := x
    have hfv : am_fv ad (h.1, h.2.1, h.2.2.1, I') q t = am_fv ad h q t := by
      funext j
      unfold am_fv
      simp [hq]
    simp [hfv, hq]
theorem am_up_ne {α : Type} {f : Nat → α} {k j : Nat} {v : α} (hj : j ≠ k) : va_up f k v j = f j := by simp [va_up, hj]
theorem am_up_eq {α : Type} {f : Nat → α} {k : Nat} {v : α} : va_up f k v k = v := by simp [va_up]
theorem am_u_ne {α : Type} {f : Nat → Nat → α} {p k q : Nat} {v : α} (hq : q ≠ p) : am_u f p k v q = f q := by simp [am_u, va_up, hq]
theorem am_u_at {α : Type} {f : Nat → Nat → α} {p k : Nat} {v : α} : am_u f p k v p = va_up (f p) k v := by simp [am_u, va_up]
theorem am_list_set {n j : Nat} {f g : Nat → Value} (hj : j < n) (hg : ∀ i, i ≠ j → g i = f i) : ((List.range n).map f).set j (g j) = (List.range n).map g := by
  apply List.ext_getElem?
  intro i
  rw [List.getElem?_set]
  by_cases hi : j = i
  · subst hi
    rw [if_pos rfl, if_pos (by simpa using hj), List.getElem?_map, List.getElem?_range hj]
    rfl
  · rw [if_neg hi, List.getElem?_map, List.getElem?_map]
    by_cases hlt : i < n
    · rw [List.getElem?_range hlt]
      simp [hg i (fun z => hi z.symm)]
    · rw [List.getElem?_eq_none (by simp; omega)]
      rfl
theorem aj_getI (F : am_F p s m args c cc nL own Ts D a0 cA base L0 X0) {q idx : Nat} {Cn : String} {T : u_T} {N : Nat} (hcl : am_cl[q / 100]? = some (Cn, T, N)) (hq : q / 100 < 50) (hk : q % 100 < N) (hT : (T (q % 100)).1 = Cn) (hin : ∀ w ∈ u_ws Cn T N, w ∈ am_tbl) (hkd : ¬ (am_fk.getD (q / 100) []).getD (q % 100) 0 = 1) (hkd2 : ¬ (am_fk.getD (q / 100) []).getD (q % 100) 0 = 2) (hlk : .fieldLink own idx Cn (T (q % 100)).2.1 (T (q % 100)).2.2.1 ∈ am_tbl) (hd : decode cc (pcs k) = .ok (.getfield idx, 3)) (hn : pcs (k + 1) = pcs k + 3) (hs : am_step rc na mcT msT cN cZ C Z (am_J p l e R s m args below meth c Qm nL D a0 cA base L0 X0 n0 z0 pcs) k ls st h (.getfield q)) : (am_J p l e R s m args below meth c Qm nL D a0 cA base L0 X0 n0 z0 pcs) k ls st h := by
  obtain ⟨p1, n, st1, rfl, hp, hX⟩ := hs
  intro ad H locs lr cells slots hag hwf hR hS hL hc hz hcap
  have hw := hX ad H locs lr cells slots hag ⟨hwf.1, am_okc trivial (am_tl hwf.2.1), hwf.2.2⟩ hR hS hL hc hz hcap
  rw [hn] at hw
  obtain ⟨C2, T2, h2⟩ := hR.2.2.2.2 p1 _ hp hq
  have hCT : (C2, T2, n) = (Cn, T, N) := Option.some.inj (h2.symm.trans hcl)
  cases hCT
  have hw' := am_ws_at (ad := ad) (cA := cA) (am_pl hR hp (by omega)) (am_lt hp)
  rw [am_el_obj hp hq] at hw'
  refine va_get (D := D) (v := .int (h.2.1 p1 (q % 100))) F.1 F.2.1 F.2.2.2.2.1 (fun w hw => F.2.2.2.2.2.1 w (hin w hw)) F.2.2.2.1 F.2.2.2.2.2.2.1 hR.1 (p1 - 4) hw' hcl (q % 100) hk (F.2.2.2.2.1 _ (F.2.2.2.2.2.1 _ hlk)) (fun x hx => by rw [hT] at hx; exact hx) ?_ hd hw
  rw [am_fsl hk]
  unfold am_fv
  split
  · exact absurd (by assumption) hkd
  · exact absurd (by assumption) hkd2
  · rfl
theorem aj_getIN (F : am_F p s m args c cc nL own Ts D a0 cA base L0 X0) {q idx : Nat} {Cn : String} {T : u_T} {N : Nat} (hcl : am_cl[q / 100]? = some (Cn, T, N)) (hq : q / 100 < 50) (hk : q % 100 < N) (hT : (T (q % 100)).1 = Cn) (hin : ∀ w ∈ u_ws Cn T N, w ∈ am_tbl) {host : String} (hkd : ¬ (am_fk.getD (q / 100) []).getD (q % 100) 0 = 1) (hkd2 : ¬ (am_fk.getD (q / 100) []).getD (q % 100) 0 = 2) (hlk : .fieldLinkNest own idx Cn (T (q % 100)).2.1 (T (q % 100)).2.2.1 host ∈ am_tbl) (hd : decode cc (pcs k) = .ok (.getfield idx, 3)) (hn : pcs (k + 1) = pcs k + 3) (hs : am_step rc na mcT msT cN cZ C Z (am_J p l e R s m args below meth c Qm nL D a0 cA base L0 X0 n0 z0 pcs) k ls st h (.getfield q)) : (am_J p l e R s m args below meth c Qm nL D a0 cA base L0 X0 n0 z0 pcs) k ls st h := by
  obtain ⟨p1, n, st1, rfl, hp, hX⟩ := hs
  intro ad H locs lr cells slots hag hwf hR hS hL hc hz hcap
  have hw := hX ad H locs lr cells slots hag ⟨hwf.1, am_okc trivial (am_tl hwf.2.1), hwf.2.2⟩ hR hS hL hc hz hcap
  rw [hn] at hw
  obtain ⟨C2, T2, h2⟩ := hR.2.2.2.2 p1 _ hp hq
  have hCT : (C2, T2, n) = (Cn, T, N) := Option.some.inj (h2.symm.trans hcl)
  cases hCT
  have hw' := am_ws_at (ad := ad) (cA := cA) (am_pl hR hp (by omega)) (am_lt hp)
  rw [am_el_obj hp hq] at hw'
  refine va_getN (D := D) (v := .int (h.2.1 p1 (q % 100))) F.1 F.2.1 F.2.2.2.2.1 (fun w hw => F.2.2.2.2.2.1 w (hin w hw)) F.2.2.2.1 F.2.2.2.2.2.2.1 hR.1 (p1 - 4) hw' hcl (q % 100) hk (F.2.2.2.2.1 _ (F.2.2.2.2.2.1 _ hlk)) (fun x hx => by rw [hT] at hx; exact hx) ?_ hd hw
  rw [am_fsl hk]
  unfold am_fv
  split
  · exact absurd (by assumption) hkd
  · exact absurd (by assumption) hkd2
  · rfl
theorem aj_getL (F : am_F p s m args c cc nL own Ts D a0 cA base L0 X0) {q idx : Nat} {Cn : String} {T : u_T} {N : Nat} (hcl : am_cl[q / 100]? = some (Cn, T, N)) (hq : q / 100 < 50) (hk : q % 100 < N) (hT : (T (q % 100)).1 = Cn) (hin : ∀ w ∈ u_ws Cn T N, w ∈ am_tbl) (hkd : (am_fk.getD (q / 100) []).getD (q % 100) 0 = 1) (hlk : .fieldLink own idx Cn (T (q % 100)).2.1 (T (q % 100)).2.2.1 ∈ am_tbl) (hd : decode cc (pcs k) = .ok (.getfield idx, 3)) (hn : pcs (k + 1) = pcs k + 3) (hs : am_step rc na mcT msT cN cZ C Z (am_J p l e R s m args below meth c Qm nL D a0 cA base L0 X0 n0 z0 pcs) k ls st h (.fload q)) : (am_J p l e R s m args below meth c Qm nL D a0 cA base L0 X0 n0 z0 pcs) k ls st h := by
  obtain ⟨p1, n, st1, rfl, hp, hX⟩ := hs
  intro ad H locs lr cells slots hag hwf hR hS hL hc hz hcap
  have hw := hX ad H locs lr cells slots hag ⟨hwf.1, am_okc trivial (am_tl hwf.2.1), hwf.2.2⟩ hR hS hL hc hz hcap
  rw [hn] at hw
  obtain ⟨C2, T2, h2⟩ := hR.2.2.2.2 p1 _ hp hq
  have hCT : (C2, T2, n) = (Cn, T, N) := Option.some.inj (h2.symm.trans hcl)
  cases hCT
  have hw' := am_ws_at (ad := ad) (cA := cA) (am_pl hR hp (by omega)) (am_lt hp)
  rw [am_el_obj hp hq] at hw'
  refine va_get (D := D) (v := .long (h.2.2.1 p1 (q % 100))) F.1 F.2.1 F.2.2.2.2.1 (fun w hw => F.2.2.2.2.2.1 w (hin w hw)) F.2.2.2.1 F.2.2.2.2.2.2.1 hR.1 (p1 - 4) hw' hcl (q % 100) hk (F.2.2.2.2.1 _ (F.2.2.2.2.2.1 _ hlk)) (fun x hx => by rw [hT] at hx; exact hx) ?_ hd hw
  rw [am_fsl hk]
  unfold am_fv
  simp only [hkd]
theorem aj_getLN (F : am_F p s m args c cc nL own Ts D a0 cA base L0 X0) {q idx : Nat} {Cn : String} {T : u_T} {N : Nat} (hcl : am_cl[q / 100]? = some (Cn, T, N)) (hq : q / 100 < 50) (hk : q % 100 < N) (hT : (T (q % 100)).1 = Cn) (hin : ∀ w ∈ u_ws Cn T N, w ∈ am_tbl) {host : String} (hkd : (am_fk.getD (q / 100) []).getD (q % 100) 0 = 1) (hlk : .fieldLinkNest own idx Cn (T (q % 100)).2.1 (T (q % 100)).2.2.1 host ∈ am_tbl) (hd : decode cc (pcs k) = .ok (.getfield idx, 3)) (hn : pcs (k + 1) = pcs k + 3) (hs : am_step rc na mcT msT cN cZ C Z (am_J p l e R s m args below meth c Qm nL D a0 cA base L0 X0 n0 z0 pcs) k ls st h (.fload q)) : (am_J p l e R s m args below meth c Qm nL D a0 cA base L0 X0 n0 z0 pcs) k ls st h := by
  obtain ⟨p1, n, st1, rfl, hp, hX⟩ := hs
  intro ad H locs lr cells slots hag hwf hR hS hL hc hz hcap
  have hw := hX ad H locs lr cells slots hag ⟨hwf.1, am_okc trivial (am_tl hwf.2.1), hwf.2.2⟩ hR hS hL hc hz hcap
  rw [hn] at hw
  obtain ⟨C2, T2, h2⟩ := hR.2.2.2.2 p1 _ hp hq
  have hCT : (C2, T2, n) = (Cn, T, N) := Option.some.inj (h2.symm.trans hcl)
  cases hCT
  have hw' := am_ws_at (ad := ad) (cA := cA) (am_pl hR hp (by omega)) (am_lt hp)
  rw [am_el_obj hp hq] at hw'
  refine va_getN (D := D) (v := .long (h.2.2.1 p1 (q % 100))) F.1 F.2.1 F.2.2.2.2.1 (fun w hw => F.2.2.2.2.2.1 w (hin w hw)) F.2.2.2.1 F.2.2.2.2.2.2.1 hR.1 (p1 - 4) hw' hcl (q % 100) hk (F.2.2.2.2.1 _ (F.2.2.2.2.2.1 _ hlk)) (fun x hx => by rw [hT] at hx; exact hx) ?_ hd hw
  rw [am_fsl hk]
  unfold am_fv
  simp only [hkd]
theorem aj_getR (F : am_F p s m args c cc nL own Ts D a0 cA base L0 X0) {q idx : Nat} {Cn : String} {T : u_T} {N : Nat} (hcl : am_cl[q / 100]? = some (Cn, T, N)) (hq : q / 100 < 50) (hk : q % 100 < N) (hT : (T (q % 100)).1 = Cn) (hin : ∀ w ∈ u_ws Cn T N, w ∈ am_tbl) (hkd : (am_fk.getD (q / 100) []).getD (q % 100) 0 = 2) (hlk : .fieldLink own idx Cn (T (q % 100)).2.1 (T (q % 100)).2.2.1 ∈ am_tbl) (hd : decode cc (pcs k) = .ok (.getfield idx, 3)) (hn : pcs (k + 1) = pcs k + 3) (hs : am_step rc na mcT msT cN cZ C Z (am_J p l e R s m args below meth c Qm nL D a0 cA base L0 X0 n0 z0 pcs) k ls st h (.dload q)) : (am_J p l e R s m args below meth c Qm nL D a0 cA base L0 X0 n0 z0 pcs) k ls st h := by
  obtain ⟨p1, n, st1, rfl, hp, hX⟩ := hs
  intro ad H locs lr cells slots hag hwf hR hS hL hc hz hcap
  have hw := hX ad H locs lr cells slots hag ⟨hwf.1, am_okrf (am_tl hwf.2.1) (hwf.2.2 p1 (q % 100)), hwf.2.2⟩ hR hS hL hc hz hcap
  rw [hn] at hw
  obtain ⟨C2, T2, h2⟩ := hR.2.2.2.2 p1 _ hp hq
  have hCT : (C2, T2, n) = (Cn, T, N) := Option.some.inj (h2.symm.trans hcl)
  cases hCT
  have hw' := am_ws_at (ad := ad) (cA := cA) (am_pl hR hp (by omega)) (am_lt hp)
  rw [am_el_obj hp hq] at hw'
  refine va_get (D := D) (v := am_vv ad (va_rf (h.2.2.2 p1 (q % 100)))) F.1 F.2.1 F.2.2.2.2.1 (fun w hw => F.2.2.2.2.2.1 w (hin w hw)) F.2.2.2.1 F.2.2.2.2.2.2.1 hR.1 (p1 - 4) hw' hcl (q % 100) hk (F.2.2.2.2.1 _ (F.2.2.2.2.2.1 _ hlk)) (fun x hx => by rw [hT] at hx; exact hx) ?_ hd hw
  rw [am_fsl hk]
  unfold am_fv
  simp only [hkd, am_vv_rf]
theorem aj_getRN (F : am_F p s m args c cc nL own Ts D a0 cA base L0 X0) {q idx : Nat} {Cn : String} {T : u_T} {N : Nat} (hcl : am_cl[q / 100]? = some (Cn, T, N)) (hq : q / 100 < 50) (hk : q % 100 < N) (hT : (T (q % 100)).1 = Cn) (hin : ∀ w ∈ u_ws Cn T N, w ∈ am_tbl) {host : String} (hkd : (am_fk.getD (q / 100) []).getD (q % 100) 0 = 2) (hlk : .fieldLinkNest own idx Cn (T (q % 100)).2.1 (T (q % 100)).2.2.1 host ∈ am_tbl) (hd : decode cc (pcs k) = .ok (.getfield idx, 3)) (hn : pcs (k + 1) = pcs k + 3) (hs : am_step rc na mcT msT cN cZ C Z (am_J p l e R s m args below meth c Qm nL D a0 cA base L0 X0 n0 z0 pcs) k ls st h (.dload q)) : (am_J p l e R s m args below meth c Qm nL D a0 cA base L0 X0 n0 z0 pcs) k ls st h := by
  obtain ⟨p1, n, st1, rfl, hp, hX⟩ := hs
  intro ad H locs lr cells slots hag hwf hR hS hL hc hz hcap
  have hw := hX ad H locs lr cells slots hag ⟨hwf.1, am_okrf (am_tl hwf.2.1) (hwf.2.2 p1 (q % 100)), hwf.2.2⟩ hR hS hL hc hz hcap
  rw [hn] at hw
  obtain ⟨C2, T2, h2⟩ := hR.2.2.2.2 p1 _ hp hq
  have hCT : (C2, T2, n) = (Cn, T, N) := Option.some.inj (h2.symm.trans hcl)
  cases hCT
  have hw' := am_ws_at (ad := ad) (cA := cA) (am_pl hR hp (by omega)) (am_lt hp)
  rw [am_el_obj hp hq] at hw'
  refine va_getN (D := D) (v := am_vv ad (va_rf (h.2.2.2 p1 (q % 100)))) F.1 F.2.1 F.2.2.2.2.1 (fun w hw => F.2.2.2.2.2.1 w (hin w hw)) F.2.2.2.1 F.2.2.2.2.2.2.1 hR.1 (p1 - 4) hw' hcl (q % 100) hk (F.2.2.2.2.1 _ (F.2.2.2.2.2.1 _ hlk)) (fun x hx => by rw [hT] at hx; exact hx) ?_ hd hw
  rw [am_fsl hk]
  unfold am_fv
  simp only [hkd, am_vv_rf]
theorem aj_putI (F : am_F p s m args c cc nL own Ts D a0 cA base L0 X0) {q idx : Nat} {Cn : String} {T : u_T} {N : Nat} (hcl : am_cl[q / 100]? = some (Cn, T, N)) (hq : q / 100 < 50) (hk : q % 100 < N) (hT : (T (q % 100)).1 = Cn) (hin : ∀ w ∈ u_ws Cn T N, w ∈ am_tbl) (ty0 : Nat → FieldType) (hty : ∀ k, k < N → parseFieldDescriptor (T k).2.2.1 = some (ty0 k)) (hnm : ∀ a, a < N → ∀ b, b < N → a ≠ b → (T a).2.1 ≠ (T b).2.1) (htk : ty0 (q % 100) = .int) (hfin : (T (q % 100)).2.2.2 = false) (hkd : ¬ (am_fk.getD (q / 100) []).getD (q % 100) 0 = 1) (hkd2 : ¬ (am_fk.getD (q / 100) []).getD (q % 100) 0 = 2) (hlk : .fieldLink own idx Cn (T (q % 100)).2.1 (T (q % 100)).2.2.1 ∈ am_tbl) (hd : decode cc (pcs k) = .ok (.putfield idx, 3)) (hn : pcs (k + 1) = pcs k + 3) (hs : am_step rc na mcT msT cN cZ C Z (am_J p l e R s m args below meth c Qm nL D a0 cA base L0 X0 n0 z0 pcs) k ls st h (.putfield q)) : (am_J p l e R s m args below meth c Qm nL D a0 cA base L0 X0 n0 z0 pcs) k ls st h := by
  obtain ⟨p1, n, x, st1, rfl, hp, hX⟩ := hs
  intro ad H locs lr cells slots hag hwf hR hS hL hc hz hcap
  obtain ⟨C2, T2, h2⟩ := hR.2.2.2.2 p1 _ hp hq
  have hCT : (C2, T2, n) = (Cn, T, N) := Option.some.inj (h2.symm.trans hcl)
  cases hCT
  have h4 := am_pl hR hp (by omega)
  have hw' := am_ws_at (ad := ad) (cA := cA) h4 (am_lt hp)
  rw [am_el_obj hp hq] at hw'
  skip
  refine va_put (D := D) (v := .int x) (ty := .int) F.1 F.2.1 F.2.2.2.2.1 (fun w hw => F.2.2.2.2.2.1 w (hin w hw)) ty0 hty hnm F.2.2.2.1 F.2.2.2.2.2.2.1 hR.1 hR.2.1 hS (p1 - 4) hw' hcl (q % 100) hk (F.2.2.2.2.1 _ (F.2.2.2.2.2.1 _ hlk)) (fun x hx => by rw [hT] at hx; exact hx) hfin (by rw [hty _ hk, htk]) rfl rfl (by simpa using hk) hd (fun H1 locs1 hP1 hD1 hS1 => ?_)
  have hw := hX ad H1 locs1 lr cells slots hag ⟨hwf.1, am_tl (am_tl hwf.2.1), hwf.2.2⟩ (am_rel_set (p := p1) hR h4 (am_lt hp) rfl ?_ (fun z hz => am_el_oI (am_u_ne hz)) (fun j hj => am_u_ne (by have := am_pl hR hp (by omega); omega)) hP1 hD1) hS1 hL hc hz hcap
  · rw [hn] at hw
    exact hw
  · rw [am_el_obj (h := (h.1, am_u h.2.1 p1 (q % 100) x, h.2.2)) hp hq]
    have hval : .int x = am_fv ad (h.1, am_u h.2.1 p1 (q % 100) x, h.2.2) p1 (q / 100) (q % 100) := by
      unfold am_fv
      dsimp only; rw [am_u_at, am_up_eq]; split
      · exact absurd (by assumption) hkd
      · exact absurd (by assumption) hkd2
      · rfl
    rw [hval]
    congr 2
    refine (am_list_set hk (fun i hi => ?_)).symm
    unfold am_fv
    simp only [am_u_at, am_up_ne hi]
theorem aj_putIF (F : am_F p s m args c cc nL own Ts D a0 cA base L0 X0) {q idx : Nat} {Cn : String} {T : u_T} {N : Nat} (hcl : am_cl[q / 100]? = some (Cn, T, N)) (hq : q / 100 < 50) (hk : q % 100 < N) (hT : (T (q % 100)).1 = Cn) (hin : ∀ w ∈ u_ws Cn T N, w ∈ am_tbl) (ty0 : Nat → FieldType) (hty : ∀ k, k < N → parseFieldDescriptor (T k).2.2.1 = some (ty0 k)) (hnm : ∀ a, a < N → ∀ b, b < N → a ≠ b → (T a).2.1 ≠ (T b).2.1) (htk : ty0 (q % 100) = .int) (hfin : (T (q % 100)).2.2.2 = true) (hini : meth.name = "<init>") (hown : Cn = own) (hkd : ¬ (am_fk.getD (q / 100) []).getD (q % 100) 0 = 1) (hkd2 : ¬ (am_fk.getD (q / 100) []).getD (q % 100) 0 = 2) (hlk : .fieldLink own idx Cn (T (q % 100)).2.1 (T (q % 100)).2.2.1 ∈ am_tbl) (hd : decode cc (pcs k) = .ok (.putfield idx, 3)) (hn : pcs (k + 1) = pcs k + 3) (hs : am_step rc na mcT msT cN cZ C Z (am_J p l e R s m args below meth c Qm nL D a0 cA base L0 X0 n0 z0 pcs) k ls st h (.putfield q)) : (am_J p l e R s m args below meth c Qm nL D a0 cA base L0 X0 n0 z0 pcs) k ls st h := by
  obtain ⟨p1, n, x, st1, rfl, hp, hX⟩ := hs
  intro ad H locs lr cells slots hag hwf hR hS hL hc hz hcap
  obtain ⟨C2, T2, h2⟩ := hR.2.2.2.2 p1 _ hp hq
  have hCT : (C2, T2, n) = (Cn, T, N) := Option.some.inj (h2.symm.trans hcl)
  cases hCT
  have h4 := am_pl hR hp (by omega)
  have hw' := am_ws_at (ad := ad) (cA := cA) h4 (am_lt hp)
  rw [am_el_obj hp hq] at hw'
  skip
  refine va_putF (D := D) (v := .int x) (ty := .int) F.1 F.2.1 F.2.2.2.2.1 (fun w hw => F.2.2.2.2.2.1 w (hin w hw)) ty0 hty hnm F.2.2.2.1 F.2.2.2.2.2.2.1 hR.1 hR.2.1 hS (p1 - 4) hw' hcl (q % 100) hk (F.2.2.2.2.1 _ (F.2.2.2.2.2.1 _ hlk)) (fun x hx => by rw [hT] at hx; exact hx) hfin hini (by rw [hT]; exact hown) (by rw [hty _ hk, htk]) rfl rfl (by simpa using hk) hd (fun H1 locs1 hP1 hD1 hS1 => ?_)
  have hw := hX ad H1 locs1 lr cells slots hag ⟨hwf.1, am_tl (am_tl hwf.2.1), hwf.2.2⟩ (am_rel_set (p := p1) hR h4 (am_lt hp) rfl ?_ (fun z hz => am_el_oI (am_u_ne hz)) (fun j hj => am_u_ne (by have := am_pl hR hp (by omega); omega)) hP1 hD1) hS1 hL hc hz hcap
  · rw [hn] at hw
    exact hw
  · rw [am_el_obj (h := (h.1, am_u h.2.1 p1 (q % 100) x, h.2.2)) hp hq]
    have hval : .int x = am_fv ad (h.1, am_u h.2.1 p1 (q % 100) x, h.2.2) p1 (q / 100) (q % 100) := by
      unfold am_fv
      dsimp only; rw [am_u_at, am_up_eq]; split
      · exact absurd (by assumption) hkd
      · exact absurd (by assumption) hkd2
      · rfl
    rw [hval]
    congr 2
    refine (am_list_set hk (fun i hi => ?_)).symm
    unfold am_fv
    simp only [am_u_at, am_up_ne hi]
theorem aj_putIN (F : am_F p s m args c cc nL own Ts D a0 cA base L0 X0) {q idx : Nat} {Cn : String} {T : u_T} {N : Nat} (hcl : am_cl[q / 100]? = some (Cn, T, N)) (hq : q / 100 < 50) (hk : q % 100 < N) (hT : (T (q % 100)).1 = Cn) (hin : ∀ w ∈ u_ws Cn T N, w ∈ am_tbl) {host : String} (ty0 : Nat → FieldType) (hty : ∀ k, k < N → parseFieldDescriptor (T k).2.2.1 = some (ty0 k)) (hnm : ∀ a, a < N → ∀ b, b < N → a ≠ b → (T a).2.1 ≠ (T b).2.1) (htk : ty0 (q % 100) = .int) (hfin : (T (q % 100)).2.2.2 = false) (hkd : ¬ (am_fk.getD (q / 100) []).getD (q % 100) 0 = 1) (hkd2 : ¬ (am_fk.getD (q / 100) []).getD (q % 100) 0 = 2) (hlk : .fieldLinkNest own idx Cn (T (q % 100)).2.1 (T (q % 100)).2.2.1 host ∈ am_tbl) (hd : decode cc (pcs k) = .ok (.putfield idx, 3)) (hn : pcs (k + 1) = pcs k + 3) (hs : am_step rc na mcT msT cN cZ C Z (am_J p l e R s m args below meth c Qm nL D a0 cA base L0 X0 n0 z0 pcs) k ls st h (.putfield q)) : (am_J p l e R s m args below meth c Qm nL D a0 cA base L0 X0 n0 z0 pcs) k ls st h := by
  obtain ⟨p1, n, x, st1, rfl, hp, hX⟩ := hs
  intro ad H locs lr cells slots hag hwf hR hS hL hc hz hcap
  obtain ⟨C2, T2, h2⟩ := hR.2.2.2.2 p1 _ hp hq
  have hCT : (C2, T2, n) = (Cn, T, N) := Option.some.inj (h2.symm.trans hcl)
  cases hCT
  have h4 := am_pl hR hp (by omega)
  have hw' := am_ws_at (ad := ad) (cA := cA) h4 (am_lt hp)
  rw [am_el_obj hp hq] at hw'
  skip
  refine va_putN (D := D) (v := .int x) (ty := .int) F.1 F.2.1 F.2.2.2.2.1 (fun w hw => F.2.2.2.2.2.1 w (hin w hw)) ty0 hty hnm F.2.2.2.1 F.2.2.2.2.2.2.1 hR.1 hR.2.1 hS (p1 - 4) hw' hcl (q % 100) hk (F.2.2.2.2.1 _ (F.2.2.2.2.2.1 _ hlk)) (fun x hx => by rw [hT] at hx; exact hx) hfin (by rw [hty _ hk, htk]) rfl rfl (by simpa using hk) hd (fun H1 locs1 hP1 hD1 hS1 => ?_)
  have hw := hX ad H1 locs1 lr cells slots hag ⟨hwf.1, am_tl (am_tl hwf.2.1), hwf.2.2⟩ (am_rel_set (p := p1) hR h4 (am_lt hp) rfl ?_ (fun z hz => am_el_oI (am_u_ne hz)) (fun j hj => am_u_ne (by have := am_pl hR hp (by omega); omega)) hP1 hD1) hS1 hL hc hz hcap
  · rw [hn] at hw
    exact hw
  · rw [am_el_obj (h := (h.1, am_u h.2.1 p1 (q % 100) x, h.2.2)) hp hq]
    have hval : .int x = am_fv ad (h.1, am_u h.2.1 p1 (q % 100) x, h.2.2) p1 (q / 100) (q % 100) := by
      unfold am_fv
      dsimp only; rw [am_u_at, am_up_eq]; split
      · exact absurd (by assumption) hkd
      · exact absurd (by assumption) hkd2
      · rfl
    rw [hval]
    congr 2
    refine (am_list_set hk (fun i hi => ?_)).symm
    unfold am_fv
    simp only [am_u_at, am_up_ne hi]
theorem aj_putZ (F : am_F p s m args c cc nL own Ts D a0 cA base L0 X0) {q idx : Nat} {Cn : String} {T : u_T} {N : Nat} (hcl : am_cl[q / 100]? = some (Cn, T, N)) (hq : q / 100 < 50) (hk : q % 100 < N) (hT : (T (q % 100)).1 = Cn) (hin : ∀ w ∈ u_ws Cn T N, w ∈ am_tbl) (ty0 : Nat → FieldType) (hty : ∀ k, k < N → parseFieldDescriptor (T k).2.2.1 = some (ty0 k)) (hnm : ∀ a, a < N → ∀ b, b < N → a ≠ b → (T a).2.1 ≠ (T b).2.1) (htk : ty0 (q % 100) = .boolean) (hfin : (T (q % 100)).2.2.2 = false) (hkd : ¬ (am_fk.getD (q / 100) []).getD (q % 100) 0 = 1) (hkd2 : ¬ (am_fk.getD (q / 100) []).getD (q % 100) 0 = 2) (hlk : .fieldLink own idx Cn (T (q % 100)).2.1 (T (q % 100)).2.2.1 ∈ am_tbl) (hd : decode cc (pcs k) = .ok (.putfield idx, 3)) (hn : pcs (k + 1) = pcs k + 3) (hs : am_step rc na mcT msT cN cZ C Z (am_J p l e R s m args below meth c Qm nL D a0 cA base L0 X0 n0 z0 pcs) k ls st h (.putstatic q)) : (am_J p l e R s m args below meth c Qm nL D a0 cA base L0 X0 n0 z0 pcs) k ls st h := by
  obtain ⟨p1, n, x, st1, rfl, hx01, hp, hX⟩ := hs
  intro ad H locs lr cells slots hag hwf hR hS hL hc hz hcap
  obtain ⟨C2, T2, h2⟩ := hR.2.2.2.2 p1 _ hp hq
  have hCT : (C2, T2, n) = (Cn, T, N) := Option.some.inj (h2.symm.trans hcl)
  cases hCT
  have h4 := am_pl hR hp (by omega)
  have hw' := am_ws_at (ad := ad) (cA := cA) h4 (am_lt hp)
  rw [am_el_obj hp hq] at hw'
  skip
  refine va_put (D := D) (v := .int x) (ty := .boolean) F.1 F.2.1 F.2.2.2.2.1 (fun w hw => F.2.2.2.2.2.1 w (hin w hw)) ty0 hty hnm F.2.2.2.1 F.2.2.2.2.2.2.1 hR.1 hR.2.1 hS (p1 - 4) hw' hcl (q % 100) hk (F.2.2.2.2.1 _ (F.2.2.2.2.2.1 _ hlk)) (fun x hx => by rw [hT] at hx; exact hx) hfin (by rw [hty _ hk, htk]) (by rcases hx01 with rfl | rfl <;> rfl) (by rcases hx01 with rfl | rfl <;> rfl) (by simpa using hk) hd (fun H1 locs1 hP1 hD1 hS1 => ?_)
  have hw := hX ad H1 locs1 lr cells slots hag ⟨hwf.1, am_tl (am_tl hwf.2.1), hwf.2.2⟩ (am_rel_set (p := p1) hR h4 (am_lt hp) rfl ?_ (fun z hz => am_el_oI (am_u_ne hz)) (fun j hj => am_u_ne (by have := am_pl hR hp (by omega); omega)) hP1 hD1) hS1 hL hc hz hcap
  · rw [hn] at hw
    exact hw
  · rw [am_el_obj (h := (h.1, am_u h.2.1 p1 (q % 100) x, h.2.2)) hp hq]
    have hval : .int x = am_fv ad (h.1, am_u h.2.1 p1 (q % 100) x, h.2.2) p1 (q / 100) (q % 100) := by
      unfold am_fv
      dsimp only; rw [am_u_at, am_up_eq]; split
      · exact absurd (by assumption) hkd
      · exact absurd (by assumption) hkd2
      · rfl
    rw [hval]
    congr 2
    refine (am_list_set hk (fun i hi => ?_)).symm
    unfold am_fv
    simp only [am_u_at, am_up_ne hi]
theorem aj_putZF (F : am_F p s m args c cc nL own Ts D a0 cA base L0 X0) {q idx : Nat} {Cn : String} {T : u_T} {N : Nat} (hcl : am_cl[q / 100]? = some (Cn, T, N)) (hq : q / 100 < 50) (hk : q % 100 < N) (hT : (T (q % 100)).1 = Cn) (hin : ∀ w ∈ u_ws Cn T N, w ∈ am_tbl) (ty0 : Nat → FieldType) (hty : ∀ k, k < N → parseFieldDescriptor (T k).2.2.1 = some (ty0 k)) (hnm : ∀ a, a < N → ∀ b, b < N → a ≠ b → (T a).2.1 ≠ (T b).2.1) (htk : ty0 (q % 100) = .boolean) (hfin : (T (q % 100)).2.2.2 = true) (hini : meth.name = "<init>") (hown : Cn = own) (hkd : ¬ (am_fk.getD (q / 100) []).getD (q % 100) 0 = 1) (hkd2 : ¬ (am_fk.getD (q / 100) []).getD (q % 100) 0 = 2) (hlk : .fieldLink own idx Cn (T (q % 100)).2.1 (T (q % 100)).2.2.1 ∈ am_tbl) (hd : decode cc (pcs k) = .ok (.putfield idx, 3)) (hn : pcs (k + 1) = pcs k + 3) (hs : am_step rc na mcT msT cN cZ C Z (am_J p l e R s m args below meth c Qm nL D a0 cA base L0 X0 n0 z0 pcs) k ls st h (.putstatic q)) : (am_J p l e R s m args below meth c Qm nL D a0 cA base L0 X0 n0 z0 pcs) k ls st h := by
  obtain ⟨p1, n, x, st1, rfl, hx01, hp, hX⟩ := hs
  intro ad H locs lr cells slots hag hwf hR hS hL hc hz hcap
  obtain ⟨C2, T2, h2⟩ := hR.2.2.2.2 p1 _ hp hq
  have hCT : (C2, T2, n) = (Cn, T, N) := Option.some.inj (h2.symm.trans hcl)
  cases hCT
  have h4 := am_pl hR hp (by omega)
  have hw' := am_ws_at (ad := ad) (cA := cA) h4 (am_lt hp)
  rw [am_el_obj hp hq] at hw'
  skip
  refine va_putF (D := D) (v := .int x) (ty := .boolean) F.1 F.2.1 F.2.2.2.2.1 (fun w hw => F.2.2.2.2.2.1 w (hin w hw)) ty0 hty hnm F.2.2.2.1 F.2.2.2.2.2.2.1 hR.1 hR.2.1 hS (p1 - 4) hw' hcl (q % 100) hk (F.2.2.2.2.1 _ (F.2.2.2.2.2.1 _ hlk)) (fun x hx => by rw [hT] at hx; exact hx) hfin hini (by rw [hT]; exact hown) (by rw [hty _ hk, htk]) (by rcases hx01 with rfl | rfl <;> rfl) (by rcases hx01 with rfl | rfl <;> rfl) (by simpa using hk) hd (fun H1 locs1 hP1 hD1 hS1 => ?_)
  have hw := hX ad H1 locs1 lr cells slots hag ⟨hwf.1, am_tl (am_tl hwf.2.1), hwf.2.2⟩ (am_rel_set (p := p1) hR h4 (am_lt hp) rfl ?_ (fun z hz => am_el_oI (am_u_ne hz)) (fun j hj => am_u_ne (by have := am_pl hR hp (by omega); omega)) hP1 hD1) hS1 hL hc hz hcap
  · rw [hn] at hw
    exact hw
  · rw [am_el_obj (h := (h.1, am_u h.2.1 p1 (q % 100) x, h.2.2)) hp hq]
    have hval : .int x = am_fv ad (h.1, am_u h.2.1 p1 (q % 100) x, h.2.2) p1 (q / 100) (q % 100) := by
      unfold am_fv
      dsimp only; rw [am_u_at, am_up_eq]; split
      · exact absurd (by assumption) hkd
      · exact absurd (by assumption) hkd2
      · rfl
    rw [hval]
    congr 2
    refine (am_list_set hk (fun i hi => ?_)).symm
    unfold am_fv
    simp only [am_u_at, am_up_ne hi]
theorem aj_putZN (F : am_F p s m args c cc nL own Ts D a0 cA base L0 X0) {q idx : Nat} {Cn : String} {T : u_T} {N : Nat} (hcl : am_cl[q / 100]? = some (Cn, T, N)) (hq : q / 100 < 50) (hk : q % 100 < N) (hT : (T (q % 100)).1 = Cn) (hin : ∀ w ∈ u_ws Cn T N, w ∈ am_tbl) {host : String} (ty0 : Nat → FieldType) (hty : ∀ k, k < N → parseFieldDescriptor (T k).2.2.1 = some (ty0 k)) (hnm : ∀ a, a < N → ∀ b, b < N → a ≠ b → (T a).2.1 ≠ (T b).2.1) (htk : ty0 (q % 100) = .boolean) (hfin : (T (q % 100)).2.2.2 = false) (hkd : ¬ (am_fk.getD (q / 100) []).getD (q % 100) 0 = 1) (hkd2 : ¬ (am_fk.getD (q / 100) []).getD (q % 100) 0 = 2) (hlk : .fieldLinkNest own idx Cn (T (q % 100)).2.1 (T (q % 100)).2.2.1 host ∈ am_tbl) (hd : decode cc (pcs k) = .ok (.putfield idx, 3)) (hn : pcs (k + 1) = pcs k + 3) (hs : am_step rc na mcT msT cN cZ C Z (am_J p l e R s m args below meth c Qm nL D a0 cA base L0 X0 n0 z0 pcs) k ls st h (.putstatic q)) : (am_J p l e R s m args below meth c Qm nL D a0 cA base L0 X0 n0 z0 pcs) k ls st h := by
  obtain ⟨p1, n, x, st1, rfl, hx01, hp, hX⟩ := hs
  intro ad H locs lr cells slots hag hwf hR hS hL hc hz hcap
  obtain ⟨C2, T2, h2⟩ := hR.2.2.2.2 p1 _ hp hq
  have hCT : (C2, T2, n) = (Cn, T, N) := Option.some.inj (h2.symm.trans hcl)
  cases hCT
  have h4 := am_pl hR hp (by omega)
  have hw' := am_ws_at (ad := ad) (cA := cA) h4 (am_lt hp)
  rw [am_el_obj hp hq] at hw'
  skip
  refine va_putN (D := D) (v := .int x) (ty := .boolean) F.1 F.2.1 F.2.2.2.2.1 (fun w hw => F.2.2.2.2.2.1 w (hin w hw)) ty0 hty hnm F.2.2.2.1 F.2.2.2.2.2.2.1 hR.1 hR.2.1 hS (p1 - 4) hw' hcl (q % 100) hk (F.2.2.2.2.1 _ (F.2.2.2.2.2.1 _ hlk)) (fun x hx => by rw [hT] at hx; exact hx) hfin (by rw [hty _ hk, htk]) (by rcases hx01 with rfl | rfl <;> rfl) (by rcases hx01 with rfl | rfl <;> rfl) (by simpa using hk) hd (fun H1 locs1 hP1 hD1 hS1 => ?_)
  have hw := hX ad H1 locs1 lr cells slots hag ⟨hwf.1, am_tl (am_tl hwf.2.1), hwf.2.2⟩ (am_rel_set (p := p1) hR h4 (am_lt hp) rfl ?_ (fun z hz => am_el_oI (am_u_ne hz)) (fun j hj => am_u_ne (by have := am_pl hR hp (by omega); omega)) hP1 hD1) hS1 hL hc hz hcap
  · rw [hn] at hw
    exact hw
  · rw [am_el_obj (h := (h.1, am_u h.2.1 p1 (q % 100) x, h.2.2)) hp hq]
    have hval : .int x = am_fv ad (h.1, am_u h.2.1 p1 (q % 100) x, h.2.2) p1 (q / 100) (q % 100) := by
      unfold am_fv
      dsimp only; rw [am_u_at, am_up_eq]; split
      · exact absurd (by assumption) hkd
      · exact absurd (by assumption) hkd2
      · rfl
    rw [hval]
    congr 2
    refine (am_list_set hk (fun i hi => ?_)).symm
    unfold am_fv
    simp only [am_u_at, am_up_ne hi]
theorem aj_putL (F : am_F p s m args c cc nL own Ts D a0 cA base L0 X0) {q idx : Nat} {Cn : String} {T : u_T} {N : Nat} (hcl : am_cl[q / 100]? = some (Cn, T, N)) (hq : q / 100 < 50) (hk : q % 100 < N) (hT : (T (q % 100)).1 = Cn) (hin : ∀ w ∈ u_ws Cn T N, w ∈ am_tbl) (ty0 : Nat → FieldType) (hty : ∀ k, k < N → parseFieldDescriptor (T k).2.2.1 = some (ty0 k)) (hnm : ∀ a, a < N → ∀ b, b < N → a ≠ b → (T a).2.1 ≠ (T b).2.1) (htk : ty0 (q % 100) = .long) (hfin : (T (q % 100)).2.2.2 = false) (hkd : (am_fk.getD (q / 100) []).getD (q % 100) 0 = 1) (hlk : .fieldLink own idx Cn (T (q % 100)).2.1 (T (q % 100)).2.2.1 ∈ am_tbl) (hd : decode cc (pcs k) = .ok (.putfield idx, 3)) (hn : pcs (k + 1) = pcs k + 3) (hs : am_step rc na mcT msT cN cZ C Z (am_J p l e R s m args below meth c Qm nL D a0 cA base L0 X0 n0 z0 pcs) k ls st h (.fstore q)) : (am_J p l e R s m args below meth c Qm nL D a0 cA base L0 X0 n0 z0 pcs) k ls st h := by
  obtain ⟨p1, n, x, st1, rfl, hp, hX⟩ := hs
  intro ad H locs lr cells slots hag hwf hR hS hL hc hz hcap
  obtain ⟨C2, T2, h2⟩ := hR.2.2.2.2 p1 _ hp hq
  have hCT : (C2, T2, n) = (Cn, T, N) := Option.some.inj (h2.symm.trans hcl)
  cases hCT
  have h4 := am_pl hR hp (by omega)
  have hw' := am_ws_at (ad := ad) (cA := cA) h4 (am_lt hp)
  rw [am_el_obj hp hq] at hw'
  skip
  refine va_put (D := D) (v := .long x) (ty := .long) F.1 F.2.1 F.2.2.2.2.1 (fun w hw => F.2.2.2.2.2.1 w (hin w hw)) ty0 hty hnm F.2.2.2.1 F.2.2.2.2.2.2.1 hR.1 hR.2.1 hS (p1 - 4) hw' hcl (q % 100) hk (F.2.2.2.2.1 _ (F.2.2.2.2.2.1 _ hlk)) (fun x hx => by rw [hT] at hx; exact hx) hfin (by rw [hty _ hk, htk]) rfl rfl (by simpa using hk) hd (fun H1 locs1 hP1 hD1 hS1 => ?_)
  have hw := hX ad H1 locs1 lr cells slots hag ⟨hwf.1, am_tl (am_tl hwf.2.1), hwf.2.2⟩ (am_rel_set (p := p1) hR h4 (am_lt hp) rfl ?_ (fun z hz => am_el_oL (am_u_ne hz)) (fun j hj => rfl) hP1 hD1) hS1 hL hc hz hcap
  · rw [hn] at hw
    exact hw
  · rw [am_el_obj (h := (h.1, h.2.1, am_u h.2.2.1 p1 (q % 100) x, h.2.2.2)) hp hq]
    have hval : .long x = am_fv ad (h.1, h.2.1, am_u h.2.2.1 p1 (q % 100) x, h.2.2.2) p1 (q / 100) (q % 100) := by
      unfold am_fv
      dsimp only; simp only [hkd]; rw [am_u_at, am_up_eq]
    rw [hval]
    congr 2
    refine (am_list_set hk (fun i hi => ?_)).symm
    unfold am_fv
    simp only [am_u_at, am_up_ne hi]
theorem aj_putLF (F : am_F p s m args c cc nL own Ts D a0 cA base L0 X0) {q idx : Nat} {Cn : String} {T : u_T} {N : Nat} (hcl : am_cl[q / 100]? = some (Cn, T, N)) (hq : q / 100 < 50) (hk : q % 100 < N) (hT : (T (q % 100)).1 = Cn) (hin : ∀ w ∈ u_ws Cn T N, w ∈ am_tbl) (ty0 : Nat → FieldType) (hty : ∀ k, k < N → parseFieldDescriptor (T k).2.2.1 = some (ty0 k)) (hnm : ∀ a, a < N → ∀ b, b < N → a ≠ b → (T a).2.1 ≠ (T b).2.1) (htk : ty0 (q % 100) = .long) (hfin : (T (q % 100)).2.2.2 = true) (hini : meth.name = "<init>") (hown : Cn = own) (hkd : (am_fk.getD (q / 100) []).getD (q % 100) 0 = 1) (hlk : .fieldLink own idx Cn (T (q % 100)).2.1 (T (q % 100)).2.2.1 ∈ am_tbl) (hd : decode cc (pcs k) = .ok (.putfield idx, 3)) (hn : pcs (k + 1) = pcs k + 3) (hs : am_step rc na mcT msT cN cZ C Z (am_J p l e R s m args below meth c Qm nL D a0 cA base L0 X0 n0 z0 pcs) k ls st h (.fstore q)) : (am_J p l e R s m args below meth c Qm nL D a0 cA base L0 X0 n0 z0 pcs) k ls st h := by
  obtain ⟨p1, n, x, st1, rfl, hp, hX⟩ := hs
  intro ad H locs lr cells slots hag hwf hR hS hL hc hz hcap
  obtain ⟨C2, T2, h2⟩ := hR.2.2.2.2 p1 _ hp hq
  have hCT : (C2, T2, n) = (Cn, T, N) := Option.some.inj (h2.symm.trans hcl)
  cases hCT
  have h4 := am_pl hR hp (by omega)
  have hw' := am_ws_at (ad := ad) (cA := cA) h4 (am_lt hp)
  rw [am_el_obj hp hq] at hw'
  skip
  refine va_putF (D := D) (v := .long x) (ty := .long) F.1 F.2.1 F.2.2.2.2.1 (fun w hw => F.2.2.2.2.2.1 w (hin w hw)) ty0 hty hnm F.2.2.2.1 F.2.2.2.2.2.2.1 hR.1 hR.2.1 hS (p1 - 4) hw' hcl (q % 100) hk (F.2.2.2.2.1 _ (F.2.2.2.2.2.1 _ hlk)) (fun x hx => by rw [hT] at hx; exact hx) hfin hini (by rw [hT]; exact hown) (by rw [hty _ hk, htk]) rfl rfl (by simpa using hk) hd (fun H1 locs1 hP1 hD1 hS1 => ?_)
  have hw := hX ad H1 locs1 lr cells slots hag ⟨hwf.1, am_tl (am_tl hwf.2.1), hwf.2.2⟩ (am_rel_set (p := p1) hR h4 (am_lt hp) rfl ?_ (fun z hz => am_el_oL (am_u_ne hz)) (fun j hj => rfl) hP1 hD1) hS1 hL hc hz hcap
  · rw [hn] at hw
    exact hw
  · rw [am_el_obj (h := (h.1, h.2.1, am_u h.2.2.1 p1 (q % 100) x, h.2.2.2)) hp hq]
    have hval : .long x = am_fv ad (h.1, h.2.1, am_u h.2.2.1 p1 (q % 100) x, h.2.2.2) p1 (q / 100) (q % 100) := by
      unfold am_fv
      dsimp only; simp only [hkd]; rw [am_u_at, am_up_eq]
    rw [hval]
    congr 2
    refine (am_list_set hk (fun i hi => ?_)).symm
    unfold am_fv
    simp only [am_u_at, am_up_ne hi]
theorem aj_putLN (F : am_F p s m args c cc nL own Ts D a0 cA base L0 X0) {q idx : Nat} {Cn : String} {T : u_T} {N : Nat} (hcl : am_cl[q / 100]? = some (Cn, T, N)) (hq : q / 100 < 50) (hk : q % 100 < N) (hT : (T (q % 100)).1 = Cn) (hin : ∀ w ∈ u_ws Cn T N, w ∈ am_tbl) {host : String} (ty0 : Nat → FieldType) (hty : ∀ k, k < N → parseFieldDescriptor (T k).2.2.1 = some (ty0 k)) (hnm : ∀ a, a < N → ∀ b, b < N → a ≠ b → (T a).2.1 ≠ (T b).2.1) (htk : ty0 (q % 100) = .long) (hfin : (T (q % 100)).2.2.2 = false) (hkd : (am_fk.getD (q / 100) []).getD (q % 100) 0 = 1) (hlk : .fieldLinkNest own idx Cn (T (q % 100)).2.1 (T (q % 100)).2.2.1 host ∈ am_tbl) (hd : decode cc (pcs k) = .ok (.putfield idx, 3)) (hn : pcs (k + 1) = pcs k + 3) (hs : am_step rc na mcT msT cN cZ C Z (am_J p l e R s m args below meth c Qm nL D a0 cA base L0 X0 n0 z0 pcs) k ls st h (.fstore q)) : (am_J p l e R s m args below meth c Qm nL D a0 cA base L0 X0 n0 z0 pcs) k ls st h := by
  obtain ⟨p1, n, x, st1, rfl, hp, hX⟩ := hs
  intro ad H locs lr cells slots hag hwf hR hS hL hc hz hcap
  obtain ⟨C2, T2, h2⟩ := hR.2.2.2.2 p1 _ hp hq
  have hCT : (C2, T2, n) = (Cn, T, N) := Option.some.inj (h2.symm.trans hcl)
  cases hCT
  have h4 := am_pl hR hp (by omega)
  have hw' := am_ws_at (ad := ad) (cA := cA) h4 (am_lt hp)
  rw [am_el_obj hp hq] at hw'
  skip
  refine va_putN (D := D) (v := .long x) (ty := .long) F.1 F.2.1 F.2.2.2.2.1 (fun w hw => F.2.2.2.2.2.1 w (hin w hw)) ty0 hty hnm F.2.2.2.1 F.2.2.2.2.2.2.1 hR.1 hR.2.1 hS (p1 - 4) hw' hcl (q % 100) hk (F.2.2.2.2.1 _ (F.2.2.2.2.2.1 _ hlk)) (fun x hx => by rw [hT] at hx; exact hx) hfin (by rw [hty _ hk, htk]) rfl rfl (by simpa using hk) hd (fun H1 locs1 hP1 hD1 hS1 => ?_)
  have hw := hX ad H1 locs1 lr cells slots hag ⟨hwf.1, am_tl (am_tl hwf.2.1), hwf.2.2⟩ (am_rel_set (p := p1) hR h4 (am_lt hp) rfl ?_ (fun z hz => am_el_oL (am_u_ne hz)) (fun j hj => rfl) hP1 hD1) hS1 hL hc hz hcap
  · rw [hn] at hw
    exact hw
  · rw [am_el_obj (h := (h.1, h.2.1, am_u h.2.2.1 p1 (q % 100) x, h.2.2.2)) hp hq]
    have hval : .long x = am_fv ad (h.1, h.2.1, am_u h.2.2.1 p1 (q % 100) x, h.2.2.2) p1 (q / 100) (q % 100) := by
      unfold am_fv
      dsimp only; simp only [hkd]; rw [am_u_at, am_up_eq]
    rw [hval]
    congr 2
    refine (am_list_set hk (fun i hi => ?_)).symm
    unfold am_fv
    simp only [am_u_at, am_up_ne hi]
theorem aj_putR (F : am_F p s m args c cc nL own Ts D a0 cA base L0 X0) {q idx : Nat} {Cn : String} {T : u_T} {N : Nat} (hcl : am_cl[q / 100]? = some (Cn, T, N)) (hq : q / 100 < 50) (hk : q % 100 < N) (hT : (T (q % 100)).1 = Cn) (hin : ∀ w ∈ u_ws Cn T N, w ∈ am_tbl) {ty : FieldType} (hnr : ∀ r : Option Nat, narrow ty (va_rf r) = va_rf r) (hfr : ∀ r : Option Nat, fits ty (va_rf r) = true) (ty0 : Nat → FieldType) (hty : ∀ k, k < N → parseFieldDescriptor (T k).2.2.1 = some (ty0 k)) (hnm : ∀ a, a < N → ∀ b, b < N → a ≠ b → (T a).2.1 ≠ (T b).2.1) (htk : ty0 (q % 100) = ty) (hfin : (T (q % 100)).2.2.2 = false) (hkd : (am_fk.getD (q / 100) []).getD (q % 100) 0 = 2) (hlk : .fieldLink own idx Cn (T (q % 100)).2.1 (T (q % 100)).2.2.1 ∈ am_tbl) (hd : decode cc (pcs k) = .ok (.putfield idx, 3)) (hn : pcs (k + 1) = pcs k + 3) (hs : am_step rc na mcT msT cN cZ C Z (am_J p l e R s m args below meth c Qm nL D a0 cA base L0 X0 n0 z0 pcs) k ls st h (.dstore q)) : (am_J p l e R s m args below meth c Qm nL D a0 cA base L0 X0 n0 z0 pcs) k ls st h := by
  obtain ⟨p1, n, r, st1, rfl, hp, hX⟩ := hs
  intro ad H locs lr cells slots hag hwf hR hS hL hc hz hcap
  obtain ⟨C2, T2, h2⟩ := hR.2.2.2.2 p1 _ hp hq
  have hCT : (C2, T2, n) = (Cn, T, N) := Option.some.inj (h2.symm.trans hcl)
  cases hCT
  have h4 := am_pl hR hp (by omega)
  have hw' := am_ws_at (ad := ad) (cA := cA) h4 (am_lt hp)
  rw [am_el_obj hp hq] at hw'
  simp only [List.map_cons, am_vv_rf]
  refine va_put (D := D) (v := va_rf (r.map ad)) (ty := ty) F.1 F.2.1 F.2.2.2.2.1 (fun w hw => F.2.2.2.2.2.1 w (hin w hw)) ty0 hty hnm F.2.2.2.1 F.2.2.2.2.2.2.1 hR.1 hR.2.1 hS (p1 - 4) hw' hcl (q % 100) hk (F.2.2.2.2.1 _ (F.2.2.2.2.2.1 _ hlk)) (fun x hx => by rw [hT] at hx; exact hx) hfin (by rw [hty _ hk, htk]) (hnr _) (hfr _) (by simpa using hk) hd (fun H1 locs1 hP1 hD1 hS1 => ?_)
  have hw := hX ad H1 locs1 lr cells slots hag (am_wfR hwf) (am_rel_set (p := p1) hR h4 (am_lt hp) rfl ?_ (fun z hz => am_el_oR (am_u_ne hz)) (fun j hj => rfl) hP1 hD1) hS1 hL hc hz hcap
  · rw [hn] at hw
    exact hw
  · rw [am_el_obj (h := (h.1, h.2.1, h.2.2.1, am_u h.2.2.2 p1 (q % 100) r)) hp hq]
    have hval : va_rf (r.map ad) = am_fv ad (h.1, h.2.1, h.2.2.1, am_u h.2.2.2 p1 (q % 100) r) p1 (q / 100) (q % 100) := by
      unfold am_fv
      dsimp only; simp only [hkd]; rw [am_u_at, am_up_eq]
    rw [hval]
    congr 2
    refine (am_list_set hk (fun i hi => ?_)).symm
    unfold am_fv
    simp only [am_u_at, am_up_ne hi]
theorem aj_putRF (F : am_F p s m args c cc nL own Ts D a0 cA base L0 X0) {q idx : Nat} {Cn : String} {T : u_T} {N : Nat} (hcl : am_cl[q / 100]? = some (Cn, T, N)) (hq : q / 100 < 50) (hk : q % 100 < N) (hT : (T (q % 100)).1 = Cn) (hin : ∀ w ∈ u_ws Cn T N, w ∈ am_tbl) {ty : FieldType} (hnr : ∀ r : Option Nat, narrow ty (va_rf r) = va_rf r) (hfr : ∀ r : Option Nat, fits ty (va_rf r) = true) (ty0 : Nat → FieldType) (hty : ∀ k, k < N → parseFieldDescriptor (T k).2.2.1 = some (ty0 k)) (hnm : ∀ a, a < N → ∀ b, b < N → a ≠ b → (T a).2.1 ≠ (T b).2.1) (htk : ty0 (q % 100) = ty) (hfin : (T (q % 100)).2.2.2 = true) (hini : meth.name = "<init>") (hown : Cn = own) (hkd : (am_fk.getD (q / 100) []).getD (q % 100) 0 = 2) (hlk : .fieldLink own idx Cn (T (q % 100)).2.1 (T (q % 100)).2.2.1 ∈ am_tbl) (hd : decode cc (pcs k) = .ok (.putfield idx, 3)) (hn : pcs (k + 1) = pcs k + 3) (hs : am_step rc na mcT msT cN cZ C Z (am_J p l e R s m args below meth c Qm nL D a0 cA base L0 X0 n0 z0 pcs) k ls st h (.dstore q)) : (am_J p l e R s m args below meth c Qm nL D a0 cA base L0 X0 n0 z0 pcs) k ls st h := by
  obtain ⟨p1, n, r, st1, rfl, hp, hX⟩ := hs
  intro ad H locs lr cells slots hag hwf hR hS hL hc hz hcap
  obtain ⟨C2, T2, h2⟩ := hR.2.2.2.2 p1 _ hp hq
  have hCT : (C2, T2, n) = (Cn, T, N) := Option.some.inj (h2.symm.trans hcl)
  cases hCT
  have h4 := am_pl hR hp (by omega)
  have hw' := am_ws_at (ad := ad) (cA := cA) h4 (am_lt hp)
  rw [am_el_obj hp hq] at hw'
  simp only [List.map_cons, am_vv_rf]
  refine va_putF (D := D) (v := va_rf (r.map ad)) (ty := ty) F.1 F.2.1 F.2.2.2.2.1 (fun w hw => F.2.2.2.2.2.1 w (hin w hw)) ty0 hty hnm F.2.2.2.1 F.2.2.2.2.2.2.1 hR.1 hR.2.1 hS (p1 - 4) hw' hcl (q % 100) hk (F.2.2.2.2.1 _ (F.2.2.2.2.2.1 _ hlk)) (fun x hx => by rw [hT] at hx; exact hx) hfin hini (by rw [hT]; exact hown) (by rw [hty _ hk, htk]) (hnr _) (hfr _) (by simpa using hk) hd (fun H1 locs1 hP1 hD1 hS1 => ?_)
  have hw := hX ad H1 locs1 lr cells slots hag (am_wfR hwf) (am_rel_set (p := p1) hR h4 (am_lt hp) rfl ?_ (fun z hz => am_el_oR (am_u_ne hz)) (fun j hj => rfl) hP1 hD1) hS1 hL hc hz hcap
  · rw [hn] at hw
    exact hw
  · rw [am_el_obj (h := (h.1, h.2.1, h.2.2.1, am_u h.2.2.2 p1 (q % 100) r)) hp hq]
    have hval : va_rf (r.map ad) = am_fv ad (h.1, h.2.1, h.2.2.1, am_u h.2.2.2 p1 (q % 100) r) p1 (q / 100) (q % 100) := by
      unfold am_fv
      dsimp only; simp only [hkd]; rw [am_u_at, am_up_eq]
    rw [hval]
    congr 2
    refine (am_list_set hk (fun i hi => ?_)).symm
    unfold am_fv
    simp only [am_u_at, am_up_ne hi]
theorem aj_putRN (F : am_F p s m args c cc nL own Ts D a0 cA base L0 X0) {q idx : Nat} {Cn : String} {T : u_T} {N : Nat} (hcl : am_cl[q / 100]? = some (Cn, T, N)) (hq : q / 100 < 50) (hk : q % 100 < N) (hT : (T (q % 100)).1 = Cn) (hin : ∀ w ∈ u_ws Cn T N, w ∈ am_tbl) {host : String} {ty : FieldType} (hnr : ∀ r : Option Nat, narrow ty (va_rf r) = va_rf r) (hfr : ∀ r : Option Nat, fits ty (va_rf r) = true) (ty0 : Nat → FieldType) (hty : ∀ k, k < N → parseFieldDescriptor (T k).2.2.1 = some (ty0 k)) (hnm : ∀ a, a < N → ∀ b, b < N → a ≠ b → (T a).2.1 ≠ (T b).2.1) (htk : ty0 (q % 100) = ty) (hfin : (T (q % 100)).2.2.2 = false) (hkd : (am_fk.getD (q / 100) []).getD (q % 100) 0 = 2) (hlk : .fieldLinkNest own idx Cn (T (q % 100)).2.1 (T (q % 100)).2.2.1 host ∈ am_tbl) (hd : decode cc (pcs k) = .ok (.putfield idx, 3)) (hn : pcs (k + 1) = pcs k + 3) (hs : am_step rc na mcT msT cN cZ C Z (am_J p l e R s m args below meth c Qm nL D a0 cA base L0 X0 n0 z0 pcs) k ls st h (.dstore q)) : (am_J p l e R s m args below meth c Qm nL D a0 cA base L0 X0 n0 z0 pcs) k ls st h := by
  obtain ⟨p1, n, r, st1, rfl, hp, hX⟩ := hs
  intro ad H locs lr cells slots hag hwf hR hS hL hc hz hcap
  obtain ⟨C2, T2, h2⟩ := hR.2.2.2.2 p1 _ hp hq
  have hCT : (C2, T2, n) = (Cn, T, N) := Option.some.inj (h2.symm.trans hcl)
  cases hCT
  have h4 := am_pl hR hp (by omega)
  have hw' := am_ws_at (ad := ad) (cA := cA) h4 (am_lt hp)
  rw [am_el_obj hp hq] at hw'
  simp only [List.map_cons, am_vv_rf]
  refine va_putN (D := D) (v := va_rf (r.map ad)) (ty := ty) F.1 F.2.1 F.2.2.2.2.1 (fun w hw => F.2.2.2.2.2.1 w (hin w hw)) ty0 hty hnm F.2.2.2.1 F.2.2.2.2.2.2.1 hR.1 hR.2.1 hS (p1 - 4) hw' hcl (q % 100) hk (F.2.2.2.2.1 _ (F.2.2.2.2.2.1 _ hlk)) (fun x hx => by rw [hT] at hx; exact hx) hfin (by rw [hty _ hk, htk]) (hnr _) (hfr _) (by simpa using hk) hd (fun H1 locs1 hP1 hD1 hS1 => ?_)
  have hw := hX ad H1 locs1 lr cells slots hag (am_wfR hwf) (am_rel_set (p := p1) hR h4 (am_lt hp) rfl ?_ (fun z hz => am_el_oR (am_u_ne hz)) (fun j hj => rfl) hP1 hD1) hS1 hL hc hz hcap
  · rw [hn] at hw
    exact hw
  · rw [am_el_obj (h := (h.1, h.2.1, h.2.2.1, am_u h.2.2.2 p1 (q % 100) r)) hp hq]
    have hval : va_rf (r.map ad) = am_fv ad (h.1, h.2.1, h.2.2.1, am_u h.2.2.2 p1 (q % 100) r) p1 (q / 100) (q % 100) := by
      unfold am_fv
      dsimp only; simp only [hkd]; rw [am_u_at, am_up_eq]
    rw [hval]
    congr 2
    refine (am_list_set hk (fun i hi => ?_)).symm
    unfold am_fv
    simp only [am_u_at, am_up_ne hi]
end AMC
