/-! ===== the small machine and the great one: what a place is there ===== -/
def am_vv (ad : Nat → Nat) (v : Value) : Value := match v with
  | .ref a => .ref (ad a)
  | v => v
theorem am_vv_cat (ad : Nat → Nat) (v : Value) : (am_vv ad v).category = v.category := by cases v <;> rfl
theorem am_cat_map (ad : Nat → Nat) (st : List Value) : ((st.map (am_vv ad)).map fun v => v.category).sum = am_cat st := by
  unfold am_cat
  rw [List.map_map]
  congr 1
  apply List.map_congr_left
  intro v _
  exact am_vv_cat ad v
theorem am_vv_rf (ad : Nat → Nat) (r : Option Nat) : am_vv ad (va_rf r) = va_rf (r.map ad) := by cases r <;> rfl
def am_fv (ad : Nat → Nat) (h : am_H) (p t j : Nat) : Value := match (am_fk.getD t []).getD j 0 with
  | 1 => .long (h.2.2.1 p j)
  | 2 => va_rf ((h.2.2.2 p j).map ad)
  | _ => .int (h.2.1 p j)
def am_el (ad : Nat → Nat) (cA : Nat → ClassId) (h : am_H) (p : Nat) : va_E := match h.1[p]? with
  | none => .inr (0, [])
  | some (t, n) =>
    if t < 50 then .inr (t, (List.range n).map (am_fv ad h p t))
    else if t = 51 then .inl (cA 51, n, .inr (.inl (h.2.2.1 p)))
    else if t = 54 then .inl (cA 54, n, .inr (.inr (.inr (.inr (fun i => (h.2.2.2 p i).map ad)))))
    else .inl (cA t, n, .inl (h.2.1 p))
def am_ws (ad : Nat → Nat) (cA : Nat → ClassId) (h : am_H) : va_W := (List.range (h.1.length - 4)).map (fun j => (ad (j + 4), am_el ad cA h (j + 4)))
theorem am_ws_at {ad : Nat → Nat} {cA : Nat → ClassId} {h : am_H} {p : Nat} (h4 : 4 ≤ p) (hp : p < h.1.length) : (am_ws ad cA h)[p - 4]? = some (ad p, am_el ad cA h p) := by
  unfold am_ws
  rw [List.getElem?_map, List.getElem?_range (by omega)]
  have : p - 4 + 4 = p := by omega
  simp [this]
theorem am_ws_set {ad : Nat → Nat} {cA : Nat → ClassId} {h h' : am_H} {p : Nat} {e : va_E} (h4 : 4 ≤ p) (hp : p < h.1.length) (hl : h'.1 = h.1) (he : am_el ad cA h' p = e) (ho : ∀ q, q ≠ p → am_el ad cA h' q = am_el ad cA h q) :
    (am_ws ad cA h).set (p - 4) (ad p, e) = am_ws ad cA h' := by
  unfold am_ws
  apply List.ext_getElem?
  intro i
  rw [List.getElem?_set]
  by_cases hi : p - 4 = i
  · subst hi
    have h1 : p - 4 + 4 = p := by omega
    have h2 : p - 4 < h.1.length - 4 := by omega
    rw [if_pos rfl, if_pos (by simp; omega), List.getElem?_map, hl, List.getElem?_range h2]
    simp [h1, he]
  · rw [if_neg hi, List.getElem?_map, List.getElem?_map, hl]
    by_cases hlt : i < h.1.length - 4
    · rw [List.getElem?_range hlt]
      simp [ho (i + 4) (by omega)]
    · rw [List.getElem?_eq_none (by simp; omega)]
      rfl
theorem am_ws_push {ad : Nat → Nat} {cA : Nat → ClassId} {h h' : am_H} {e : va_E} {q : Nat × Nat} (h4 : 4 ≤ h.1.length) (hl : h'.1 = h.1 ++ [q]) (he : am_el ad cA h' h.1.length = e) (ho : ∀ j, j < h.1.length → am_el ad cA h' j = am_el ad cA h j) :
    am_ws ad cA h ++ [(ad h.1.length, e)] = am_ws ad cA h' := by
  unfold am_ws
  have e1 : h'.1.length - 4 = (h.1.length - 4) + 1 := by rw [hl]; simp; omega
  rw [e1, List.range_succ, List.map_append]
  congr 1
  · apply List.map_congr_left
    intro j hj
    rw [List.mem_range] at hj
    rw [ho (j + 4) (by omega)]
  · have h1 : h.1.length - 4 + 4 = h.1.length := by omega
    simp [h1, he]
def am_tys (cA : Nat → ClassId) : List (ClassId × FieldType) := [(cA 50, .int), (cA 51, .long), (cA 52, .byte), (cA 53, .boolean), (cA 54, .object RX0)]
/-- the heap holds what the small machine's tables hold -/
def am_rel (D : va_G) (ad : Nat → Nat) (cA : Nat → ClassId) (base : Nat) (L0 : Nat → Nat) (X0 : Nat → Nat → Int32) (h : am_H) (H : Heap) : Prop :=
  va_P D am_cl (am_ws ad cA h) H ∧ va_D (fun q => base ≤ q) (am_ws ad cA h) ∧ 4 ≤ h.1.length ∧ (∀ j : Nat, j < 4 → h.1[j]? = some (50, L0 j) ∧ h.2.1 j = X0 j) ∧ (∀ (p : Nat) (q : Nat × Nat), h.1[p]? = some q → q.1 < 50 → ∃ Cn T, am_cl[q.1]? = some (Cn, T, q.2))
def am_loc (ad : Nat → Nat) (ls : List (Option Value)) (nL : Nat) (lr : Array Slot) : Prop := lr.size = nL ∧ lv_wf lr ∧ ls.length = nL ∧ ∀ (j : Nat) (v : Value), ls[j]? = some (some v) → lr[j]? = some (.val (am_vv ad v))
/-- no reference but to a place that is there -/
def am_okv (n : Nat) (v : Value) : Prop := match v with
  | .ref a => a < n
  | _ => True
def am_wf (ls : List (Option Value)) (st : List Value) (h : am_H) : Prop := (∀ v, some v ∈ ls → am_okv h.1.length v) ∧ (∀ v ∈ st, am_okv h.1.length v) ∧ (∀ p k q, h.2.2.2 p k = some q → q < h.1.length)
theorem am_vv_to {ad ad' : Nat → Nat} {n : Nat} {v : Value} (hv : am_okv n v) (ha : ∀ j, j < n → ad' j = ad j) : am_vv ad' v = am_vv ad v := by
  cases v <;> first | rfl | exact congrArg Value.ref (ha _ hv)
theorem am_okv_le {n n' : Nat} {v : Value} (hv : am_okv n v) (hn : n ≤ n') : am_okv n' v := by
  cases v <;> first | trivial | exact Nat.lt_of_lt_of_le hv hn
/-- what is the same all along: the machine, the method's code, the tables' words, the array classes, the arrays that nobody writes -/
def am_env (D : va_G) (a0 : Nat → Nat) (cA : Nat → ClassId) (base : Nat) (L0 : Nat → Nat) (X0 : Nat → Nat → Int32) (U : State) : Prop :=
  va_K D am_cl (am_tys cA) U ∧ (∀ j, j < 4 → va_X (a0 j) (L0 j) (X0 j) U U.heap ∧ a0 j < base) ∧ base ≤ U.heap.size ∧
  (∀ j, j < 3 → va_Z (am_sf j).1 (am_sf j).2 "[I" (.ref (a0 j)) (fun q => base ≤ q) U U.heap) ∧
  (∀ j, j < 5 → U.vm.findClass ("[" ++ (((am_tys cA).getD j (0, .int)).2).toString) = some ((am_tys cA).getD j (0, .int)).1) ∧ va_AO RX0 U ∧ (∀ (a : String) (i : Nat) (x : MethodName) (hh : String), Cond.methodLinkNest a i x hh ∈ lw_tbl → va_Nw (.methodLinkNest a i x hh) U)
def am_F (p : Program) (s : State) (m : MethodId) (args : Array Value) (c : Code) (cc : ByteArray) (nL : Nat) (own : String) (Ts : List Cond) (D : va_G) (a0 : Nat → Nat) (cA : Nat → ClassId) (base : Nat) (L0 : Nat → Nat) (X0 : Nat → Nat → Int32) : Prop :=
  p.tables.exec = Jvm.exec ∧ c.code = cc ∧ c.maxLocals = nL ∧ s.vm.findClass own = some m.cls ∧ (∀ w ∈ Ts, w.before args s = true) ∧ (∀ w ∈ am_tbl, w ∈ Ts) ∧ am_env D a0 cA base L0 X0 s
/-- at an instruction of a method: any heap that holds the tables, any locals that hold what is known: the great machine comes to Qm -/
def am_J (p : Program) (l : Launch) (e : Env) (R : Room) (s : State) (m : MethodId) (args : Array Value) (below : List Frame) (meth : Method) (c : Code) (Qm : State → Prop) (nL : Nat) (D : va_G) (a0 : Nat → Nat) (cA : Nat → ClassId) (base : Nat) (L0 : Nat → Nat) (X0 : Nat → Nat → Int32) (n0 z0 : Nat) (pcs : Nat → Nat) : am_X :=
  fun k ls st h => ∀ (ad : Nat → Nat) (H : Heap) (locs : List Loc) (lr : Array Slot) (cells slots : Nat), (∀ j, j < n0 → ad j = a0 j) → am_wf ls st h → am_rel D ad cA base L0 X0 h H → va_S (fun q => base ≤ q) s.heap H locs → am_loc ad ls nL lr → cells + n0 = h.1.length → slots + z0 = am_sl h.1 → (h.1.length ≤ n0 + R.cells ∧ am_sl h.1 ≤ z0 + R.slots) →
    W p l e R s m args below meth c H locs cells slots Qm (F0 m (pcs k) lr (st.map (am_vv ad)))
theorem am_lt {α : Type} {l : List α} {p : Nat} {q : α} (h : l[p]? = some q) : p < l.length := (List.getElem?_eq_some_iff.mp h).1
theorem am_el_obj {ad : Nat → Nat} {cA : Nat → ClassId} {h : am_H} {p t n : Nat} (hp : h.1[p]? = some (t, n)) (ht : t < 50) : am_el ad cA h p = .inr (t, (List.range n).map (am_fv ad h p t)) := by
  unfold am_el
  rw [hp]
  simp [ht]
theorem am_el_arr {ad : Nat → Nat} {cA : Nat → ClassId} {h : am_H} {p t n : Nat} (hp : h.1[p]? = some (t, n)) (ht : ¬ t < 50) (h1 : ¬ t = 51) (h2 : ¬ t = 54) : am_el ad cA h p = .inl (cA t, n, .inl (h.2.1 p)) := by
  unfold am_el
  rw [hp]
  simp [ht, h1, h2]
theorem am_el_51 {ad : Nat → Nat} {cA : Nat → ClassId} {h : am_H} {p n : Nat} (hp : h.1[p]? = some (51, n)) : am_el ad cA h p = .inl (cA 51, n, .inr (.inl (h.2.2.1 p))) := by
  unfold am_el
  rw [hp]
  simp
theorem am_el_54 {ad : Nat → Nat} {cA : Nat → ClassId} {h : am_H} {p n : Nat} (hp : h.1[p]? = some (54, n)) : am_el ad cA h p = .inl (cA 54, n, .inr (.inr (.inr (.inr (fun i => (h.2.2.2 p i).map ad))))) := by
  unfold am_el
  rw [hp]
  simp
