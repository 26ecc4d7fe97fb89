/-! ===== calls, returns; a method's contract out of the small machine's ===== -/
theorem am_env_to {D : va_G} {a0 a1 : Nat → Nat} {cA : Nat → ClassId} {base : Nat} {L0 : Nat → Nat} {X0 : Nat → Nat → Int32} {u U : State} (hvm : u.vm.Alike U.vm) (hb : base ≤ U.heap.size) (hk : ∀ a : Nat, a < u.heap.size → ¬ base ≤ a → U.heap[a]? = u.heap[a]?) (ha : ∀ j, j < 4 → a1 j = a0 j) (hns : ∀ (a : String) (i : Nat) (x : MethodName) (hh : String), va_Nw (.methodLinkNest a i x hh) u → va_Nw (.methodLinkNest a i x hh) U) (E : am_env D a0 cA base L0 X0 u) : am_env D a1 cA base L0 X0 U := by
  obtain ⟨e1, e2, e3, e4, e5, e6, e7⟩ := E
  refine ⟨va_K.moved hvm e1, fun j hj => ?_, hb, fun j hj => ?_, fun j hj => ?_, va_AO.moved hvm e6, fun a i x hh hm => hns a i x hh (e7 a i x hh hm)⟩
  · obtain ⟨x1, x2⟩ := e2 j hj
    rw [ha j hj]
    exact ⟨(x1.moved hvm).kept (hk _ (Nat.lt_of_lt_of_le x2 e3) (by omega)), x2⟩
  · rw [ha j (by omega)]
    exact (va_Z.moved hvm (e4 j hj)).kept (fun a h1 h2 => hk a h1 h2)
  · rw [hvm.findClass]
    exact e5 j hj
def am_rm (fr lo mc ms : Nat) : Room := { frames := fr, cells := mc, slots := ms, locals := lo }
def am_Pc (D : va_G) (ad : Nat → Nat) (cA : Nat → ClassId) (base : Nat) (L0 : Nat → Nat) (X0 : Nat → Nat → Int32) (as : List Value) (h : am_H) : Array Value → State → Prop := va_Pc (as.map (am_vv ad)) (fun U => am_wf [] as h ∧ am_rel D ad cA base L0 X0 h U.heap ∧ am_env D ad cA base L0 X0 U)
def am_Qc (D : va_G) (ad : Nat → Nat) (cA : Nat → ClassId) (base : Nat) (L0 : Nat → Nat) (X0 : Nat → Nat → Int32) (mc ms : Nat) (h : am_H) (Q : am_Q) : Array Value → State → Outcome → State → Prop := fun _ st oc t =>
  (∃ (r : Option Value) (h' : am_H) (ad' : Nat → Nat), oc = .returned (r.map (am_vv ad')) ∧ (∀ j, j < h.1.length → ad' j = ad j) ∧ am_wf [] r.toList h' ∧ am_rel D ad' cA base L0 X0 h' t.heap ∧ (h'.1.length = h.1.length + mc ∧ am_sl h'.1 = am_sl h.1 + ms) ∧ Q r h') ∧ va_F (fun a => base ≤ a) st t
/-- the contract of a method, out of which a call of it is made -/
def am_Met (l : Launch) (D : va_G) (cA : Nat → ClassId) (base : Nat) (L0 : Nat → Nat) (X0 : Nat → Nat → Int32) (y : MethodName) (cc : ByteArray) (nL : Nat) (rt : Option FieldType) (fr lo mc ms : Nat) (as : List Value) (h : am_H) (Q : am_Q) : Prop :=
  ∀ ad : Nat → Nat, Met l y (Cond.code y cc nL rt :: am_tbl) (am_rm fr lo mc ms) (am_Pc D ad cA base L0 X0 as h) (am_Qc D ad cA base L0 X0 mc ms h Q) mc ms (fun a => base ≤ a)
theorem am_blind {D : va_G} {ad : Nat → Nat} {cA : Nat → ClassId} {base : Nat} {L0 : Nat → Nat} {X0 : Nat → Nat → Int32} {as : List Value} {h : am_H} : FrameBlind (am_Pc D ad cA base L0 X0 as h) := by
  intro a U g mk q
  obtain ⟨q1, q2, q3, q4⟩ := q
  exact ⟨q1, q2, q3, am_env_to (u := U) (U := U.calling g mk a) (Vm.Alike.refl U.vm) q4.2.2.1 (fun _ _ _ => rfl) (fun _ _ => rfl) (fun _ _ _ _ z => va_Nw.same rfl rfl z) q4⟩
section AMF
variable {p : Program} {l : Launch} {e : Env} {R : Room} {s : State} {m : MethodId} {args : Array Value} {below : List Frame} {meth : Method} {c : Code} {Qm : State → Prop} {cc : ByteArray} {nL : Nat} {own : String} {Ts : List Cond} {D : va_G} {a0 : Nat → Nat} {cA : Nat → ClassId} {base : Nat} {L0 : Nat → Nat} {X0 : Nat → Nat → Int32} {n0 z0 : Nat} {pcs : Nat → Nat} {rc na mcT msT : Nat → Nat} {cN cZ : Nat} {C : am_C} {Z : am_Q} {k : Nat} {ls : List (Option Value)} {st : List Value} {h : am_H}
variable {ad : Nat → Nat} {H : Heap} {locs : List Loc} {lr : Array Slot} {cells slots : Nat}
/-- behind a call -/
theorem am_ret {mc ms : Nat} {g0 : List Value} {st1 : List Value} {as : Array Value} {Q : am_Q} (hr : va_Run p l e R s m args below meth c H locs cells slots mc ms (F0 m (pcs k) lr g0) (st1.map (am_vv ad)) (am_Qc D ad cA base L0 X0 mc ms h Q as) (fun a => base ≤ a))
    (hn : pcs (k + 1) = pcs k + 3) (hS : va_S (fun q => base ≤ q) s.heap H locs) (hag : ∀ j, j < n0 → ad j = a0 j) (hwf : am_wf ls st1 h) (hL : am_loc ad ls nL lr) (hc : cells + n0 = h.1.length) (hz : slots + z0 = am_sl h.1)
    (hcap : h.1.length + mc ≤ n0 + R.cells ∧ am_sl h.1 + ms ≤ z0 + R.slots) (hX : ∀ r h', Q r h' → (am_J p l e R s m args below meth c Qm nL D a0 cA base L0 X0 n0 z0 pcs) (k + 1) ls (r.toList ++ st1) h') : W p l e R s m args below meth c H locs cells slots Qm (F0 m (pcs k) lr g0) := by
  intro T hT X
  obtain ⟨v, st₀, t, T', L, h0, X', hLl, e1, e2, ⟨⟨r, h', ad', hv, ha, hw', hR', ⟨hl1, hl2⟩, hq⟩, hz1, hk1⟩, stp⟩ := hr T hT X
  cases hv
  rw [h0] at hz1 hk1
  have hS1 : va_S (fun q => base ≤ q) s.heap T'.heap (locs ++ L) := ⟨Nat.le_trans hS.1 (by rw [e1]; exact hz1), fun q h1 h2 => by rw [e1, hk1 q (Nat.lt_of_lt_of_le h1 hS.1) h2]; exact hS.2.1 q h1 h2, fun q hq => by
      rcases List.mem_append.mp hq with h | h
      · exact hS.2.2 q h
      · exact hLl q h⟩
  have hwn : am_wf ls (r.toList ++ st1) h' := ⟨fun v hv => am_okv_le (hwf.1 v hv) (by omega), fun v hv => by
      rcases List.mem_append.mp hv with q | q
      · exact hw'.2.1 v q
      · exact am_okv_le (hwf.2.1 v q) (by omega), hw'.2.2⟩
  have hw := hX r h' hq ad' T'.heap (locs ++ L) lr (cells + mc) (slots + ms) (fun j hj => by rw [ha j (by omega)]; exact hag j hj) hwn (by rw [e1]; exact hR') hS1 (am_loc_new ha hwf.1 hL) (by omega) (by omega) (by omega)
  rw [hn, List.map_append, am_st_new ha hwf.2.1] at hw
  have e9 : r.toList.map (am_vv ad') = (r.map (am_vv ad')).toList := by cases r <;> rfl
  rw [e9] at hw
  obtain ⟨t2, a1, b1⟩ := hw T' rfl X'
  exact ⟨t2, stp t2 a1, b1⟩
/-- what a callee's contract asks of the state at the call -/
theorem am_prec (F : am_F p s m args c cc nL own Ts D a0 cA base L0 X0) {as : List Value} {st1 : List Value} (hag : ∀ j, j < n0 → ad j = a0 j) (h4n : 4 ≤ n0) (hwf : am_wf ls (as.reverse ++ st1) h) (hR : am_rel D ad cA base L0 X0 h H) (hS : va_S (fun q => base ≤ q) s.heap H locs) : ∀ U : State, U.heap = H → s.WarmedH U.vm → am_Pc D ad cA base L0 X0 as h (as.map (am_vv ad)).toArray U := by
  intro U hU hW
  refine ⟨rfl, ⟨fun v hv => by simp at hv, fun v hv => hwf.2.1 v (List.mem_append_left _ (List.mem_reverse.mpr hv)), hwf.2.2⟩, by rw [hU]; exact hR, am_env_to hW.alike (by rw [hU]; exact Nat.le_trans F.2.2.2.2.2.2.2.2.1 hS.1) (fun a h1 h2 => by rw [hU]; exact hS.2.1 a h1 h2) (fun j hj => hag j (by omega)) (fun _ _ _ _ z => va_Nw.warmM hW z) F.2.2.2.2.2.2⟩
theorem am_good {y : MethodName} {c1 : ByteArray} {nl : Nat} {rt : Option FieldType} (hg : am_tbl.all goodWord = true) (hT : ∀ w ∈ am_tbl, w ∈ Ts) (hc : Cond.code y c1 nl rt ∈ am_tbl) : GoodIn Ts (Cond.code y c1 nl rt :: am_tbl) := by
  intro w hw
  rcases List.mem_cons.mp hw with rfl | hw
  · exact ⟨hT _ hc, good_of_word (List.all_eq_true.mp hg _ hc)⟩
  · exact ⟨hT _ hw, good_of_word (List.all_eq_true.mp hg _ hw)⟩
-- calls below
theorem aj_callV (F : am_F p s m args c cc nL own Ts D a0 cA base L0 X0) (h4n : 4 ≤ n0) {q idx : Nat} {y : MethodName} {c1 : ByteArray} {nl fr lo mc ms n : Nat} {rt : Option FieldType} (hC : ∀ as h Q, C q as h Q → am_Met l D cA base L0 X0 y c1 nl rt fr lo mc ms as h Q) (hg : am_tbl.all goodWord = true) (hco : .code y c1 nl rt ∈ am_tbl) (hii : .initialized y.cls ∈ am_tbl) (hds : y.cls ≠ "java/lang/invoke/MethodHandle" ∧ y.cls ≠ "java/lang/invoke/VarHandle" ∧ (parseMethodDescriptor y.desc).map (fun d => d.parameters.length) = some n) (hcN : cN = n0 + R.cells) (hcZ : cZ = z0 + R.slots) (hmc : mcT q = mc) (hms : msT q = ms) (hfl : fr + 1 ≤ R.frames ∧ 8 + (nl + 11) + lo ≤ R.locals) {T : u_T} {N : Nat} (hna : na q = n + 1) (hrq : rc q < 50) (hrc : am_cl[rc q]? = some (y.cls, T, N)) (hlk : .methodLink own idx y ∈ am_tbl) (hin : .instanceMethod y ∈ am_tbl) (hse : .selects y.cls y y ∈ am_tbl) (hd : decode cc (pcs k) = .ok (.invokevirtual idx, 3)) (hn : pcs (k + 1) = pcs k + 3) (hs : am_step rc na mcT msT cN cZ C Z (am_J p l e R s m args below meth c Qm nL D a0 cA base L0 X0 n0 z0 pcs) k ls st h (.invokevirtual q)) : (am_J p l e R s m args below meth c Qm nL D a0 cA base L0 X0 n0 z0 pcs) k ls st h := by
  obtain ⟨as, p1, n1, st1, rfl, hlen, hct, hp, hrm, hX⟩ := hs
  intro ad H locs lr cells slots hag hwf hR hS hL hc hz hcap
  have W0 : ∀ w, w ∈ am_tbl → w.before args s = true := fun w hw => F.2.2.2.2.1 _ (F.2.2.2.2.2.1 _ hw)
  have hcp : h.1.length + mc ≤ n0 + R.cells ∧ am_sl h.1 + ms ≤ z0 + R.slots := by omega
  have hM := hC _ _ _ hX ad
  have hw1 := am_ws_at (ad := ad) (cA := cA) (am_pl hR hp (by omega)) (am_lt hp)
  rw [am_el_obj hp hrq] at hw1
  have hwf2 : am_wf ls ((.ref p1 :: as).reverse ++ st1) h := by
    have e : (Value.ref p1 :: as).reverse ++ st1 = as.reverse ++ .ref p1 :: st1 := by simp
    rw [e]
    exact hwf
  have hwf3 : am_wf ls st1 h := ⟨hwf.1, fun v hv => hwf.2.1 v (List.mem_append_right _ (List.mem_cons_of_mem _ hv)), hwf.2.2⟩
  refine am_ret (as := (Value.ref (ad p1) :: as.map (am_vv ad)).toArray) (va_runV (As := as.map (am_vv ad)) (rest := st1.map (am_vv ad)) ⟨F.1, F.2.1, F.2.2.1, F.2.2.2.1, F.2.2.2.2.1⟩ hM ⟨callB_of n F.2.2.2.2.1 (am_good hg F.2.2.2.2.2.1 hco) rfl rfl rfl (W0 _ hii) (W0 _ hlk) hds hfl, W0 _ hin, W0 _ hse⟩ ⟨am_blind, va_recv F.2.2.2.2.2.2.1 hR.1 hrc hw1, am_prec F hag h4n hwf2 hR hS⟩ rfl (by rw [List.length_map]; omega) hL.1 (by simp [am_vv]) (by show 2 * 0 + _ ≤ 8; rw [am_cat_map]; omega) hd ⟨by omega, by omega⟩) hn hS hag hwf3 hL hc hz hcp (fun r h' hq => hq)
theorem aj_callS (F : am_F p s m args c cc nL own Ts D a0 cA base L0 X0) (h4n : 4 ≤ n0) {q idx : Nat} {y : MethodName} {c1 : ByteArray} {nl fr lo mc ms n : Nat} {rt : Option FieldType} (hC : ∀ as h Q, C q as h Q → am_Met l D cA base L0 X0 y c1 nl rt fr lo mc ms as h Q) (hg : am_tbl.all goodWord = true) (hco : .code y c1 nl rt ∈ am_tbl) (hii : .initialized y.cls ∈ am_tbl) (hds : y.cls ≠ "java/lang/invoke/MethodHandle" ∧ y.cls ≠ "java/lang/invoke/VarHandle" ∧ (parseMethodDescriptor y.desc).map (fun d => d.parameters.length) = some n) (hcN : cN = n0 + R.cells) (hcZ : cZ = z0 + R.slots) (hmc : mcT q = mc) (hms : msT q = ms) (hfl : fr + 1 ≤ R.frames ∧ 8 + (nl + 11) + lo ≤ R.locals) (hna : na q = n) (hlk : .methodLink own idx y ∈ am_tbl) (hst : .static y ∈ am_tbl) (hd : decode cc (pcs k) = .ok (.invokestatic idx, 3)) (hn : pcs (k + 1) = pcs k + 3) (hs : am_step rc na mcT msT cN cZ C Z (am_J p l e R s m args below meth c Qm nL D a0 cA base L0 X0 n0 z0 pcs) k ls st h (.invokestatic q)) : (am_J p l e R s m args below meth c Qm nL D a0 cA base L0 X0 n0 z0 pcs) k ls st h := by
  obtain ⟨as, st1, rfl, hlen, hct, hrm, hX⟩ := hs
  intro ad H locs lr cells slots hag hwf hR hS hL hc hz hcap
  have W0 : ∀ w, w ∈ am_tbl → w.before args s = true := fun w hw => F.2.2.2.2.1 _ (F.2.2.2.2.2.1 _ hw)
  have hcp : h.1.length + mc ≤ n0 + R.cells ∧ am_sl h.1 + ms ≤ z0 + R.slots := by omega
  have hM := hC _ _ _ hX ad
  have hwf3 : am_wf ls st1 h := ⟨hwf.1, fun v hv => hwf.2.1 v (List.mem_append_right _ hv), hwf.2.2⟩
  refine am_ret (as := (as.map (am_vv ad)).toArray) (va_runS (As := as.map (am_vv ad)) (rest := st1.map (am_vv ad)) ⟨F.1, F.2.1, F.2.2.1, F.2.2.2.1, F.2.2.2.2.1⟩ hM ⟨callB_of n F.2.2.2.2.1 (am_good hg F.2.2.2.2.2.1 hco) rfl rfl rfl (W0 _ hii) (W0 _ hlk) hds hfl, W0 _ hst⟩ ⟨am_blind, am_prec F hag h4n hwf hR hS⟩ rfl (by rw [List.length_map]; omega) hL.1 (by simp) (by show 2 * 0 + _ ≤ 8; rw [am_cat_map]; omega) hd ⟨by omega, by omega⟩) hn hS hag hwf3 hL hc hz hcp (fun r h' hq => hq)
theorem aj_callI (F : am_F p s m args c cc nL own Ts D a0 cA base L0 X0) (h4n : 4 ≤ n0) {q idx : Nat} {y : MethodName} {c1 : ByteArray} {nl fr lo mc ms n : Nat} (hC : ∀ as h Q, C q as h Q → am_Met l D cA base L0 X0 y c1 nl none fr lo mc ms as h Q) (hg : am_tbl.all goodWord = true) (hco : .code y c1 nl none ∈ am_tbl) (hii : .initialized y.cls ∈ am_tbl) (hds : y.cls ≠ "java/lang/invoke/MethodHandle" ∧ y.cls ≠ "java/lang/invoke/VarHandle" ∧ (parseMethodDescriptor y.desc).map (fun d => d.parameters.length) = some n) (hcN : cN = n0 + R.cells) (hcZ : cZ = z0 + R.slots) (hmc : mcT q = mc) (hms : msT q = ms) (hfl : fr + 1 ≤ R.frames ∧ 8 + (nl + 11) + lo ≤ R.locals) (hna : na q = n + 1) (hy : y.name = "<init>") (hlk : .methodLink own idx y ∈ am_tbl) (hin : .instanceMethod y ∈ am_tbl) (hd : decode cc (pcs k) = .ok (.invokespecial idx, 3)) (hn : pcs (k + 1) = pcs k + 3) (hs : am_step rc na mcT msT cN cZ C Z (am_J p l e R s m args below meth c Qm nL D a0 cA base L0 X0 n0 z0 pcs) k ls st h (.invokespecial q)) : (am_J p l e R s m args below meth c Qm nL D a0 cA base L0 X0 n0 z0 pcs) k ls st h := by
  obtain ⟨as, p1, n1, st1, rfl, hlen, hct, hp, hrm, hX⟩ := hs
  intro ad H locs lr cells slots hag hwf hR hS hL hc hz hcap
  have W0 : ∀ w, w ∈ am_tbl → w.before args s = true := fun w hw => F.2.2.2.2.1 _ (F.2.2.2.2.2.1 _ hw)
  have hcp : h.1.length + mc ≤ n0 + R.cells ∧ am_sl h.1 + ms ≤ z0 + R.slots := by omega
  have hM := hC _ _ _ hX ad
  have hwf2 : am_wf ls ((.ref p1 :: as).reverse ++ st1) h := by
    have e : (Value.ref p1 :: as).reverse ++ st1 = as.reverse ++ .ref p1 :: st1 := by simp
    rw [e]
    exact hwf
  have hwf3 : am_wf ls st1 h := ⟨hwf.1, fun v hv => hwf.2.1 v (List.mem_append_right _ (List.mem_cons_of_mem _ hv)), hwf.2.2⟩
  refine am_ret (as := (Value.ref (ad p1) :: as.map (am_vv ad)).toArray) (va_runI (As := as.map (am_vv ad)) (rest := st1.map (am_vv ad)) ⟨F.1, F.2.1, F.2.2.1, F.2.2.2.1, F.2.2.2.2.1⟩ hM ⟨callB_of n F.2.2.2.2.1 (am_good hg F.2.2.2.2.2.1 hco) rfl rfl rfl (W0 _ hii) (W0 _ hlk) hds hfl, hy, W0 _ hin⟩ ⟨am_blind, am_prec F hag h4n hwf2 hR hS⟩ rfl (by rw [List.length_map]; omega) hL.1 (by simp [am_vv]) (by show 2 * 0 + _ ≤ 8; rw [am_cat_map]; omega) hd ⟨by omega, by omega⟩) hn hS hag hwf3 hL hc hz hcp (fun r h' hq => hq)
theorem aj_callVN (F : am_F p s m args c cc nL own Ts D a0 cA base L0 X0) (h4n : 4 ≤ n0) {q idx : Nat} {y : MethodName} {c1 : ByteArray} {nl fr lo mc ms n : Nat} {rt : Option FieldType} (hC : ∀ as h Q, C q as h Q → am_Met l D cA base L0 X0 y c1 nl rt fr lo mc ms as h Q) (hg : am_tbl.all goodWord = true) (hco : .code y c1 nl rt ∈ am_tbl) (hii : .initialized y.cls ∈ am_tbl) (hds : y.cls ≠ "java/lang/invoke/MethodHandle" ∧ y.cls ≠ "java/lang/invoke/VarHandle" ∧ (parseMethodDescriptor y.desc).map (fun d => d.parameters.length) = some n) (hcN : cN = n0 + R.cells) (hcZ : cZ = z0 + R.slots) (hmc : mcT q = mc) (hms : msT q = ms) (hfl : fr + 1 ≤ R.frames ∧ 8 + (nl + 11) + lo ≤ R.locals) {host : String} {T : u_T} {N : Nat} (hna : na q = n + 1) (hrq : rc q < 50) (hrc : am_cl[rc q]? = some (y.cls, T, N)) (hlk : .methodLinkNest own idx y host ∈ lw_tbl) (hin : .instanceMethod y ∈ am_tbl) (hse : .selects y.cls y y ∈ am_tbl) (hd : decode cc (pcs k) = .ok (.invokevirtual idx, 3)) (hn : pcs (k + 1) = pcs k + 3) (hs : am_step rc na mcT msT cN cZ C Z (am_J p l e R s m args below meth c Qm nL D a0 cA base L0 X0 n0 z0 pcs) k ls st h (.invokevirtual q)) : (am_J p l e R s m args below meth c Qm nL D a0 cA base L0 X0 n0 z0 pcs) k ls st h := by
  obtain ⟨as, p1, n1, st1, rfl, hlen, hct, hp, hrm, hX⟩ := hs
  intro ad H locs lr cells slots hag hwf hR hS hL hc hz hcap
  have W0 : ∀ w, w ∈ am_tbl → w.before args s = true := fun w hw => F.2.2.2.2.1 _ (F.2.2.2.2.2.1 _ hw)
  have hcp : h.1.length + mc ≤ n0 + R.cells ∧ am_sl h.1 + ms ≤ z0 + R.slots := by omega
  have hM := hC _ _ _ hX ad
  have hw1 := am_ws_at (ad := ad) (cA := cA) (am_pl hR hp (by omega)) (am_lt hp)
  rw [am_el_obj hp hrq] at hw1
  have hwf2 : am_wf ls ((.ref p1 :: as).reverse ++ st1) h := by
    have e : (Value.ref p1 :: as).reverse ++ st1 = as.reverse ++ .ref p1 :: st1 := by simp
    rw [e]
    exact hwf
  have hwf3 : am_wf ls st1 h := ⟨hwf.1, fun v hv => hwf.2.1 v (List.mem_append_right _ (List.mem_cons_of_mem _ hv)), hwf.2.2⟩
  refine am_ret (as := (Value.ref (ad p1) :: as.map (am_vv ad)).toArray) (va_runVN (As := as.map (am_vv ad)) (rest := st1.map (am_vv ad)) ⟨F.1, F.2.1, F.2.2.1, F.2.2.2.1, F.2.2.2.2.1⟩ hM ⟨va_cnB n F.2.2.2.2.1 (am_good hg F.2.2.2.2.2.1 hco) rfl rfl rfl (F.2.2.2.2.2.2.2.2.2.2.2.2 _ _ _ _ hlk) (W0 _ hii) hds hfl, W0 _ hin, W0 _ hse⟩ ⟨am_blind, va_recv F.2.2.2.2.2.2.1 hR.1 hrc hw1, am_prec F hag h4n hwf2 hR hS⟩ rfl (by rw [List.length_map]; omega) hL.1 (by simp [am_vv]) (by show 2 * 0 + _ ≤ 8; rw [am_cat_map]; omega) hd ⟨by omega, by omega⟩) hn hS hag hwf3 hL hc hz hcp (fun r h' hq => hq)
theorem aj_callSN (F : am_F p s m args c cc nL own Ts D a0 cA base L0 X0) (h4n : 4 ≤ n0) {q idx : Nat} {y : MethodName} {c1 : ByteArray} {nl fr lo mc ms n : Nat} {rt : Option FieldType} (hC : ∀ as h Q, C q as h Q → am_Met l D cA base L0 X0 y c1 nl rt fr lo mc ms as h Q) (hg : am_tbl.all goodWord = true) (hco : .code y c1 nl rt ∈ am_tbl) (hii : .initialized y.cls ∈ am_tbl) (hds : y.cls ≠ "java/lang/invoke/MethodHandle" ∧ y.cls ≠ "java/lang/invoke/VarHandle" ∧ (parseMethodDescriptor y.desc).map (fun d => d.parameters.length) = some n) (hcN : cN = n0 + R.cells) (hcZ : cZ = z0 + R.slots) (hmc : mcT q = mc) (hms : msT q = ms) (hfl : fr + 1 ≤ R.frames ∧ 8 + (nl + 11) + lo ≤ R.locals) {host : String} (hna : na q = n) (hlk : .methodLinkNest own idx y host ∈ lw_tbl) (hst : .static y ∈ am_tbl) (hd : decode cc (pcs k) = .ok (.invokestatic idx, 3)) (hn : pcs (k + 1) = pcs k + 3) (hs : am_step rc na mcT msT cN cZ C Z (am_J p l e R s m args below meth c Qm nL D a0 cA base L0 X0 n0 z0 pcs) k ls st h (.invokestatic q)) : (am_J p l e R s m args below meth c Qm nL D a0 cA base L0 X0 n0 z0 pcs) k ls st h := by
  obtain ⟨as, st1, rfl, hlen, hct, hrm, hX⟩ := hs
  intro ad H locs lr cells slots hag hwf hR hS hL hc hz hcap
  have W0 : ∀ w, w ∈ am_tbl → w.before args s = true := fun w hw => F.2.2.2.2.1 _ (F.2.2.2.2.2.1 _ hw)
  have hcp : h.1.length + mc ≤ n0 + R.cells ∧ am_sl h.1 + ms ≤ z0 + R.slots := by omega
  have hM := hC _ _ _ hX ad
  have hwf3 : am_wf ls st1 h := ⟨hwf.1, fun v hv => hwf.2.1 v (List.mem_append_right _ hv), hwf.2.2⟩
  refine am_ret (as := (as.map (am_vv ad)).toArray) (va_runSN (As := as.map (am_vv ad)) (rest := st1.map (am_vv ad)) ⟨F.1, F.2.1, F.2.2.1, F.2.2.2.1, F.2.2.2.2.1⟩ hM ⟨va_cnB n F.2.2.2.2.1 (am_good hg F.2.2.2.2.2.1 hco) rfl rfl rfl (F.2.2.2.2.2.2.2.2.2.2.2.2 _ _ _ _ hlk) (W0 _ hii) hds hfl, W0 _ hst, trivial⟩ ⟨am_blind, am_prec F hag h4n hwf hR hS⟩ rfl (by rw [List.length_map]; omega) hL.1 (by simp) (by show 2 * 0 + _ ≤ 8; rw [am_cat_map]; omega) hd ⟨by omega, by omega⟩) hn hS hag hwf3 hL hc hz hcp (fun r h' hq => hq)
theorem aj_callIN (F : am_F p s m args c cc nL own Ts D a0 cA base L0 X0) (h4n : 4 ≤ n0) {q idx : Nat} {y : MethodName} {c1 : ByteArray} {nl fr lo mc ms n : Nat} (hC : ∀ as h Q, C q as h Q → am_Met l D cA base L0 X0 y c1 nl none fr lo mc ms as h Q) (hg : am_tbl.all goodWord = true) (hco : .code y c1 nl none ∈ am_tbl) (hii : .initialized y.cls ∈ am_tbl) (hds : y.cls ≠ "java/lang/invoke/MethodHandle" ∧ y.cls ≠ "java/lang/invoke/VarHandle" ∧ (parseMethodDescriptor y.desc).map (fun d => d.parameters.length) = some n) (hcN : cN = n0 + R.cells) (hcZ : cZ = z0 + R.slots) (hmc : mcT q = mc) (hms : msT q = ms) (hfl : fr + 1 ≤ R.frames ∧ 8 + (nl + 11) + lo ≤ R.locals) {host : String} (hna : na q = n + 1) (hy : y.name = "<init>") (hlk : .methodLinkNest own idx y host ∈ lw_tbl) (hin : .instanceMethod y ∈ am_tbl) (hd : decode cc (pcs k) = .ok (.invokespecial idx, 3)) (hn : pcs (k + 1) = pcs k + 3) (hs : am_step rc na mcT msT cN cZ C Z (am_J p l e R s m args below meth c Qm nL D a0 cA base L0 X0 n0 z0 pcs) k ls st h (.invokespecial q)) : (am_J p l e R s m args below meth c Qm nL D a0 cA base L0 X0 n0 z0 pcs) k ls st h := by
  obtain ⟨as, p1, n1, st1, rfl, hlen, hct, hp, hrm, hX⟩ := hs
  intro ad H locs lr cells slots hag hwf hR hS hL hc hz hcap
  have W0 : ∀ w, w ∈ am_tbl → w.before args s = true := fun w hw => F.2.2.2.2.1 _ (F.2.2.2.2.2.1 _ hw)
  have hcp : h.1.length + mc ≤ n0 + R.cells ∧ am_sl h.1 + ms ≤ z0 + R.slots := by omega
  have hM := hC _ _ _ hX ad
  have hwf2 : am_wf ls ((.ref p1 :: as).reverse ++ st1) h := by
    have e : (Value.ref p1 :: as).reverse ++ st1 = as.reverse ++ .ref p1 :: st1 := by simp
    rw [e]
    exact hwf
  have hwf3 : am_wf ls st1 h := ⟨hwf.1, fun v hv => hwf.2.1 v (List.mem_append_right _ (List.mem_cons_of_mem _ hv)), hwf.2.2⟩
  refine am_ret (as := (Value.ref (ad p1) :: as.map (am_vv ad)).toArray) (va_runIN (As := as.map (am_vv ad)) (rest := st1.map (am_vv ad)) ⟨F.1, F.2.1, F.2.2.1, F.2.2.2.1, F.2.2.2.2.1⟩ hM ⟨va_cnB n F.2.2.2.2.1 (am_good hg F.2.2.2.2.2.1 hco) rfl rfl rfl (F.2.2.2.2.2.2.2.2.2.2.2.2 _ _ _ _ hlk) (W0 _ hii) hds hfl, hy, W0 _ hin⟩ ⟨am_blind, am_prec F hag h4n hwf2 hR hS⟩ rfl (by rw [List.length_map]; omega) hL.1 (by simp [am_vv]) (by show 2 * 0 + _ ≤ 8; rw [am_cat_map]; omega) hd ⟨by omega, by omega⟩) hn hS hag hwf3 hL hc hz hcp (fun r h' hq => hq)
/-- a method's end, in the small machine's words -/
def am_Z (rt : Option FieldType) (mc ms n0 z0 : Nat) (Q : am_Q) : am_Q := fun r h' => (h'.1.length = n0 + mc ∧ am_sl h'.1 = z0 + ms) ∧ (rt = some .boolean → r = some (.int 0) ∨ r = some (.int 1)) ∧ Q r h'
end AMF
section AMR
variable {p : Program} {l : Launch} {e : Env} {R : Room} {s : State} {m : MethodId} {args : Array Value} {below : List Frame} {meth : Method} {c : Code} {cc : ByteArray} {nL : Nat} {own : String} {Ts : List Cond} {D : va_G} {a0 : Nat → Nat} {cA : Nat → ClassId} {base : Nat} {L0 : Nat → Nat} {X0 : Nat → Nat → Int32} {pcs : Nat → Nat} {rc na mcT msT : Nat → Nat} {cN cZ : Nat} {C : am_C} {k : Nat} {ls : List (Option Value)} {st : List Value} {h h0 : am_H} {rt : Option FieldType} {mc ms : Nat} {Q : am_Q}
theorem am_end {ad : Nat → Nat} {H : Heap} {locs : List Loc} {r : Option Value} {h1 : am_H} (hag : ∀ j, j < h0.1.length → ad j = a0 j) (hw : ∀ v ∈ r.toList, am_okv h1.1.length v) (hw2 : ∀ p k q, h1.2.2.2 p k = some q → q < h1.1.length) (hR : am_rel D ad cA base L0 X0 h1 H) (hS : va_S (fun q => base ≤ q) s.heap H locs) (hZ : am_Z rt mc ms h0.1.length (am_sl h0.1) Q r h1) : ∀ t : State, t.heap = H → s.WarmedH t.vm → am_Qc D a0 cA base L0 X0 mc ms h0 Q args s (.returned (r.map (am_vv ad))) t := by
  intro t ht _
  exact ⟨⟨r, h1, ad, rfl, hag, ⟨fun v hv => by simp at hv, hw, hw2⟩, by rw [ht]; exact hR, hZ.1, hZ.2.2⟩, hS.F ht⟩
theorem aj_ireturn (F : am_F p s m args c cc nL own Ts D a0 cA base L0 X0) (hlocks : meth.locks = false) (hr : meth.sig.returnType = some .int) (hd : decode cc (pcs k) = .ok (.ireturn, 1)) (hs : am_step rc na mcT msT cN cZ C (am_Z rt mc ms h0.1.length (am_sl h0.1) Q) (am_J p l e R s m args below meth c (MQ below (am_Qc D a0 cA base L0 X0 mc ms h0 Q) args s mc ms (fun a => base ≤ a)) nL D a0 cA base L0 X0 h0.1.length (am_sl h0.1) pcs) k ls st h .ireturn) : (am_J p l e R s m args below meth c (MQ below (am_Qc D a0 cA base L0 X0 mc ms h0 Q) args s mc ms (fun a => base ≤ a)) nL D a0 cA base L0 X0 h0.1.length (am_sl h0.1) pcs) k ls st h := by
  obtain ⟨x, rfl, hZ⟩ := hs
  intro ad H locs lr cells slots hag hwf hR hS hL hc hz hcap
  obtain rfl : cells = mc := by have := hZ.1.1; omega
  obtain rfl : slots = ms := by have := hZ.1.2; omega
  exact W.zret (ty := .int) F.1 F.2.1 hr rfl (am_end hag (by simp [am_okv]) hwf.2.2 hR hS hZ) hS.2.2 hd
theorem aj_zreturn (F : am_F p s m args c cc nL own Ts D a0 cA base L0 X0) (hlocks : meth.locks = false) (hr : meth.sig.returnType = some .boolean) (hrt : rt = some .boolean) (hd : decode cc (pcs k) = .ok (.ireturn, 1)) (hs : am_step rc na mcT msT cN cZ C (am_Z rt mc ms h0.1.length (am_sl h0.1) Q) (am_J p l e R s m args below meth c (MQ below (am_Qc D a0 cA base L0 X0 mc ms h0 Q) args s mc ms (fun a => base ≤ a)) nL D a0 cA base L0 X0 h0.1.length (am_sl h0.1) pcs) k ls st h .ireturn) : (am_J p l e R s m args below meth c (MQ below (am_Qc D a0 cA base L0 X0 mc ms h0 Q) args s mc ms (fun a => base ≤ a)) nL D a0 cA base L0 X0 h0.1.length (am_sl h0.1) pcs) k ls st h := by
  obtain ⟨x, rfl, hZ⟩ := hs
  intro ad H locs lr cells slots hag hwf hR hS hL hc hz hcap
  obtain rfl : cells = mc := by have := hZ.1.1; omega
  obtain rfl : slots = ms := by have := hZ.1.2; omega
  exact W.zret (ty := .boolean) F.1 F.2.1 hr (by rcases hZ.2.1 hrt with q | q <;> cases q <;> rfl) (am_end hag (by simp [am_okv]) hwf.2.2 hR hS hZ) hS.2.2 hd
theorem aj_lreturn (F : am_F p s m args c cc nL own Ts D a0 cA base L0 X0) (hlocks : meth.locks = false) (hr : meth.sig.returnType = some .long) (hd : decode cc (pcs k) = .ok (.lreturn, 1)) (hs : am_step rc na mcT msT cN cZ C (am_Z rt mc ms h0.1.length (am_sl h0.1) Q) (am_J p l e R s m args below meth c (MQ below (am_Qc D a0 cA base L0 X0 mc ms h0 Q) args s mc ms (fun a => base ≤ a)) nL D a0 cA base L0 X0 h0.1.length (am_sl h0.1) pcs) k ls st h .lreturn) : (am_J p l e R s m args below meth c (MQ below (am_Qc D a0 cA base L0 X0 mc ms h0 Q) args s mc ms (fun a => base ≤ a)) nL D a0 cA base L0 X0 h0.1.length (am_sl h0.1) pcs) k ls st h := by
  obtain ⟨x, rfl, hZ⟩ := hs
  intro ad H locs lr cells slots hag hwf hR hS hL hc hz hcap
  obtain rfl : cells = mc := by have := hZ.1.1; omega
  obtain rfl : slots = ms := by have := hZ.1.2; omega
  exact W.lret F.1 F.2.1 hr (am_end hag (by simp [am_okv]) hwf.2.2 hR hS hZ) hS.2.2 hd
theorem aj_return (F : am_F p s m args c cc nL own Ts D a0 cA base L0 X0) (hlocks : meth.locks = false) (hr : meth.sig.returnType = none) (hd : decode cc (pcs k) = .ok (.return_, 1)) (hs : am_step rc na mcT msT cN cZ C (am_Z rt mc ms h0.1.length (am_sl h0.1) Q) (am_J p l e R s m args below meth c (MQ below (am_Qc D a0 cA base L0 X0 mc ms h0 Q) args s mc ms (fun a => base ≤ a)) nL D a0 cA base L0 X0 h0.1.length (am_sl h0.1) pcs) k ls st h .return_) : (am_J p l e R s m args below meth c (MQ below (am_Qc D a0 cA base L0 X0 mc ms h0 Q) args s mc ms (fun a => base ≤ a)) nL D a0 cA base L0 X0 h0.1.length (am_sl h0.1) pcs) k ls st h := by
  obtain ⟨rfl, hZ⟩ := hs
  intro ad H locs lr cells slots hag hwf hR hS hL hc hz hcap
  obtain rfl : cells = mc := by have := hZ.1.1; omega
  obtain rfl : slots = ms := by have := hZ.1.2; omega
  exact W.vret F.1 F.2.1 hr (am_end (r := none) hag (by simp) hwf.2.2 hR hS hZ) hS.2.2 hd
theorem aj_areturn (F : am_F p s m args c cc nL own Ts D a0 cA base L0 X0) (hlocks : meth.locks = false) {ty : String} (hr : meth.sig.returnType = some (.object ty)) (hd : decode cc (pcs k) = .ok (.areturn, 1)) (hs : am_step rc na mcT msT cN cZ C (am_Z rt mc ms h0.1.length (am_sl h0.1) Q) (am_J p l e R s m args below meth c (MQ below (am_Qc D a0 cA base L0 X0 mc ms h0 Q) args s mc ms (fun a => base ≤ a)) nL D a0 cA base L0 X0 h0.1.length (am_sl h0.1) pcs) k ls st h .areturn) : (am_J p l e R s m args below meth c (MQ below (am_Qc D a0 cA base L0 X0 mc ms h0 Q) args s mc ms (fun a => base ≤ a)) nL D a0 cA base L0 X0 h0.1.length (am_sl h0.1) pcs) k ls st h := by
  obtain ⟨r, rfl, hZ⟩ := hs
  intro ad H locs lr cells slots hag hwf hR hS hL hc hz hcap
  obtain rfl : cells = mc := by have := hZ.1.1; omega
  obtain rfl : slots = ms := by have := hZ.1.2; omega
  exact W.aret F.1 F.2.1 hr (Or.inl ⟨_, rfl⟩) (by rw [am_vv_rf]; cases r <;> simp [va_rf]) (am_end hag (by simpa using hwf.2.1) hwf.2.2 hR hS hZ) hS.2.2 hd
end AMR
