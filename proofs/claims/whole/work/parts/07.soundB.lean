section AMB
variable {p : Program} {l : Launch} {e : Env} {R : Room} {s : State} {m : MethodId} {args : Array Value} {below : List Frame} {meth : Method} {c : Code} {Qm : State → Prop} {cc : ByteArray} {nL : Nat} {own : String} {Ts : List Cond} {D : va_G} {a0 : Nat → Nat} {cA : Nat → ClassId} {base : Nat} {L0 : Nat → Nat} {X0 : Nat → Nat → Int32} {n0 z0 : Nat} {pcs : Nat → Nat} {rc na mcT msT : Nat → Nat} {cN cZ : Nat} {C : am_C} {Z : am_Q} {k : Nat} {ls : List (Option Value)} {st : List Value} {h : am_H}
theorem am_wfl {ls : List (Option Value)} {st : List Value} {h : am_H} {j : Nat} {v : Value} (hw : am_wf ls st h) (hj : ls[j]? = some (some v)) : am_wf ls (v :: st) h := by
  refine ⟨hw.1, fun w hm => ?_, hw.2.2⟩
  rcases List.mem_cons.mp hm with rfl | hm
  · exact hw.1 w (List.mem_of_getElem? hj)
  · exact hw.2.1 w hm
theorem am_wfs {ls : List (Option Value)} {st st2 : List Value} {h : am_H} (hw : am_wf ls st h) (hm : ∀ v ∈ st2, v ∈ st) : am_wf ls st2 h := ⟨hw.1, fun w q => hw.2.1 w (hm w q), hw.2.2⟩
theorem aj_iadd (F : am_F p s m args c cc nL own Ts D a0 cA base L0 X0) (hd : decode cc (pcs k) = .ok (.iadd, 1)) (hn : pcs (k + 1) = pcs k + 1) (hs : am_step rc na mcT msT cN cZ C Z (am_J p l e R s m args below meth c Qm nL D a0 cA base L0 X0 n0 z0 pcs) k ls st h (.iadd)) : (am_J p l e R s m args below meth c Qm nL D a0 cA base L0 X0 n0 z0 pcs) k ls st h := by
  obtain ⟨x, y, st1, rfl, hX⟩ := hs
  intro ad H locs lr cells slots hag hwf hR hS hL hc hz hcap
  have hw := hX ad H locs lr cells slots hag ⟨hwf.1, by simpa [am_okv] using hwf.2.1, hwf.2.2⟩ hR hS hL hc hz hcap
  rw [hn] at hw
  exact lv_iadd F.1 F.2.1 hd hw
theorem aj_isub (F : am_F p s m args c cc nL own Ts D a0 cA base L0 X0) (hd : decode cc (pcs k) = .ok (.isub, 1)) (hn : pcs (k + 1) = pcs k + 1) (hs : am_step rc na mcT msT cN cZ C Z (am_J p l e R s m args below meth c Qm nL D a0 cA base L0 X0 n0 z0 pcs) k ls st h (.isub)) : (am_J p l e R s m args below meth c Qm nL D a0 cA base L0 X0 n0 z0 pcs) k ls st h := by
  obtain ⟨x, y, st1, rfl, hX⟩ := hs
  intro ad H locs lr cells slots hag hwf hR hS hL hc hz hcap
  have hw := hX ad H locs lr cells slots hag ⟨hwf.1, by simpa [am_okv] using hwf.2.1, hwf.2.2⟩ hR hS hL hc hz hcap
  rw [hn] at hw
  exact lv_isub F.1 F.2.1 hd hw
theorem aj_imul (F : am_F p s m args c cc nL own Ts D a0 cA base L0 X0) (hd : decode cc (pcs k) = .ok (.imul, 1)) (hn : pcs (k + 1) = pcs k + 1) (hs : am_step rc na mcT msT cN cZ C Z (am_J p l e R s m args below meth c Qm nL D a0 cA base L0 X0 n0 z0 pcs) k ls st h (.imul)) : (am_J p l e R s m args below meth c Qm nL D a0 cA base L0 X0 n0 z0 pcs) k ls st h := by
  obtain ⟨x, y, st1, rfl, hX⟩ := hs
  intro ad H locs lr cells slots hag hwf hR hS hL hc hz hcap
  have hw := hX ad H locs lr cells slots hag ⟨hwf.1, by simpa [am_okv] using hwf.2.1, hwf.2.2⟩ hR hS hL hc hz hcap
  rw [hn] at hw
  exact lv_imul F.1 F.2.1 hd hw
theorem aj_iand (F : am_F p s m args c cc nL own Ts D a0 cA base L0 X0) (hd : decode cc (pcs k) = .ok (.iand, 1)) (hn : pcs (k + 1) = pcs k + 1) (hs : am_step rc na mcT msT cN cZ C Z (am_J p l e R s m args below meth c Qm nL D a0 cA base L0 X0 n0 z0 pcs) k ls st h (.iand)) : (am_J p l e R s m args below meth c Qm nL D a0 cA base L0 X0 n0 z0 pcs) k ls st h := by
  obtain ⟨x, y, st1, rfl, hX⟩ := hs
  intro ad H locs lr cells slots hag hwf hR hS hL hc hz hcap
  have hw := hX ad H locs lr cells slots hag ⟨hwf.1, by simpa [am_okv] using hwf.2.1, hwf.2.2⟩ hR hS hL hc hz hcap
  rw [hn] at hw
  exact lv_iand F.1 F.2.1 hd hw
theorem aj_ior (F : am_F p s m args c cc nL own Ts D a0 cA base L0 X0) (hd : decode cc (pcs k) = .ok (.ior, 1)) (hn : pcs (k + 1) = pcs k + 1) (hs : am_step rc na mcT msT cN cZ C Z (am_J p l e R s m args below meth c Qm nL D a0 cA base L0 X0 n0 z0 pcs) k ls st h (.ior)) : (am_J p l e R s m args below meth c Qm nL D a0 cA base L0 X0 n0 z0 pcs) k ls st h := by
  obtain ⟨x, y, st1, rfl, hX⟩ := hs
  intro ad H locs lr cells slots hag hwf hR hS hL hc hz hcap
  have hw := hX ad H locs lr cells slots hag ⟨hwf.1, by simpa [am_okv] using hwf.2.1, hwf.2.2⟩ hR hS hL hc hz hcap
  rw [hn] at hw
  exact lv_ior F.1 F.2.1 hd hw
theorem aj_ixor (F : am_F p s m args c cc nL own Ts D a0 cA base L0 X0) (hd : decode cc (pcs k) = .ok (.ixor, 1)) (hn : pcs (k + 1) = pcs k + 1) (hs : am_step rc na mcT msT cN cZ C Z (am_J p l e R s m args below meth c Qm nL D a0 cA base L0 X0 n0 z0 pcs) k ls st h (.ixor)) : (am_J p l e R s m args below meth c Qm nL D a0 cA base L0 X0 n0 z0 pcs) k ls st h := by
  obtain ⟨x, y, st1, rfl, hX⟩ := hs
  intro ad H locs lr cells slots hag hwf hR hS hL hc hz hcap
  have hw := hX ad H locs lr cells slots hag ⟨hwf.1, by simpa [am_okv] using hwf.2.1, hwf.2.2⟩ hR hS hL hc hz hcap
  rw [hn] at hw
  exact lv_ixor F.1 F.2.1 hd hw
theorem aj_ishl (F : am_F p s m args c cc nL own Ts D a0 cA base L0 X0) (hd : decode cc (pcs k) = .ok (.ishl, 1)) (hn : pcs (k + 1) = pcs k + 1) (hs : am_step rc na mcT msT cN cZ C Z (am_J p l e R s m args below meth c Qm nL D a0 cA base L0 X0 n0 z0 pcs) k ls st h (.ishl)) : (am_J p l e R s m args below meth c Qm nL D a0 cA base L0 X0 n0 z0 pcs) k ls st h := by
  obtain ⟨x, y, st1, rfl, hX⟩ := hs
  intro ad H locs lr cells slots hag hwf hR hS hL hc hz hcap
  have hw := hX ad H locs lr cells slots hag ⟨hwf.1, by simpa [am_okv] using hwf.2.1, hwf.2.2⟩ hR hS hL hc hz hcap
  rw [hn] at hw
  exact lv_ishl F.1 F.2.1 hd hw
theorem aj_ishr (F : am_F p s m args c cc nL own Ts D a0 cA base L0 X0) (hd : decode cc (pcs k) = .ok (.ishr, 1)) (hn : pcs (k + 1) = pcs k + 1) (hs : am_step rc na mcT msT cN cZ C Z (am_J p l e R s m args below meth c Qm nL D a0 cA base L0 X0 n0 z0 pcs) k ls st h (.ishr)) : (am_J p l e R s m args below meth c Qm nL D a0 cA base L0 X0 n0 z0 pcs) k ls st h := by
  obtain ⟨x, y, st1, rfl, hX⟩ := hs
  intro ad H locs lr cells slots hag hwf hR hS hL hc hz hcap
  have hw := hX ad H locs lr cells slots hag ⟨hwf.1, by simpa [am_okv] using hwf.2.1, hwf.2.2⟩ hR hS hL hc hz hcap
  rw [hn] at hw
  exact lv_ishr F.1 F.2.1 hd hw
theorem aj_ladd (F : am_F p s m args c cc nL own Ts D a0 cA base L0 X0) (hd : decode cc (pcs k) = .ok (.ladd, 1)) (hn : pcs (k + 1) = pcs k + 1) (hs : am_step rc na mcT msT cN cZ C Z (am_J p l e R s m args below meth c Qm nL D a0 cA base L0 X0 n0 z0 pcs) k ls st h (.ladd)) : (am_J p l e R s m args below meth c Qm nL D a0 cA base L0 X0 n0 z0 pcs) k ls st h := by
  obtain ⟨x, y, st1, rfl, hX⟩ := hs
  intro ad H locs lr cells slots hag hwf hR hS hL hc hz hcap
  have hw := hX ad H locs lr cells slots hag ⟨hwf.1, by simpa [am_okv] using hwf.2.1, hwf.2.2⟩ hR hS hL hc hz hcap
  rw [hn] at hw
  exact lv_ladd F.1 F.2.1 hd hw
theorem aj_lsub (F : am_F p s m args c cc nL own Ts D a0 cA base L0 X0) (hd : decode cc (pcs k) = .ok (.lsub, 1)) (hn : pcs (k + 1) = pcs k + 1) (hs : am_step rc na mcT msT cN cZ C Z (am_J p l e R s m args below meth c Qm nL D a0 cA base L0 X0 n0 z0 pcs) k ls st h (.lsub)) : (am_J p l e R s m args below meth c Qm nL D a0 cA base L0 X0 n0 z0 pcs) k ls st h := by
  obtain ⟨x, y, st1, rfl, hX⟩ := hs
  intro ad H locs lr cells slots hag hwf hR hS hL hc hz hcap
  have hw := hX ad H locs lr cells slots hag ⟨hwf.1, by simpa [am_okv] using hwf.2.1, hwf.2.2⟩ hR hS hL hc hz hcap
  rw [hn] at hw
  exact lv_lsub F.1 F.2.1 hd hw
theorem aj_lmul (F : am_F p s m args c cc nL own Ts D a0 cA base L0 X0) (hd : decode cc (pcs k) = .ok (.lmul, 1)) (hn : pcs (k + 1) = pcs k + 1) (hs : am_step rc na mcT msT cN cZ C Z (am_J p l e R s m args below meth c Qm nL D a0 cA base L0 X0 n0 z0 pcs) k ls st h (.lmul)) : (am_J p l e R s m args below meth c Qm nL D a0 cA base L0 X0 n0 z0 pcs) k ls st h := by
  obtain ⟨x, y, st1, rfl, hX⟩ := hs
  intro ad H locs lr cells slots hag hwf hR hS hL hc hz hcap
  have hw := hX ad H locs lr cells slots hag ⟨hwf.1, by simpa [am_okv] using hwf.2.1, hwf.2.2⟩ hR hS hL hc hz hcap
  rw [hn] at hw
  exact lv_lmul F.1 F.2.1 hd hw
theorem aj_land (F : am_F p s m args c cc nL own Ts D a0 cA base L0 X0) (hd : decode cc (pcs k) = .ok (.land, 1)) (hn : pcs (k + 1) = pcs k + 1) (hs : am_step rc na mcT msT cN cZ C Z (am_J p l e R s m args below meth c Qm nL D a0 cA base L0 X0 n0 z0 pcs) k ls st h (.land)) : (am_J p l e R s m args below meth c Qm nL D a0 cA base L0 X0 n0 z0 pcs) k ls st h := by
  obtain ⟨x, y, st1, rfl, hX⟩ := hs
  intro ad H locs lr cells slots hag hwf hR hS hL hc hz hcap
  have hw := hX ad H locs lr cells slots hag ⟨hwf.1, by simpa [am_okv] using hwf.2.1, hwf.2.2⟩ hR hS hL hc hz hcap
  rw [hn] at hw
  exact lv_land F.1 F.2.1 hd hw
theorem aj_lor (F : am_F p s m args c cc nL own Ts D a0 cA base L0 X0) (hd : decode cc (pcs k) = .ok (.lor, 1)) (hn : pcs (k + 1) = pcs k + 1) (hs : am_step rc na mcT msT cN cZ C Z (am_J p l e R s m args below meth c Qm nL D a0 cA base L0 X0 n0 z0 pcs) k ls st h (.lor)) : (am_J p l e R s m args below meth c Qm nL D a0 cA base L0 X0 n0 z0 pcs) k ls st h := by
  obtain ⟨x, y, st1, rfl, hX⟩ := hs
  intro ad H locs lr cells slots hag hwf hR hS hL hc hz hcap
  have hw := hX ad H locs lr cells slots hag ⟨hwf.1, by simpa [am_okv] using hwf.2.1, hwf.2.2⟩ hR hS hL hc hz hcap
  rw [hn] at hw
  exact lv_lor F.1 F.2.1 hd hw
theorem aj_iushr (F : am_F p s m args c cc nL own Ts D a0 cA base L0 X0) (hd : decode cc (pcs k) = .ok (.iushr, 1)) (hn : pcs (k + 1) = pcs k + 1) (hs : am_step rc na mcT msT cN cZ C Z (am_J p l e R s m args below meth c Qm nL D a0 cA base L0 X0 n0 z0 pcs) k ls st h (.iushr)) : (am_J p l e R s m args below meth c Qm nL D a0 cA base L0 X0 n0 z0 pcs) k ls st h := by
  obtain ⟨x, y, st1, rfl, hX⟩ := hs
  intro ad H locs lr cells slots hag hwf hR hS hL hc hz hcap
  have hw := hX ad H locs lr cells slots hag ⟨hwf.1, by simpa [am_okv] using hwf.2.1, hwf.2.2⟩ hR hS hL hc hz hcap
  rw [hn] at hw
  exact lv_iushr F.1 F.2.1 hd rfl hw
theorem aj_lushr (F : am_F p s m args c cc nL own Ts D a0 cA base L0 X0) (hd : decode cc (pcs k) = .ok (.lushr, 1)) (hn : pcs (k + 1) = pcs k + 1) (hs : am_step rc na mcT msT cN cZ C Z (am_J p l e R s m args below meth c Qm nL D a0 cA base L0 X0 n0 z0 pcs) k ls st h (.lushr)) : (am_J p l e R s m args below meth c Qm nL D a0 cA base L0 X0 n0 z0 pcs) k ls st h := by
  obtain ⟨x, y, st1, rfl, hX⟩ := hs
  intro ad H locs lr cells slots hag hwf hR hS hL hc hz hcap
  have hw := hX ad H locs lr cells slots hag ⟨hwf.1, by simpa [am_okv] using hwf.2.1, hwf.2.2⟩ hR hS hL hc hz hcap
  rw [hn] at hw
  exact lv_lushr F.1 F.2.1 hd rfl hw
theorem aj_lshl (F : am_F p s m args c cc nL own Ts D a0 cA base L0 X0) (hd : decode cc (pcs k) = .ok (.lshl, 1)) (hn : pcs (k + 1) = pcs k + 1) (hs : am_step rc na mcT msT cN cZ C Z (am_J p l e R s m args below meth c Qm nL D a0 cA base L0 X0 n0 z0 pcs) k ls st h (.lshl)) : (am_J p l e R s m args below meth c Qm nL D a0 cA base L0 X0 n0 z0 pcs) k ls st h := by
  obtain ⟨x, y, st1, rfl, hX⟩ := hs
  intro ad H locs lr cells slots hag hwf hR hS hL hc hz hcap
  have hw := hX ad H locs lr cells slots hag ⟨hwf.1, by simpa [am_okv] using hwf.2.1, hwf.2.2⟩ hR hS hL hc hz hcap
  rw [hn] at hw
  exact lv_lshl F.1 F.2.1 hd rfl hw
theorem aj_lshr (F : am_F p s m args c cc nL own Ts D a0 cA base L0 X0) (hd : decode cc (pcs k) = .ok (.lshr, 1)) (hn : pcs (k + 1) = pcs k + 1) (hs : am_step rc na mcT msT cN cZ C Z (am_J p l e R s m args below meth c Qm nL D a0 cA base L0 X0 n0 z0 pcs) k ls st h (.lshr)) : (am_J p l e R s m args below meth c Qm nL D a0 cA base L0 X0 n0 z0 pcs) k ls st h := by
  obtain ⟨x, y, st1, rfl, hX⟩ := hs
  intro ad H locs lr cells slots hag hwf hR hS hL hc hz hcap
  have hw := hX ad H locs lr cells slots hag ⟨hwf.1, by simpa [am_okv] using hwf.2.1, hwf.2.2⟩ hR hS hL hc hz hcap
  rw [hn] at hw
  exact lv_lshr F.1 F.2.1 hd rfl hw
theorem aj_idiv (F : am_F p s m args c cc nL own Ts D a0 cA base L0 X0) (hd : decode cc (pcs k) = .ok (.idiv, 1)) (hn : pcs (k + 1) = pcs k + 1) (hs : am_step rc na mcT msT cN cZ C Z (am_J p l e R s m args below meth c Qm nL D a0 cA base L0 X0 n0 z0 pcs) k ls st h (.idiv)) : (am_J p l e R s m args below meth c Qm nL D a0 cA base L0 X0 n0 z0 pcs) k ls st h := by
  obtain ⟨x, y, st1, rfl, hne, hX⟩ := hs
  intro ad H locs lr cells slots hag hwf hR hS hL hc hz hcap
  have hw := hX ad H locs lr cells slots hag ⟨hwf.1, by simpa [am_okv] using hwf.2.1, hwf.2.2⟩ hR hS hL hc hz hcap
  rw [hn] at hw
  exact lv_idiv F.1 F.2.1 hd hne hw
theorem aj_irem (F : am_F p s m args c cc nL own Ts D a0 cA base L0 X0) (hd : decode cc (pcs k) = .ok (.irem, 1)) (hn : pcs (k + 1) = pcs k + 1) (hs : am_step rc na mcT msT cN cZ C Z (am_J p l e R s m args below meth c Qm nL D a0 cA base L0 X0 n0 z0 pcs) k ls st h (.irem)) : (am_J p l e R s m args below meth c Qm nL D a0 cA base L0 X0 n0 z0 pcs) k ls st h := by
  obtain ⟨x, y, st1, rfl, hne, hX⟩ := hs
  intro ad H locs lr cells slots hag hwf hR hS hL hc hz hcap
  have hw := hX ad H locs lr cells slots hag ⟨hwf.1, by simpa [am_okv] using hwf.2.1, hwf.2.2⟩ hR hS hL hc hz hcap
  rw [hn] at hw
  exact lv_irem F.1 F.2.1 hd hne hw
theorem aj_ldiv (F : am_F p s m args c cc nL own Ts D a0 cA base L0 X0) (hd : decode cc (pcs k) = .ok (.ldiv, 1)) (hn : pcs (k + 1) = pcs k + 1) (hs : am_step rc na mcT msT cN cZ C Z (am_J p l e R s m args below meth c Qm nL D a0 cA base L0 X0 n0 z0 pcs) k ls st h (.ldiv)) : (am_J p l e R s m args below meth c Qm nL D a0 cA base L0 X0 n0 z0 pcs) k ls st h := by
  obtain ⟨x, y, st1, rfl, hne, hX⟩ := hs
  intro ad H locs lr cells slots hag hwf hR hS hL hc hz hcap
  have hw := hX ad H locs lr cells slots hag ⟨hwf.1, by simpa [am_okv] using hwf.2.1, hwf.2.2⟩ hR hS hL hc hz hcap
  rw [hn] at hw
  exact lv_ldiv F.1 F.2.1 hd hne hw
theorem aj_lcmp (F : am_F p s m args c cc nL own Ts D a0 cA base L0 X0) (hd : decode cc (pcs k) = .ok (.lcmp, 1)) (hn : pcs (k + 1) = pcs k + 1) (hs : am_step rc na mcT msT cN cZ C Z (am_J p l e R s m args below meth c Qm nL D a0 cA base L0 X0 n0 z0 pcs) k ls st h (.lcmp)) : (am_J p l e R s m args below meth c Qm nL D a0 cA base L0 X0 n0 z0 pcs) k ls st h := by
  obtain ⟨x, y, st1, rfl, hX⟩ := hs
  intro ad H locs lr cells slots hag hwf hR hS hL hc hz hcap
  have hw := hX ad H locs lr cells slots hag ⟨hwf.1, by simpa [am_okv] using hwf.2.1, hwf.2.2⟩ hR hS hL hc hz hcap
  rw [hn] at hw
  exact W.lcmp F.1 F.2.1 hd hw
theorem aj_i2l (F : am_F p s m args c cc nL own Ts D a0 cA base L0 X0) (hd : decode cc (pcs k) = .ok (.i2l, 1)) (hn : pcs (k + 1) = pcs k + 1) (hs : am_step rc na mcT msT cN cZ C Z (am_J p l e R s m args below meth c Qm nL D a0 cA base L0 X0 n0 z0 pcs) k ls st h (.i2l)) : (am_J p l e R s m args below meth c Qm nL D a0 cA base L0 X0 n0 z0 pcs) k ls st h := by
  obtain ⟨x, st1, rfl, hX⟩ := hs
  intro ad H locs lr cells slots hag hwf hR hS hL hc hz hcap
  have hw := hX ad H locs lr cells slots hag ⟨hwf.1, by simpa [am_okv] using hwf.2.1, hwf.2.2⟩ hR hS hL hc hz hcap
  rw [hn] at hw
  exact lv_i2l F.1 F.2.1 hd rfl hw
theorem aj_l2i (F : am_F p s m args c cc nL own Ts D a0 cA base L0 X0) (hd : decode cc (pcs k) = .ok (.l2i, 1)) (hn : pcs (k + 1) = pcs k + 1) (hs : am_step rc na mcT msT cN cZ C Z (am_J p l e R s m args below meth c Qm nL D a0 cA base L0 X0 n0 z0 pcs) k ls st h (.l2i)) : (am_J p l e R s m args below meth c Qm nL D a0 cA base L0 X0 n0 z0 pcs) k ls st h := by
  obtain ⟨x, st1, rfl, hX⟩ := hs
  intro ad H locs lr cells slots hag hwf hR hS hL hc hz hcap
  have hw := hX ad H locs lr cells slots hag ⟨hwf.1, by simpa [am_okv] using hwf.2.1, hwf.2.2⟩ hR hS hL hc hz hcap
  rw [hn] at hw
  exact lv_l2i F.1 F.2.1 hd rfl hw
theorem aj_i2b (F : am_F p s m args c cc nL own Ts D a0 cA base L0 X0) (hd : decode cc (pcs k) = .ok (.i2b, 1)) (hn : pcs (k + 1) = pcs k + 1) (hs : am_step rc na mcT msT cN cZ C Z (am_J p l e R s m args below meth c Qm nL D a0 cA base L0 X0 n0 z0 pcs) k ls st h (.i2b)) : (am_J p l e R s m args below meth c Qm nL D a0 cA base L0 X0 n0 z0 pcs) k ls st h := by
  obtain ⟨x, st1, rfl, hX⟩ := hs
  intro ad H locs lr cells slots hag hwf hR hS hL hc hz hcap
  have hw := hX ad H locs lr cells slots hag ⟨hwf.1, by simpa [am_okv] using hwf.2.1, hwf.2.2⟩ hR hS hL hc hz hcap
  rw [hn] at hw
  exact lv_i2b F.1 F.2.1 hd rfl hw
theorem aj_dup (F : am_F p s m args c cc nL own Ts D a0 cA base L0 X0) (hd : decode cc (pcs k) = .ok (.dup, 1)) (hn : pcs (k + 1) = pcs k + 1) (hs : am_step rc na mcT msT cN cZ C Z (am_J p l e R s m args below meth c Qm nL D a0 cA base L0 X0 n0 z0 pcs) k ls st h (.dup)) : (am_J p l e R s m args below meth c Qm nL D a0 cA base L0 X0 n0 z0 pcs) k ls st h := by
  obtain ⟨v, st1, rfl, hv, hX⟩ := hs
  intro ad H locs lr cells slots hag hwf hR hS hL hc hz hcap
  have hw := hX ad H locs lr cells slots hag (am_wfs hwf (fun w q => by rcases List.mem_cons.mp q with rfl | q; exact List.mem_cons_self; exact q)) hR hS hL hc hz hcap
  rw [hn] at hw
  exact lv_dup F.1 F.2.1 hd (by rw [am_vv_cat]; exact hv) hw
theorem aj_dup2 (F : am_F p s m args c cc nL own Ts D a0 cA base L0 X0) (hd : decode cc (pcs k) = .ok (.dup2, 1)) (hn : pcs (k + 1) = pcs k + 1) (hs : am_step rc na mcT msT cN cZ C Z (am_J p l e R s m args below meth c Qm nL D a0 cA base L0 X0 n0 z0 pcs) k ls st h (.dup2)) : (am_J p l e R s m args below meth c Qm nL D a0 cA base L0 X0 n0 z0 pcs) k ls st h := by
  obtain ⟨v, w, st1, rfl, hv, hv2, hX⟩ := hs
  intro ad H locs lr cells slots hag hwf hR hS hL hc hz hcap
  have hw := hX ad H locs lr cells slots hag (am_wfs hwf (fun x q => by simp only [List.mem_cons] at q ⊢; rcases q with q | q | q | q | q <;> simp [q])) hR hS hL hc hz hcap
  rw [hn] at hw
  exact lv_dup2_11 F.1 F.2.1 hd (by rw [am_vv_cat]; exact hv) (by rw [am_vv_cat]; exact hv2) hw
theorem aj_pop (F : am_F p s m args c cc nL own Ts D a0 cA base L0 X0) (hd : decode cc (pcs k) = .ok (.pop, 1)) (hn : pcs (k + 1) = pcs k + 1) (hs : am_step rc na mcT msT cN cZ C Z (am_J p l e R s m args below meth c Qm nL D a0 cA base L0 X0 n0 z0 pcs) k ls st h (.pop)) : (am_J p l e R s m args below meth c Qm nL D a0 cA base L0 X0 n0 z0 pcs) k ls st h := by
  obtain ⟨v, st1, rfl, hv, hX⟩ := hs
  intro ad H locs lr cells slots hag hwf hR hS hL hc hz hcap
  have hw := hX ad H locs lr cells slots hag (am_wfs hwf (fun x q => List.mem_cons_of_mem _ q)) hR hS hL hc hz hcap
  rw [hn] at hw
  exact lv_pop F.1 F.2.1 hd (by rw [am_vv_cat]; exact hv) hw
theorem aj_iconst (F : am_F p s m args c cc nL own Ts D a0 cA base L0 X0) {n : Int} (hd : decode cc (pcs k) = .ok (.iconst n, 1)) (hn : pcs (k + 1) = pcs k + 1) (hs : am_step rc na mcT msT cN cZ C Z (am_J p l e R s m args below meth c Qm nL D a0 cA base L0 X0 n0 z0 pcs) k ls st h (.iconst n)) : (am_J p l e R s m args below meth c Qm nL D a0 cA base L0 X0 n0 z0 pcs) k ls st h := by
  have hX := hs
  intro ad H locs lr cells slots hag hwf hR hS hL hc hz hcap
  have hw := hX ad H locs lr cells slots hag ⟨hwf.1, by simpa [am_okv] using hwf.2.1, hwf.2.2⟩ hR hS hL hc hz hcap
  rw [hn] at hw
  exact lv_iconst F.1 F.2.1 hd rfl hw
theorem aj_bipush (F : am_F p s m args c cc nL own Ts D a0 cA base L0 X0) {n : Int} (hv : (Int8.ofInt n).toInt32 = Int32.ofInt n) (hd : decode cc (pcs k) = .ok (.bipush n, 2)) (hn : pcs (k + 1) = pcs k + 2) (hs : am_step rc na mcT msT cN cZ C Z (am_J p l e R s m args below meth c Qm nL D a0 cA base L0 X0 n0 z0 pcs) k ls st h (.iconst n)) : (am_J p l e R s m args below meth c Qm nL D a0 cA base L0 X0 n0 z0 pcs) k ls st h := by
  have hX := hs
  intro ad H locs lr cells slots hag hwf hR hS hL hc hz hcap
  have hw := hX ad H locs lr cells slots hag ⟨hwf.1, by simpa [am_okv] using hwf.2.1, hwf.2.2⟩ hR hS hL hc hz hcap
  rw [hn] at hw
  exact lv_bipush F.1 F.2.1 hd hv hw
theorem aj_sipush (F : am_F p s m args c cc nL own Ts D a0 cA base L0 X0) {n : Int} (hv : (Int16.ofInt n).toInt32 = Int32.ofInt n) (hd : decode cc (pcs k) = .ok (.sipush n, 3)) (hn : pcs (k + 1) = pcs k + 3) (hs : am_step rc na mcT msT cN cZ C Z (am_J p l e R s m args below meth c Qm nL D a0 cA base L0 X0 n0 z0 pcs) k ls st h (.iconst n)) : (am_J p l e R s m args below meth c Qm nL D a0 cA base L0 X0 n0 z0 pcs) k ls st h := by
  have hX := hs
  intro ad H locs lr cells slots hag hwf hR hS hL hc hz hcap
  have hw := hX ad H locs lr cells slots hag ⟨hwf.1, by simpa [am_okv] using hwf.2.1, hwf.2.2⟩ hR hS hL hc hz hcap
  rw [hn] at hw
  exact lv_sipush F.1 F.2.1 hd hv hw
theorem aj_ldc (F : am_F p s m args c cc nL own Ts D a0 cA base L0 X0) {n : Int} {q : Nat} (hv : Cond.constant own q (Int32.ofInt n) ∈ am_tbl) (hd : decode cc (pcs k) = .ok (.ldc q, 2)) (hn : pcs (k + 1) = pcs k + 2) (hs : am_step rc na mcT msT cN cZ C Z (am_J p l e R s m args below meth c Qm nL D a0 cA base L0 X0 n0 z0 pcs) k ls st h (.iconst n)) : (am_J p l e R s m args below meth c Qm nL D a0 cA base L0 X0 n0 z0 pcs) k ls st h := by
  have hX := hs
  intro ad H locs lr cells slots hag hwf hR hS hL hc hz hcap
  have hw := hX ad H locs lr cells slots hag ⟨hwf.1, by simpa [am_okv] using hwf.2.1, hwf.2.2⟩ hR hS hL hc hz hcap
  rw [hn] at hw
  exact lv_ldc F.1 F.2.1 F.2.2.2.1 (F.2.2.2.2.1 _ (F.2.2.2.2.2.1 _ hv)) hd hw
theorem aj_ldcw (F : am_F p s m args c cc nL own Ts D a0 cA base L0 X0) {n : Int} {q : Nat} (hv : Cond.constant own q (Int32.ofInt n) ∈ am_tbl) (hd : decode cc (pcs k) = .ok (.ldc_w q, 3)) (hn : pcs (k + 1) = pcs k + 3) (hs : am_step rc na mcT msT cN cZ C Z (am_J p l e R s m args below meth c Qm nL D a0 cA base L0 X0 n0 z0 pcs) k ls st h (.iconst n)) : (am_J p l e R s m args below meth c Qm nL D a0 cA base L0 X0 n0 z0 pcs) k ls st h := by
  have hX := hs
  intro ad H locs lr cells slots hag hwf hR hS hL hc hz hcap
  have hw := hX ad H locs lr cells slots hag ⟨hwf.1, by simpa [am_okv] using hwf.2.1, hwf.2.2⟩ hR hS hL hc hz hcap
  rw [hn] at hw
  exact lv_ldcw F.1 F.2.1 F.2.2.2.1 (F.2.2.2.2.1 _ (F.2.2.2.2.2.1 _ hv)) hd hw
theorem aj_lconst (F : am_F p s m args c cc nL own Ts D a0 cA base L0 X0) {n : Int} {a : Fin 2} (hv : Int64.ofNat (a : Nat) = Int64.ofInt n) (hd : decode cc (pcs k) = .ok (.lconst a, 1)) (hn : pcs (k + 1) = pcs k + 1) (hs : am_step rc na mcT msT cN cZ C Z (am_J p l e R s m args below meth c Qm nL D a0 cA base L0 X0 n0 z0 pcs) k ls st h (.goto_w n)) : (am_J p l e R s m args below meth c Qm nL D a0 cA base L0 X0 n0 z0 pcs) k ls st h := by
  have hX := hs
  intro ad H locs lr cells slots hag hwf hR hS hL hc hz hcap
  have hw := hX ad H locs lr cells slots hag ⟨hwf.1, by simpa [am_okv] using hwf.2.1, hwf.2.2⟩ hR hS hL hc hz hcap
  rw [hn] at hw
  exact lv_lconst F.1 F.2.1 hd hv hw
theorem aj_ldc2 (F : am_F p s m args c cc nL own Ts D a0 cA base L0 X0) {n : Int} {q : Nat} (hv : Cond.constantLong own q (Int64.ofInt n) ∈ am_tbl) (hd : decode cc (pcs k) = .ok (.ldc2_w q, 3)) (hn : pcs (k + 1) = pcs k + 3) (hs : am_step rc na mcT msT cN cZ C Z (am_J p l e R s m args below meth c Qm nL D a0 cA base L0 X0 n0 z0 pcs) k ls st h (.goto_w n)) : (am_J p l e R s m args below meth c Qm nL D a0 cA base L0 X0 n0 z0 pcs) k ls st h := by
  have hX := hs
  intro ad H locs lr cells slots hag hwf hR hS hL hc hz hcap
  have hw := hX ad H locs lr cells slots hag ⟨hwf.1, by simpa [am_okv] using hwf.2.1, hwf.2.2⟩ hR hS hL hc hz hcap
  rw [hn] at hw
  exact lv_ldc2 F.1 F.2.1 F.2.2.2.1 (F.2.2.2.2.1 _ (F.2.2.2.2.2.1 _ hv)) hd hw
theorem aj_null (F : am_F p s m args c cc nL own Ts D a0 cA base L0 X0) (hd : decode cc (pcs k) = .ok (.aconst_null, 1)) (hn : pcs (k + 1) = pcs k + 1) (hs : am_step rc na mcT msT cN cZ C Z (am_J p l e R s m args below meth c Qm nL D a0 cA base L0 X0 n0 z0 pcs) k ls st h (.aconst_null)) : (am_J p l e R s m args below meth c Qm nL D a0 cA base L0 X0 n0 z0 pcs) k ls st h := by
  have hX := hs
  intro ad H locs lr cells slots hag hwf hR hS hL hc hz hcap
  have hw := hX ad H locs lr cells slots hag ⟨hwf.1, by simpa [am_okv] using hwf.2.1, hwf.2.2⟩ hR hS hL hc hz hcap
  rw [hn] at hw
  exact lv_null F.1 F.2.1 hd hw
theorem aj_iload (F : am_F p s m args c cc nL own Ts D a0 cA base L0 X0) {j : Nat} (hd : decode cc (pcs k) = .ok (.iload j, 2)) (hn : pcs (k + 1) = pcs k + 2) (hs : am_step rc na mcT msT cN cZ C Z (am_J p l e R s m args below meth c Qm nL D a0 cA base L0 X0 n0 z0 pcs) k ls st h (.iload j)) : (am_J p l e R s m args below meth c Qm nL D a0 cA base L0 X0 n0 z0 pcs) k ls st h := by
  obtain ⟨x, hj, hX⟩ := hs
  intro ad H locs lr cells slots hag hwf hR hS hL hc hz hcap
  have hw := hX ad H locs lr cells slots hag ⟨hwf.1, by simpa [am_okv] using hwf.2.1, hwf.2.2⟩ hR hS hL hc hz hcap
  rw [hn] at hw
  exact lv_iload F.1 F.2.1 hd (hL.2.2.2 j _ hj) hw
theorem aj_iloadn (F : am_F p s m args c cc nL own Ts D a0 cA base L0 X0) {j : Nat} {a : Fin 4} (ha : (a : Nat) = j) (hd : decode cc (pcs k) = .ok (.iload_n a, 1)) (hn : pcs (k + 1) = pcs k + 1) (hs : am_step rc na mcT msT cN cZ C Z (am_J p l e R s m args below meth c Qm nL D a0 cA base L0 X0 n0 z0 pcs) k ls st h (.iload j)) : (am_J p l e R s m args below meth c Qm nL D a0 cA base L0 X0 n0 z0 pcs) k ls st h := by
  obtain ⟨x, hj, hX⟩ := hs
  intro ad H locs lr cells slots hag hwf hR hS hL hc hz hcap
  have hw := hX ad H locs lr cells slots hag ⟨hwf.1, by simpa [am_okv] using hwf.2.1, hwf.2.2⟩ hR hS hL hc hz hcap
  rw [hn] at hw
  exact lv_iload_n F.1 F.2.1 hd ha (hL.2.2.2 j _ hj) hw
theorem aj_lload (F : am_F p s m args c cc nL own Ts D a0 cA base L0 X0) {j : Nat} (hd : decode cc (pcs k) = .ok (.lload j, 2)) (hn : pcs (k + 1) = pcs k + 2) (hs : am_step rc na mcT msT cN cZ C Z (am_J p l e R s m args below meth c Qm nL D a0 cA base L0 X0 n0 z0 pcs) k ls st h (.lload j)) : (am_J p l e R s m args below meth c Qm nL D a0 cA base L0 X0 n0 z0 pcs) k ls st h := by
  obtain ⟨x, hj, hX⟩ := hs
  intro ad H locs lr cells slots hag hwf hR hS hL hc hz hcap
  have hw := hX ad H locs lr cells slots hag ⟨hwf.1, by simpa [am_okv] using hwf.2.1, hwf.2.2⟩ hR hS hL hc hz hcap
  rw [hn] at hw
  exact lv_lload F.1 F.2.1 hd (hL.2.2.2 j _ hj) hw
theorem aj_lloadn (F : am_F p s m args c cc nL own Ts D a0 cA base L0 X0) {j : Nat} {a : Fin 4} (ha : (a : Nat) = j) (hd : decode cc (pcs k) = .ok (.lload_n a, 1)) (hn : pcs (k + 1) = pcs k + 1) (hs : am_step rc na mcT msT cN cZ C Z (am_J p l e R s m args below meth c Qm nL D a0 cA base L0 X0 n0 z0 pcs) k ls st h (.lload j)) : (am_J p l e R s m args below meth c Qm nL D a0 cA base L0 X0 n0 z0 pcs) k ls st h := by
  obtain ⟨x, hj, hX⟩ := hs
  intro ad H locs lr cells slots hag hwf hR hS hL hc hz hcap
  have hw := hX ad H locs lr cells slots hag ⟨hwf.1, by simpa [am_okv] using hwf.2.1, hwf.2.2⟩ hR hS hL hc hz hcap
  rw [hn] at hw
  exact lv_lload_n F.1 F.2.1 hd ha (hL.2.2.2 j _ hj) hw
theorem aj_aload (F : am_F p s m args c cc nL own Ts D a0 cA base L0 X0) {j : Nat} (hd : decode cc (pcs k) = .ok (.aload j, 2)) (hn : pcs (k + 1) = pcs k + 2) (hs : am_step rc na mcT msT cN cZ C Z (am_J p l e R s m args below meth c Qm nL D a0 cA base L0 X0 n0 z0 pcs) k ls st h (.aload j)) : (am_J p l e R s m args below meth c Qm nL D a0 cA base L0 X0 n0 z0 pcs) k ls st h := by
  rcases hs with ⟨x, hj, hX⟩ | ⟨hj, hX⟩
  · intro ad H locs lr cells slots hag hwf hR hS hL hc hz hcap
    have hw := hX ad H locs lr cells slots hag (am_wfl hwf hj) hR hS hL hc hz hcap
    rw [hn] at hw
    exact lv_aload F.1 F.2.1 hd (hL.2.2.2 j _ hj) hw
  · intro ad H locs lr cells slots hag hwf hR hS hL hc hz hcap
    have hw := hX ad H locs lr cells slots hag (am_wfl hwf hj) hR hS hL hc hz hcap
    rw [hn] at hw
    exact lv_aloadN F.1 F.2.1 hd (hL.2.2.2 j _ hj) hw
theorem aj_aloadn (F : am_F p s m args c cc nL own Ts D a0 cA base L0 X0) {j : Nat} {a : Fin 4} (ha : (a : Nat) = j) (hd : decode cc (pcs k) = .ok (.aload_n a, 1)) (hn : pcs (k + 1) = pcs k + 1) (hs : am_step rc na mcT msT cN cZ C Z (am_J p l e R s m args below meth c Qm nL D a0 cA base L0 X0 n0 z0 pcs) k ls st h (.aload j)) : (am_J p l e R s m args below meth c Qm nL D a0 cA base L0 X0 n0 z0 pcs) k ls st h := by
  rcases hs with ⟨x, hj, hX⟩ | ⟨hj, hX⟩
  · intro ad H locs lr cells slots hag hwf hR hS hL hc hz hcap
    have hw := hX ad H locs lr cells slots hag (am_wfl hwf hj) hR hS hL hc hz hcap
    rw [hn] at hw
    exact lv_aload_n F.1 F.2.1 hd ha (hL.2.2.2 j _ hj) hw
  · intro ad H locs lr cells slots hag hwf hR hS hL hc hz hcap
    have hw := hX ad H locs lr cells slots hag (am_wfl hwf hj) hR hS hL hc hz hcap
    rw [hn] at hw
    exact lv_aload_nN F.1 F.2.1 hd ha (hL.2.2.2 j _ hj) hw
theorem am_len_k (ls : List (Option Value)) (i : Nat) : (am_k ls i).length = ls.length := by
  unfold am_k
  split
  · rfl
  · split
    · split <;> simp
    · rfl
theorem am_len1 (ls : List (Option Value)) (i : Nat) (v : Value) : (am_set1 ls i v).length = ls.length := by simp [am_set1, am_len_k]
theorem am_len2 (ls : List (Option Value)) (i : Nat) (v : Value) : (am_set2 ls i v).length = ls.length := by simp [am_set2, am_len_k]
/-- what is behind am_k was there before, and is no long just ahead of i -/
theorem am_k_at {ls : List (Option Value)} {i j : Nat} {v : Value} (h : (am_k ls i)[j]? = some (some v)) : ls[j]? = some (some v) ∧ ¬ (j + 1 = i ∧ v.category = 2) := by
  unfold am_k at h
  split at h
  · exact ⟨h, by omega⟩
  · rename_i q
    split at h
    · rename_i w hw
      by_cases hc : w.category = 2
      · rw [if_pos hc, List.getElem?_set] at h
        by_cases hq : q = j
        · subst hq
          rw [if_pos rfl] at h
          split at h <;> simp at h
        · rw [if_neg hq] at h
          exact ⟨h, by omega⟩
      · rw [if_neg hc] at h
        refine ⟨h, fun z => ?_⟩
        have : q = j := by omega
        subst this
        rw [h] at hw
        cases hw
        exact hc z.2
    · rename_i hw
      refine ⟨h, fun z => ?_⟩
      have : q = j := by omega
      subst this
      exact hw v h
def am_ll (ad : Nat → Nat) (ls : List (Option Value)) : List (Nat × Value) := (List.range ls.length).filterMap (fun j => match ls[j]? with
  | some (some v) => some (j, am_vv ad v)
  | _ => none)
theorem am_ll_mem {ad : Nat → Nat} {ls : List (Option Value)} {j : Nat} {v : Value} (h : ls[j]? = some (some v)) : (j, am_vv ad v) ∈ am_ll ad ls := by
  unfold am_ll
  rw [List.mem_filterMap]
  exact ⟨j, List.mem_range.mpr (am_lt h), by rw [h]⟩
theorem am_ll_has {ad : Nat → Nat} {ls : List (Option Value)} {nL : Nat} {lr : Array Slot} (hL : am_loc ad ls nL lr) : lv_has lr nL (am_ll ad ls) := by
  refine ⟨hL.1, hL.2.1, fun q hq => ?_⟩
  unfold am_ll at hq
  rw [List.mem_filterMap] at hq
  obtain ⟨j, -, hj⟩ := hq
  split at hj
  · rename_i v hv
    cases hj
    exact hL.2.2.2 j v hv
  · cases hj
theorem am_mem_k {ls : List (Option Value)} {i : Nat} {v : Value} (hv : some v ∈ am_k ls i) : some v ∈ ls := by
  obtain ⟨j, hj⟩ := List.getElem?_of_mem hv
  exact List.mem_of_getElem? (am_k_at hj).1
theorem am_mem_set {α : Type} {l : List α} {i : Nat} {a b : α} (hb : b ∈ l.set i a) : b = a ∨ b ∈ l := by
  obtain ⟨j, hj⟩ := List.getElem?_of_mem hb
  rw [List.getElem?_set] at hj
  by_cases hi : i = j
  · rw [if_pos hi] at hj
    split at hj
    · exact Or.inl (Option.some.inj hj).symm
    · cases hj
  · rw [if_neg hi] at hj
    exact Or.inr (List.mem_of_getElem? hj)
theorem am_wf1 {ls : List (Option Value)} {st : List Value} {h : am_H} {i : Nat} {v : Value} (h1 : ∀ v, some v ∈ ls → am_okv h.1.length v) (h2 : am_okv h.1.length v ∧ ∀ v ∈ st, am_okv h.1.length v) (h3 : ∀ p k q, h.2.2.2 p k = some q → q < h.1.length) : am_wf (am_set1 ls i v) st h := by
  refine ⟨fun w hw => ?_, h2.2, h3⟩
  rcases am_mem_set hw with e | hw
  · cases e
    exact h2.1
  · exact h1 w (am_mem_k hw)
theorem am_wf2 {ls : List (Option Value)} {st : List Value} {h : am_H} {i : Nat} {v : Value} (h1 : ∀ v, some v ∈ ls → am_okv h.1.length v) (h2 : am_okv h.1.length v ∧ ∀ v ∈ st, am_okv h.1.length v) (h3 : ∀ p k q, h.2.2.2 p k = some q → q < h.1.length) : am_wf (am_set2 ls i v) st h := by
  refine ⟨fun w hw => ?_, h2.2, h3⟩
  rcases am_mem_set hw with e | hw
  · cases e
  rcases am_mem_set hw with e | hw
  · cases e
    exact h2.1
  · exact h1 w (am_mem_k hw)
theorem am_loc1 {ad : Nat → Nat} {ls : List (Option Value)} {nL i : Nat} {lr lr' : Array Slot} {v : Value} (hL : am_loc ad ls nL lr) (h : lv_has lr' nL ((i, am_vv ad v) :: (am_ll ad ls).filter (fun q => !(q.1 == i) && !(q.1 + 1 == i && q.2.category == 2)))) : am_loc ad (am_set1 ls i v) nL lr' := by
  refine ⟨h.1, h.2.1, by rw [am_len1]; exact hL.2.2.1, fun j w hj => ?_⟩
  unfold am_set1 at hj
  rw [List.getElem?_set] at hj
  by_cases hi : i = j
  · subst hi
    rw [if_pos rfl] at hj
    split at hj
    · cases hj
      exact h.2.2 (i, am_vv ad v) List.mem_cons_self
    · cases hj
  · rw [if_neg hi] at hj
    obtain ⟨h1, h2⟩ := am_k_at hj
    refine h.2.2 (j, am_vv ad w) (List.mem_cons_of_mem _ (List.mem_filter.mpr ⟨am_ll_mem h1, ?_⟩))
    simp only [Bool.and_eq_true, Bool.not_eq_true', beq_eq_false_iff_ne, ne_eq, Bool.and_eq_false_iff, am_vv_cat]
    refine ⟨fun z => hi z.symm, ?_⟩
    by_cases hji : j + 1 = i
    · exact Or.inr (fun z => h2 ⟨hji, z⟩)
    · exact Or.inl hji
theorem am_loc2 {ad : Nat → Nat} {ls : List (Option Value)} {nL i : Nat} {lr lr' : Array Slot} {v : Value} (hL : am_loc ad ls nL lr) (h : lv_has lr' nL ((i, am_vv ad v) :: (am_ll ad ls).filter (fun q => !(q.1 == i) && (!(q.1 == i + 1) && !(q.1 + 1 == i && q.2.category == 2))))) : am_loc ad (am_set2 ls i v) nL lr' := by
  refine ⟨h.1, h.2.1, by rw [am_len2]; exact hL.2.2.1, fun j w hj => ?_⟩
  unfold am_set2 at hj
  rw [List.getElem?_set] at hj
  by_cases hi1 : i + 1 = j
  · rw [if_pos hi1] at hj
    split at hj <;> cases hj
  · rw [if_neg hi1, List.getElem?_set] at hj
    by_cases hi : i = j
    · subst hi
      rw [if_pos rfl] at hj
      split at hj
      · cases hj
        exact h.2.2 (i, am_vv ad v) List.mem_cons_self
      · cases hj
    · rw [if_neg hi] at hj
      obtain ⟨h1, h2⟩ := am_k_at hj
      refine h.2.2 (j, am_vv ad w) (List.mem_cons_of_mem _ (List.mem_filter.mpr ⟨am_ll_mem h1, ?_⟩))
      simp only [Bool.and_eq_true, Bool.not_eq_true', beq_eq_false_iff_ne, ne_eq, Bool.and_eq_false_iff, am_vv_cat]
      refine ⟨fun z => hi z.symm, fun z => hi1 z.symm, ?_⟩
      by_cases hji : j + 1 = i
      · exact Or.inr (fun z => h2 ⟨hji, z⟩)
      · exact Or.inl hji
theorem aj_istore (F : am_F p s m args c cc nL own Ts D a0 cA base L0 X0) {j : Nat} (hj : j < nL) (hd : decode cc (pcs k) = .ok (.istore j, 2)) (hn : pcs (k + 1) = pcs k + 2) (hs : am_step rc na mcT msT cN cZ C Z (am_J p l e R s m args below meth c Qm nL D a0 cA base L0 X0 n0 z0 pcs) k ls st h (.istore j)) : (am_J p l e R s m args below meth c Qm nL D a0 cA base L0 X0 n0 z0 pcs) k ls st h := by
  obtain ⟨x, st1, rfl, hX⟩ := hs
  intro ad H locs lr cells slots hag hwf hR hS hL hc hz hcap
  refine lv_istore F.1 F.2.1 hd (am_ll_has hL) hj rfl (fun lr2 hl2 => ?_)
  have hw := hX ad H locs lr2 cells slots hag (am_wf1 hwf.1 (by simpa [am_okv] using hwf.2.1) hwf.2.2) hR hS (am_loc1 hL hl2) hc hz hcap
  rw [hn] at hw
  exact hw
theorem aj_istoren (F : am_F p s m args c cc nL own Ts D a0 cA base L0 X0) {j : Nat} {a : Fin 4} (ha : (a : Nat) = j) (hj : j < nL) (hd : decode cc (pcs k) = .ok (.istore_n a, 1)) (hn : pcs (k + 1) = pcs k + 1) (hs : am_step rc na mcT msT cN cZ C Z (am_J p l e R s m args below meth c Qm nL D a0 cA base L0 X0 n0 z0 pcs) k ls st h (.istore j)) : (am_J p l e R s m args below meth c Qm nL D a0 cA base L0 X0 n0 z0 pcs) k ls st h := by
  obtain ⟨x, st1, rfl, hX⟩ := hs
  intro ad H locs lr cells slots hag hwf hR hS hL hc hz hcap
  refine lv_istore_n F.1 F.2.1 hd ha (am_ll_has hL) hj rfl (fun lr2 hl2 => ?_)
  have hw := hX ad H locs lr2 cells slots hag (am_wf1 hwf.1 (by simpa [am_okv] using hwf.2.1) hwf.2.2) hR hS (am_loc1 hL hl2) hc hz hcap
  rw [hn] at hw
  exact hw
theorem aj_astore (F : am_F p s m args c cc nL own Ts D a0 cA base L0 X0) {j : Nat} (hj : j < nL) (hd : decode cc (pcs k) = .ok (.astore j, 2)) (hn : pcs (k + 1) = pcs k + 2) (hs : am_step rc na mcT msT cN cZ C Z (am_J p l e R s m args below meth c Qm nL D a0 cA base L0 X0 n0 z0 pcs) k ls st h (.astore j)) : (am_J p l e R s m args below meth c Qm nL D a0 cA base L0 X0 n0 z0 pcs) k ls st h := by
  rcases hs with ⟨x, st1, rfl, hX⟩ | ⟨st1, rfl, hX⟩
  · intro ad H locs lr cells slots hag hwf hR hS hL hc hz hcap
    refine lv_astore F.1 F.2.1 hd (am_ll_has hL) hj rfl (fun lr2 hl2 => ?_)
    have hw := hX ad H locs lr2 cells slots hag (am_wf1 hwf.1 (by simpa [am_okv] using hwf.2.1) hwf.2.2) hR hS (am_loc1 hL hl2) hc hz hcap
    rw [hn] at hw
    exact hw
  · intro ad H locs lr cells slots hag hwf hR hS hL hc hz hcap
    refine lv_astoreN F.1 F.2.1 hd (am_ll_has hL) hj rfl (fun lr2 hl2 => ?_)
    have hw := hX ad H locs lr2 cells slots hag (am_wf1 hwf.1 (by simpa [am_okv] using hwf.2.1) hwf.2.2) hR hS (am_loc1 hL hl2) hc hz hcap
    rw [hn] at hw
    exact hw
theorem aj_astoren (F : am_F p s m args c cc nL own Ts D a0 cA base L0 X0) {j : Nat} {a : Fin 4} (ha : (a : Nat) = j) (hj : j < nL) (hd : decode cc (pcs k) = .ok (.astore_n a, 1)) (hn : pcs (k + 1) = pcs k + 1) (hs : am_step rc na mcT msT cN cZ C Z (am_J p l e R s m args below meth c Qm nL D a0 cA base L0 X0 n0 z0 pcs) k ls st h (.astore j)) : (am_J p l e R s m args below meth c Qm nL D a0 cA base L0 X0 n0 z0 pcs) k ls st h := by
  rcases hs with ⟨x, st1, rfl, hX⟩ | ⟨st1, rfl, hX⟩
  · intro ad H locs lr cells slots hag hwf hR hS hL hc hz hcap
    refine lv_astore_n F.1 F.2.1 hd ha (am_ll_has hL) hj rfl (fun lr2 hl2 => ?_)
    have hw := hX ad H locs lr2 cells slots hag (am_wf1 hwf.1 (by simpa [am_okv] using hwf.2.1) hwf.2.2) hR hS (am_loc1 hL hl2) hc hz hcap
    rw [hn] at hw
    exact hw
  · intro ad H locs lr cells slots hag hwf hR hS hL hc hz hcap
    refine lv_astore_nN F.1 F.2.1 hd ha (am_ll_has hL) hj rfl (fun lr2 hl2 => ?_)
    have hw := hX ad H locs lr2 cells slots hag (am_wf1 hwf.1 (by simpa [am_okv] using hwf.2.1) hwf.2.2) hR hS (am_loc1 hL hl2) hc hz hcap
    rw [hn] at hw
    exact hw
theorem aj_lstore (F : am_F p s m args c cc nL own Ts D a0 cA base L0 X0) {j : Nat} (hj : j + 1 < nL) (hd : decode cc (pcs k) = .ok (.lstore j, 2)) (hn : pcs (k + 1) = pcs k + 2) (hs : am_step rc na mcT msT cN cZ C Z (am_J p l e R s m args below meth c Qm nL D a0 cA base L0 X0 n0 z0 pcs) k ls st h (.lstore j)) : (am_J p l e R s m args below meth c Qm nL D a0 cA base L0 X0 n0 z0 pcs) k ls st h := by
  obtain ⟨x, st1, rfl, hX⟩ := hs
  intro ad H locs lr cells slots hag hwf hR hS hL hc hz hcap
  refine lv_lstore F.1 F.2.1 hd (am_ll_has hL) hj rfl (fun lr2 hl2 => ?_)
  have hw := hX ad H locs lr2 cells slots hag (am_wf2 hwf.1 (by simpa [am_okv] using hwf.2.1) hwf.2.2) hR hS (am_loc2 hL hl2) hc hz hcap
  rw [hn] at hw
  exact hw
theorem aj_lstoren (F : am_F p s m args c cc nL own Ts D a0 cA base L0 X0) {j : Nat} {a : Fin 4} (ha : (a : Nat) = j) (hj : j + 1 < nL) (hd : decode cc (pcs k) = .ok (.lstore_n a, 1)) (hn : pcs (k + 1) = pcs k + 1) (hs : am_step rc na mcT msT cN cZ C Z (am_J p l e R s m args below meth c Qm nL D a0 cA base L0 X0 n0 z0 pcs) k ls st h (.lstore j)) : (am_J p l e R s m args below meth c Qm nL D a0 cA base L0 X0 n0 z0 pcs) k ls st h := by
  obtain ⟨x, st1, rfl, hX⟩ := hs
  intro ad H locs lr cells slots hag hwf hR hS hL hc hz hcap
  refine lv_lstore_n F.1 F.2.1 hd ha (am_ll_has hL) hj rfl (fun lr2 hl2 => ?_)
  have hw := hX ad H locs lr2 cells slots hag (am_wf2 hwf.1 (by simpa [am_okv] using hwf.2.1) hwf.2.2) hR hS (am_loc2 hL hl2) hc hz hcap
  rw [hn] at hw
  exact hw
theorem aj_iinc (F : am_F p s m args c cc nL own Ts D a0 cA base L0 X0) {j : Nat} {n : Int} (hj : j < nL) (hd : decode cc (pcs k) = .ok (.iinc j n, 3)) (hn : pcs (k + 1) = pcs k + 3) (hs : am_step rc na mcT msT cN cZ C Z (am_J p l e R s m args below meth c Qm nL D a0 cA base L0 X0 n0 z0 pcs) k ls st h (.iinc j n)) : (am_J p l e R s m args below meth c Qm nL D a0 cA base L0 X0 n0 z0 pcs) k ls st h := by
  obtain ⟨x, hx, hX⟩ := hs
  intro ad H locs lr cells slots hag hwf hR hS hL hc hz hcap
  obtain ⟨q, hq⟩ := List.getElem?_of_mem (am_ll_mem (ad := ad) hx)
  refine lv_iinc (k := q) F.1 F.2.1 hd (am_ll_has hL) hq rfl hj rfl (fun lr2 hl2 => ?_)
  have hw := hX ad H locs lr2 cells slots hag (am_wf1 hwf.1 ⟨trivial, hwf.2.1⟩ hwf.2.2) hR hS (am_loc1 hL hl2) hc hz hcap
  rw [hn] at hw
  exact hw
theorem aj_goto (F : am_F p s m args c cc nL own Ts D a0 cA base L0 X0) {t off : Int} (hd : decode cc (pcs k) = .ok (.goto off, 3)) (hn : (pcs k : Int) + off = (pcs t.toNat : Nat)) (hs : am_step rc na mcT msT cN cZ C Z (am_J p l e R s m args below meth c Qm nL D a0 cA base L0 X0 n0 z0 pcs) k ls st h (.goto t)) : (am_J p l e R s m args below meth c Qm nL D a0 cA base L0 X0 n0 z0 pcs) k ls st h := by
  have hX := hs
  intro ad H locs lr cells slots hag hwf hR hS hL hc hz hcap
  exact lv_goto F.1 F.2.1 hd hn (hX ad H locs lr cells slots hag ⟨hwf.1, by simpa [am_okv] using hwf.2.1, hwf.2.2⟩ hR hS hL hc hz hcap)
theorem aj_if_eq (F : am_F p s m args c cc nL own Ts D a0 cA base L0 X0) {t off : Int} (hd : decode cc (pcs k) = .ok (.ifCond .eq off, 3)) (hn : pcs (k + 1) = pcs k + 3) (ht : (pcs k : Int) + off = (pcs t.toNat : Nat)) (hs : am_step rc na mcT msT cN cZ C Z (am_J p l e R s m args below meth c Qm nL D a0 cA base L0 X0 n0 z0 pcs) k ls st h (.ifCond .eq t)) : (am_J p l e R s m args below meth c Qm nL D a0 cA base L0 X0 n0 z0 pcs) k ls st h := by
  obtain ⟨x, st1, rfl, hX, hY⟩ := hs
  intro ad H locs lr cells slots hag hwf hR hS hL hc hz hcap
  refine lv_if_eq F.1 F.2.1 hd ht (fun q => hX q ad H locs lr cells slots hag ⟨hwf.1, by simpa [am_okv] using hwf.2.1, hwf.2.2⟩ hR hS hL hc hz hcap) (fun q => ?_)
  have hw := hY q ad H locs lr cells slots hag ⟨hwf.1, by simpa [am_okv] using hwf.2.1, hwf.2.2⟩ hR hS hL hc hz hcap
  rw [hn] at hw
  exact hw
theorem aj_icmp_eq (F : am_F p s m args c cc nL own Ts D a0 cA base L0 X0) {t off : Int} (hd : decode cc (pcs k) = .ok (.if_icmp .eq off, 3)) (hn : pcs (k + 1) = pcs k + 3) (ht : (pcs k : Int) + off = (pcs t.toNat : Nat)) (hs : am_step rc na mcT msT cN cZ C Z (am_J p l e R s m args below meth c Qm nL D a0 cA base L0 X0 n0 z0 pcs) k ls st h (.if_icmp .eq t)) : (am_J p l e R s m args below meth c Qm nL D a0 cA base L0 X0 n0 z0 pcs) k ls st h := by
  obtain ⟨x, y, st1, rfl, hX, hY⟩ := hs
  intro ad H locs lr cells slots hag hwf hR hS hL hc hz hcap
  refine lv_icmp_eq F.1 F.2.1 hd ht (fun q => hX q ad H locs lr cells slots hag ⟨hwf.1, by simpa [am_okv] using hwf.2.1, hwf.2.2⟩ hR hS hL hc hz hcap) (fun q => ?_)
  have hw := hY q ad H locs lr cells slots hag ⟨hwf.1, by simpa [am_okv] using hwf.2.1, hwf.2.2⟩ hR hS hL hc hz hcap
  rw [hn] at hw
  exact hw
theorem aj_if_ne (F : am_F p s m args c cc nL own Ts D a0 cA base L0 X0) {t off : Int} (hd : decode cc (pcs k) = .ok (.ifCond .ne off, 3)) (hn : pcs (k + 1) = pcs k + 3) (ht : (pcs k : Int) + off = (pcs t.toNat : Nat)) (hs : am_step rc na mcT msT cN cZ C Z (am_J p l e R s m args below meth c Qm nL D a0 cA base L0 X0 n0 z0 pcs) k ls st h (.ifCond .ne t)) : (am_J p l e R s m args below meth c Qm nL D a0 cA base L0 X0 n0 z0 pcs) k ls st h := by
  obtain ⟨x, st1, rfl, hX, hY⟩ := hs
  intro ad H locs lr cells slots hag hwf hR hS hL hc hz hcap
  refine lv_if_ne F.1 F.2.1 hd ht (fun q => hX q ad H locs lr cells slots hag ⟨hwf.1, by simpa [am_okv] using hwf.2.1, hwf.2.2⟩ hR hS hL hc hz hcap) (fun q => ?_)
  have hw := hY (fun hq => hq q) ad H locs lr cells slots hag ⟨hwf.1, by simpa [am_okv] using hwf.2.1, hwf.2.2⟩ hR hS hL hc hz hcap
  rw [hn] at hw
  exact hw
theorem aj_icmp_ne (F : am_F p s m args c cc nL own Ts D a0 cA base L0 X0) {t off : Int} (hd : decode cc (pcs k) = .ok (.if_icmp .ne off, 3)) (hn : pcs (k + 1) = pcs k + 3) (ht : (pcs k : Int) + off = (pcs t.toNat : Nat)) (hs : am_step rc na mcT msT cN cZ C Z (am_J p l e R s m args below meth c Qm nL D a0 cA base L0 X0 n0 z0 pcs) k ls st h (.if_icmp .ne t)) : (am_J p l e R s m args below meth c Qm nL D a0 cA base L0 X0 n0 z0 pcs) k ls st h := by
  obtain ⟨x, y, st1, rfl, hX, hY⟩ := hs
  intro ad H locs lr cells slots hag hwf hR hS hL hc hz hcap
  refine lv_icmp_ne F.1 F.2.1 hd ht (fun q => hX q ad H locs lr cells slots hag ⟨hwf.1, by simpa [am_okv] using hwf.2.1, hwf.2.2⟩ hR hS hL hc hz hcap) (fun q => ?_)
  have hw := hY (fun hq => hq q) ad H locs lr cells slots hag ⟨hwf.1, by simpa [am_okv] using hwf.2.1, hwf.2.2⟩ hR hS hL hc hz hcap
  rw [hn] at hw
  exact hw
theorem aj_if_lt (F : am_F p s m args c cc nL own Ts D a0 cA base L0 X0) {t off : Int} (hd : decode cc (pcs k) = .ok (.ifCond .lt off, 3)) (hn : pcs (k + 1) = pcs k + 3) (ht : (pcs k : Int) + off = (pcs t.toNat : Nat)) (hs : am_step rc na mcT msT cN cZ C Z (am_J p l e R s m args below meth c Qm nL D a0 cA base L0 X0 n0 z0 pcs) k ls st h (.ifCond .lt t)) : (am_J p l e R s m args below meth c Qm nL D a0 cA base L0 X0 n0 z0 pcs) k ls st h := by
  obtain ⟨x, st1, rfl, hX, hY⟩ := hs
  intro ad H locs lr cells slots hag hwf hR hS hL hc hz hcap
  refine lv_if_lt F.1 F.2.1 hd ht (fun q => hX q ad H locs lr cells slots hag ⟨hwf.1, by simpa [am_okv] using hwf.2.1, hwf.2.2⟩ hR hS hL hc hz hcap) (fun q => ?_)
  have hw := hY q ad H locs lr cells slots hag ⟨hwf.1, by simpa [am_okv] using hwf.2.1, hwf.2.2⟩ hR hS hL hc hz hcap
  rw [hn] at hw
  exact hw
theorem aj_icmp_lt (F : am_F p s m args c cc nL own Ts D a0 cA base L0 X0) {t off : Int} (hd : decode cc (pcs k) = .ok (.if_icmp .lt off, 3)) (hn : pcs (k + 1) = pcs k + 3) (ht : (pcs k : Int) + off = (pcs t.toNat : Nat)) (hs : am_step rc na mcT msT cN cZ C Z (am_J p l e R s m args below meth c Qm nL D a0 cA base L0 X0 n0 z0 pcs) k ls st h (.if_icmp .lt t)) : (am_J p l e R s m args below meth c Qm nL D a0 cA base L0 X0 n0 z0 pcs) k ls st h := by
  obtain ⟨x, y, st1, rfl, hX, hY⟩ := hs
  intro ad H locs lr cells slots hag hwf hR hS hL hc hz hcap
  refine lv_icmp_lt F.1 F.2.1 hd ht (fun q => hX q ad H locs lr cells slots hag ⟨hwf.1, by simpa [am_okv] using hwf.2.1, hwf.2.2⟩ hR hS hL hc hz hcap) (fun q => ?_)
  have hw := hY q ad H locs lr cells slots hag ⟨hwf.1, by simpa [am_okv] using hwf.2.1, hwf.2.2⟩ hR hS hL hc hz hcap
  rw [hn] at hw
  exact hw
theorem aj_if_ge (F : am_F p s m args c cc nL own Ts D a0 cA base L0 X0) {t off : Int} (hd : decode cc (pcs k) = .ok (.ifCond .ge off, 3)) (hn : pcs (k + 1) = pcs k + 3) (ht : (pcs k : Int) + off = (pcs t.toNat : Nat)) (hs : am_step rc na mcT msT cN cZ C Z (am_J p l e R s m args below meth c Qm nL D a0 cA base L0 X0 n0 z0 pcs) k ls st h (.ifCond .ge t)) : (am_J p l e R s m args below meth c Qm nL D a0 cA base L0 X0 n0 z0 pcs) k ls st h := by
  obtain ⟨x, st1, rfl, hX, hY⟩ := hs
  intro ad H locs lr cells slots hag hwf hR hS hL hc hz hcap
  refine lv_if_ge F.1 F.2.1 hd ht (fun q => hX q ad H locs lr cells slots hag ⟨hwf.1, by simpa [am_okv] using hwf.2.1, hwf.2.2⟩ hR hS hL hc hz hcap) (fun q => ?_)
  have hw := hY q ad H locs lr cells slots hag ⟨hwf.1, by simpa [am_okv] using hwf.2.1, hwf.2.2⟩ hR hS hL hc hz hcap
  rw [hn] at hw
  exact hw
theorem aj_icmp_ge (F : am_F p s m args c cc nL own Ts D a0 cA base L0 X0) {t off : Int} (hd : decode cc (pcs k) = .ok (.if_icmp .ge off, 3)) (hn : pcs (k + 1) = pcs k + 3) (ht : (pcs k : Int) + off = (pcs t.toNat : Nat)) (hs : am_step rc na mcT msT cN cZ C Z (am_J p l e R s m args below meth c Qm nL D a0 cA base L0 X0 n0 z0 pcs) k ls st h (.if_icmp .ge t)) : (am_J p l e R s m args below meth c Qm nL D a0 cA base L0 X0 n0 z0 pcs) k ls st h := by
  obtain ⟨x, y, st1, rfl, hX, hY⟩ := hs
  intro ad H locs lr cells slots hag hwf hR hS hL hc hz hcap
  refine lv_icmp_ge F.1 F.2.1 hd ht (fun q => hX q ad H locs lr cells slots hag ⟨hwf.1, by simpa [am_okv] using hwf.2.1, hwf.2.2⟩ hR hS hL hc hz hcap) (fun q => ?_)
  have hw := hY q ad H locs lr cells slots hag ⟨hwf.1, by simpa [am_okv] using hwf.2.1, hwf.2.2⟩ hR hS hL hc hz hcap
  rw [hn] at hw
  exact hw
theorem aj_if_gt (F : am_F p s m args c cc nL own Ts D a0 cA base L0 X0) {t off : Int} (hd : decode cc (pcs k) = .ok (.ifCond .gt off, 3)) (hn : pcs (k + 1) = pcs k + 3) (ht : (pcs k : Int) + off = (pcs t.toNat : Nat)) (hs : am_step rc na mcT msT cN cZ C Z (am_J p l e R s m args below meth c Qm nL D a0 cA base L0 X0 n0 z0 pcs) k ls st h (.ifCond .gt t)) : (am_J p l e R s m args below meth c Qm nL D a0 cA base L0 X0 n0 z0 pcs) k ls st h := by
  obtain ⟨x, st1, rfl, hX, hY⟩ := hs
  intro ad H locs lr cells slots hag hwf hR hS hL hc hz hcap
  refine lv_if_gt F.1 F.2.1 hd ht (fun q => hX q ad H locs lr cells slots hag ⟨hwf.1, by simpa [am_okv] using hwf.2.1, hwf.2.2⟩ hR hS hL hc hz hcap) (fun q => ?_)
  have hw := hY q ad H locs lr cells slots hag ⟨hwf.1, by simpa [am_okv] using hwf.2.1, hwf.2.2⟩ hR hS hL hc hz hcap
  rw [hn] at hw
  exact hw
theorem aj_icmp_gt (F : am_F p s m args c cc nL own Ts D a0 cA base L0 X0) {t off : Int} (hd : decode cc (pcs k) = .ok (.if_icmp .gt off, 3)) (hn : pcs (k + 1) = pcs k + 3) (ht : (pcs k : Int) + off = (pcs t.toNat : Nat)) (hs : am_step rc na mcT msT cN cZ C Z (am_J p l e R s m args below meth c Qm nL D a0 cA base L0 X0 n0 z0 pcs) k ls st h (.if_icmp .gt t)) : (am_J p l e R s m args below meth c Qm nL D a0 cA base L0 X0 n0 z0 pcs) k ls st h := by
  obtain ⟨x, y, st1, rfl, hX, hY⟩ := hs
  intro ad H locs lr cells slots hag hwf hR hS hL hc hz hcap
  refine lv_icmp_gt F.1 F.2.1 hd ht (fun q => hX q ad H locs lr cells slots hag ⟨hwf.1, by simpa [am_okv] using hwf.2.1, hwf.2.2⟩ hR hS hL hc hz hcap) (fun q => ?_)
  have hw := hY q ad H locs lr cells slots hag ⟨hwf.1, by simpa [am_okv] using hwf.2.1, hwf.2.2⟩ hR hS hL hc hz hcap
  rw [hn] at hw
  exact hw
theorem aj_if_le (F : am_F p s m args c cc nL own Ts D a0 cA base L0 X0) {t off : Int} (hd : decode cc (pcs k) = .ok (.ifCond .le off, 3)) (hn : pcs (k + 1) = pcs k + 3) (ht : (pcs k : Int) + off = (pcs t.toNat : Nat)) (hs : am_step rc na mcT msT cN cZ C Z (am_J p l e R s m args below meth c Qm nL D a0 cA base L0 X0 n0 z0 pcs) k ls st h (.ifCond .le t)) : (am_J p l e R s m args below meth c Qm nL D a0 cA base L0 X0 n0 z0 pcs) k ls st h := by
  obtain ⟨x, st1, rfl, hX, hY⟩ := hs
  intro ad H locs lr cells slots hag hwf hR hS hL hc hz hcap
  refine lv_if_le F.1 F.2.1 hd ht (fun q => hX q ad H locs lr cells slots hag ⟨hwf.1, by simpa [am_okv] using hwf.2.1, hwf.2.2⟩ hR hS hL hc hz hcap) (fun q => ?_)
  have hw := hY q ad H locs lr cells slots hag ⟨hwf.1, by simpa [am_okv] using hwf.2.1, hwf.2.2⟩ hR hS hL hc hz hcap
  rw [hn] at hw
  exact hw
theorem aj_icmp_le (F : am_F p s m args c cc nL own Ts D a0 cA base L0 X0) {t off : Int} (hd : decode cc (pcs k) = .ok (.if_icmp .le off, 3)) (hn : pcs (k + 1) = pcs k + 3) (ht : (pcs k : Int) + off = (pcs t.toNat : Nat)) (hs : am_step rc na mcT msT cN cZ C Z (am_J p l e R s m args below meth c Qm nL D a0 cA base L0 X0 n0 z0 pcs) k ls st h (.if_icmp .le t)) : (am_J p l e R s m args below meth c Qm nL D a0 cA base L0 X0 n0 z0 pcs) k ls st h := by
  obtain ⟨x, y, st1, rfl, hX, hY⟩ := hs
  intro ad H locs lr cells slots hag hwf hR hS hL hc hz hcap
  refine lv_icmp_le F.1 F.2.1 hd ht (fun q => hX q ad H locs lr cells slots hag ⟨hwf.1, by simpa [am_okv] using hwf.2.1, hwf.2.2⟩ hR hS hL hc hz hcap) (fun q => ?_)
  have hw := hY q ad H locs lr cells slots hag ⟨hwf.1, by simpa [am_okv] using hwf.2.1, hwf.2.2⟩ hR hS hL hc hz hcap
  rw [hn] at hw
  exact hw
theorem aj_ifnull (F : am_F p s m args c cc nL own Ts D a0 cA base L0 X0) {t off : Int} (hd : decode cc (pcs k) = .ok (.ifnull off, 3)) (hn : pcs (k + 1) = pcs k + 3) (ht : (pcs k : Int) + off = (pcs t.toNat : Nat)) (hs : am_step rc na mcT msT cN cZ C Z (am_J p l e R s m args below meth c Qm nL D a0 cA base L0 X0 n0 z0 pcs) k ls st h (.ifnull t)) : (am_J p l e R s m args below meth c Qm nL D a0 cA base L0 X0 n0 z0 pcs) k ls st h := by
  rcases hs with ⟨x, st1, rfl, hX⟩ | ⟨st1, rfl, hX⟩
  · intro ad H locs lr cells slots hag hwf hR hS hL hc hz hcap
    have hw := hX ad H locs lr cells slots hag (am_wfs hwf (fun x q => List.mem_cons_of_mem _ q)) hR hS hL hc hz hcap
    rw [hn] at hw
    exact lv_ifnull F.1 F.2.1 hd hw
  · intro ad H locs lr cells slots hag hwf hR hS hL hc hz hcap
    exact lv_ifnullN F.1 F.2.1 hd ht (hX ad H locs lr cells slots hag (am_wfs hwf (fun x q => List.mem_cons_of_mem _ q)) hR hS hL hc hz hcap)
theorem aj_ifnonnull (F : am_F p s m args c cc nL own Ts D a0 cA base L0 X0) {t off : Int} (hd : decode cc (pcs k) = .ok (.ifnonnull off, 3)) (hn : pcs (k + 1) = pcs k + 3) (ht : (pcs k : Int) + off = (pcs t.toNat : Nat)) (hs : am_step rc na mcT msT cN cZ C Z (am_J p l e R s m args below meth c Qm nL D a0 cA base L0 X0 n0 z0 pcs) k ls st h (.ifnonnull t)) : (am_J p l e R s m args below meth c Qm nL D a0 cA base L0 X0 n0 z0 pcs) k ls st h := by
  rcases hs with ⟨x, st1, rfl, hX⟩ | ⟨st1, rfl, hX⟩
  · intro ad H locs lr cells slots hag hwf hR hS hL hc hz hcap
    exact lv_ifnonnull F.1 F.2.1 hd ht (hX ad H locs lr cells slots hag (am_wfs hwf (fun x q => List.mem_cons_of_mem _ q)) hR hS hL hc hz hcap)
  · intro ad H locs lr cells slots hag hwf hR hS hL hc hz hcap
    have hw := hX ad H locs lr cells slots hag (am_wfs hwf (fun x q => List.mem_cons_of_mem _ q)) hR hS hL hc hz hcap
    rw [hn] at hw
    exact lv_ifnonnullN F.1 F.2.1 hd hw
end AMB
