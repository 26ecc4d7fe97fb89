section AME
variable {p : Program} {l : Launch} {e : Env} {R : Room} {s : State} {m : MethodId} {args : Array Value} {below : List Frame} {meth : Method} {c : Code} {Qm : State → Prop} {cc : ByteArray} {nL : Nat} {own : String} {Ts : List Cond} {D : va_G} {a0 : Nat → Nat} {cA : Nat → ClassId} {base : Nat} {L0 : Nat → Nat} {X0 : Nat → Nat → Int32} {n0 z0 : Nat} {pcs : Nat → Nat} {rc na mcT msT : Nat → Nat} {cN cZ : Nat} {C : am_C} {Z : am_Q} {k : Nat} {ls : List (Option Value)} {st : List Value} {h : am_H}
variable {ad : Nat → Nat} {H : Heap}
theorem aj_newq (F : am_F p s m args c cc nL own Ts D a0 cA base L0 X0) {idx : Nat} (hlk : .classLink own idx RX0 ∈ am_tbl) (hcN : cN = n0 + R.cells) (hcZ : cZ = z0 + R.slots) (hd : decode cc (pcs k) = .ok (.anewarray idx, 3)) (hn : pcs (k + 1) = pcs k + 3) (hs : am_step rc na mcT msT cN cZ C Z (am_J p l e R s m args below meth c Qm nL D a0 cA base L0 X0 n0 z0 pcs) k ls st h (.anewarray 54)) : (am_J p l e R s m args below meth c Qm nL D a0 cA base L0 X0 n0 z0 pcs) k ls st h := by
  obtain ⟨i, st1, rfl, hi, hi2, hr1, hr2, hX⟩ := hs
  intro ad H locs lr cells slots hag hwf hR hS hL hc hz hcap
  have W0 : ∀ w, w ∈ am_tbl → w.before args s = true := fun w hw => F.2.2.2.2.1 _ (F.2.2.2.2.2.1 _ hw)
  refine va_newq F.1 F.2.1 F.2.2.2.1 (W0 _ hlk) F.2.2.2.2.2.2.2.2.2.2.2.1 F.2.2.2.2.2.2.1 hR.1 hR.2.1 hS (fun q2 h2 => Nat.le_trans F.2.2.2.2.2.2.2.2.1 h2) hi rfl (by omega) (by omega) (by omega) hd (fun q1 cA1 H1 hK1 hP1 hD1 hS1 => ?_)
  have hcA : cA1 = cA 54 := by
    have h5 := F.2.2.2.2.2.2.2.2.2.2.1 4 (by omega)
    have h6 := (hK1.2 5 (cA1, .object RX0) rfl).2
    obtain ⟨kA, comp, -, -, -, h7⟩ := h6
    exact Option.some.inj (h7.symm.trans h5)
  subst hcA
  have he : am_el (va_up ad h.1.length q1) cA (am_nh h (54, i.toNatClampNeg)) h.1.length = .inl (cA 54, i.toNatClampNeg, .inr (.inr (.inr (.inr (fun _ => none))))) := by
    rw [am_el_54 (h := am_nh h (54, i.toNatClampNeg)) (n := i.toNatClampNeg) (by show (h.1 ++ [_])[h.1.length]? = _; simp)]
    unfold am_nh
    simp only [am_up_eq]
    rfl
  have ha : ∀ i, i < h.1.length → va_up ad h.1.length q1 i = ad i := fun i hi => am_up_ne (by omega)
  have hlen : (am_nh h (54, i.toNatClampNeg)).1.length = h.1.length + 1 := by simp [am_nh]
  have hsl : am_sl (am_nh h (54, i.toNatClampNeg)).1 = am_sl h.1 + i.toNatClampNeg := by simp [am_nh, am_sl]
  have hw := hX (va_up ad h.1.length q1) H1 locs lr (cells + 1) (slots + i.toNatClampNeg) (fun j hj => by rw [ha j (by omega)]; exact hag j hj) (am_nh_wf ⟨hwf.1, am_tl hwf.2.1, hwf.2.2⟩) (am_nh_rel hwf.2.2 hR (fun h9 => absurd (show (54 : Nat) < 50 from h9) (by decide)) he hP1 hD1) hS1 (am_loc_new ha hwf.1 hL) (by show cells + 1 + n0 = (am_nh h (54, i.toNatClampNeg)).1.length; rw [hlen]; omega) (by show slots + i.toNatClampNeg + z0 = am_sl (am_nh h (54, i.toNatClampNeg)).1; rw [hsl]; omega) (by show (am_nh h (54, i.toNatClampNeg)).1.length ≤ _ ∧ am_sl (am_nh h (54, i.toNatClampNeg)).1 ≤ _; rw [hlen, hsl]; omega)
  rw [hn] at hw
  have e9 : List.map (am_vv (va_up ad h.1.length q1)) (.ref h.1.length :: st1) = .ref q1 :: st1.map (am_vv ad) := by
    rw [List.map_cons, am_st_new ha (am_tl hwf.2.1)]
    show Value.ref (va_up ad h.1.length q1 h.1.length) :: _ = _
    rw [am_up_eq]
  rw [e9] at hw
  exact hw
def am_tsw (pcs : Nat → Nat) (k : Nat) : Int → List Int → List (Int × Int) → Prop
  | _, [], [] => True
  | v, o :: os, (a, t) :: ps => a = v ∧ (pcs k : Int) + o = (pcs t.toNat : Nat) ∧ am_tsw pcs k (v + 1) os ps
  | _, _, _ => False
theorem am_i32 {x : Int32} {a : Int} (h1 : -2147483648 ≤ a) (h2 : a < 2147483648) : x = Int32.ofInt a ↔ x.toInt = a := by
  constructor
  · rintro rfl
    rw [Int32.toInt_ofInt]
    have hsz : Int32.size = 4294967296 := rfl
    exact Int.bmod_eq_of_le (by omega) (by omega)
  · intro h
    rw [← h, Int32.ofInt_toInt]
theorem am_tsw_at {pcs : Nat → Nat} {k : Nat} {d : Int} {x : Int32} : ∀ (os : List Int) (ps : List (Int × Int)) (v : Int), am_tsw pcs k v os ps → -2147483648 ≤ v → v + os.length ≤ 2147483648 →
    (x.toInt < v ∨ v + os.length ≤ x.toInt → am_sw d x ps = d) ∧ (v ≤ x.toInt → x.toInt < v + os.length → ∃ o, os[(x.toInt - v).toNat]? = some o ∧ (pcs k : Int) + o = (pcs (am_sw d x ps).toNat : Nat))
  | [], [], v, _, _, _ => ⟨fun _ => rfl, fun h1 h2 => by simp at h2; omega⟩
  | [], _ :: _, v, h, _, _ => by simp [am_tsw] at h
  | _ :: _, [], v, h, _, _ => by simp [am_tsw] at h
  | o :: os, (a, t) :: ps, v, h, h1, h2 => by
    obtain ⟨rfl, h4, h5⟩ := h
    simp only [List.length_cons] at h2 ⊢
    obtain ⟨g1, g2⟩ := am_tsw_at (d := d) (x := x) os ps (a + 1) h5 (by omega) (by omega)
    unfold am_sw
    refine ⟨fun hx => ?_, fun hx hy => ?_⟩
    · rw [if_neg (by rw [am_i32 (by omega) (by omega)]; omega)]
      exact g1 (by omega)
    · by_cases hxa : x.toInt = a
      · rw [if_pos (by rw [am_i32 (by omega) (by omega)]; omega)]
        exact ⟨o, by rw [hxa]; simp, h4⟩
      · rw [if_neg (by rw [am_i32 (by omega) (by omega)]; omega)]
        obtain ⟨o2, e1, e2⟩ := g2 (by omega) (by omega)
        refine ⟨o2, ?_, e2⟩
        rw [show (x.toInt - a).toNat = (x.toInt - (a + 1)).toNat + 1 by omega, List.getElem?_cons_succ]
        exact e1
theorem aj_tsw (F : am_F p s m args c cc nL own Ts D a0 cA base L0 X0) {d dd lo hi : Int} {offs : Array Int} {ps : Array (Int × Int)} {len : Nat} (h1 : -2147483648 ≤ lo) (h2 : hi + 1 = lo + offs.toList.length) (h3 : hi < 2147483648) (hsw : am_tsw pcs k lo offs.toList ps.toList) (hdd : (pcs k : Int) + dd = (pcs d.toNat : Nat)) (hd : decode cc (pcs k) = .ok (.tableswitch dd lo hi offs, len)) (hs : am_step rc na mcT msT cN cZ C Z (am_J p l e R s m args below meth c Qm nL D a0 cA base L0 X0 n0 z0 pcs) k ls st h (.lookupswitch d ps)) : (am_J p l e R s m args below meth c Qm nL D a0 cA base L0 X0 n0 z0 pcs) k ls st h := by
  obtain ⟨x, st1, rfl, hX⟩ := hs
  intro ad H locs lr cells slots hag hwf hR hS hL hc hz hcap
  have hw := hX ad H locs lr cells slots hag ⟨hwf.1, am_tl hwf.2.1, hwf.2.2⟩ hR hS hL hc hz hcap
  obtain ⟨g1, g2⟩ := am_tsw_at (d := d) (x := x) offs.toList ps.toList lo hsw h1 (by omega)
  by_cases hx : x.toInt < lo ∨ hi < x.toInt
  · rw [g1 (by omega)] at hw
    exact lv_tableOut F.1 F.2.1 hd hx hdd hw
  · obtain ⟨o, e1, e2⟩ := g2 (by omega) (by omega)
    exact lv_tableIn F.1 F.2.1 hd (by omega) (by omega) (by rw [← Array.getElem?_toList]; exact e1) e2 hw
def am_lsw (pcs : Nat → Nat) (k : Nat) : List (Int × Int) → List (Int × Int) → Prop
  | [], [] => True
  | (b, o) :: os, (a, t) :: ps => a = b ∧ -2147483648 ≤ a ∧ a < 2147483648 ∧ (pcs k : Int) + o = (pcs t.toNat : Nat) ∧ am_lsw pcs k os ps
  | _, _ => False
theorem am_lsw_at {pcs : Nat → Nat} {k : Nat} {d dd : Int} {x : Int32} (hdd : (pcs k : Int) + dd = (pcs d.toNat : Nat)) : ∀ (os ps : List (Int × Int)), am_lsw pcs k os ps → (pcs k : Int) + Op.lookupswitch.offset os dd x.toInt = (pcs (am_sw d x ps).toNat : Nat)
  | [], [], _ => hdd
  | [], _ :: _, h => by simp [am_lsw] at h
  | _ :: _, [], h => by simp [am_lsw] at h
  | (b, o) :: os, (a, t) :: ps, h => by
    obtain ⟨rfl, h1, h2, h4, h5⟩ := h
    unfold am_sw
    rw [Op.lookupswitch.offset_cons]
    by_cases hxa : x.toInt = a
    · rw [if_pos hxa.symm, if_pos ((am_i32 h1 h2).mpr hxa)]
      exact h4
    · rw [if_neg (fun z => hxa z.symm), if_neg (fun z => hxa ((am_i32 h1 h2).mp z))]
      exact am_lsw_at hdd os ps h5
theorem aj_lsw (F : am_F p s m args c cc nL own Ts D a0 cA base L0 X0) {d dd : Int} {qs : Array (Int × Int)} {ps : Array (Int × Int)} {len : Nat} (hp : (qs.toList.zip (qs.toList.drop 1)).all (fun (a, next) => a.1 < next.1) = true) (hsw : am_lsw pcs k qs.toList ps.toList) (hdd : (pcs k : Int) + dd = (pcs d.toNat : Nat)) (hd : decode cc (pcs k) = .ok (.lookupswitch dd qs, len)) (hs : am_step rc na mcT msT cN cZ C Z (am_J p l e R s m args below meth c Qm nL D a0 cA base L0 X0 n0 z0 pcs) k ls st h (.lookupswitch d ps)) : (am_J p l e R s m args below meth c Qm nL D a0 cA base L0 X0 n0 z0 pcs) k ls st h := by
  obtain ⟨x, st1, rfl, hX⟩ := hs
  intro ad H locs lr cells slots hag hwf hR hS hL hc hz hcap
  have hw := hX ad H locs lr cells slots hag ⟨hwf.1, am_tl hwf.2.1, hwf.2.2⟩ hR hS hL hc hz hcap
  exact lv_lookup F.1 F.2.1 hd hp rfl (am_lsw_at hdd qs.toList ps.toList hsw) hw
theorem aj_mm0 (F : am_F p s m args c cc nL own Ts D a0 cA base L0 X0) {idx a : Nat} (hfr : 1 ≤ R.frames) (hlo : 23 ≤ R.locals) (hlk : .methodLink own idx Lib.Math.max.name ∈ am_tbl) (hst : .static Lib.Math.max.name ∈ am_tbl) (hii : .initialized "java/lang/Math" ∈ am_tbl) (hco : .code Lib.Math.max.name Lib.Math.max.code 2 (some .int) ∈ am_tbl) (hd : decode cc (pcs k) = .ok (.invokestatic idx, 3)) (hn : pcs (k + 1) = pcs k + 3) (hs : am_step rc na mcT msT cN cZ C Z (am_J p l e R s m args below meth c Qm nL D a0 cA base L0 X0 n0 z0 pcs) k ls st h (.invokeinterface 0 a)) : (am_J p l e R s m args below meth c Qm nL D a0 cA base L0 X0 n0 z0 pcs) k ls st h := by
  obtain ⟨x, y, st1, rfl, hct, hX⟩ := hs
  intro ad H locs lr cells slots hag hwf hR hS hL hc hz hcap
  have hw := hX ad H locs lr cells slots hag ⟨hwf.1, am_okc trivial (am_tl (am_tl hwf.2.1)), hwf.2.2⟩ hR hS hL hc hz hcap
  rw [hn] at hw
  have W0 : ∀ w, w ∈ am_tbl → w.before args s = true := fun w hw => F.2.2.2.2.1 _ (F.2.2.2.2.2.1 _ hw)
  exact va_mmax F.1 F.2.1 (by rw [F.2.2.1]; exact hL.1.symm) F.2.2.2.1 (W0 _ hlk) (W0 _ hst) (W0 _ hii) (W0 _ hco) hfr (by rw [am_cat_map]; omega) (by omega) (by omega) hd hw
theorem aj_mm1 (F : am_F p s m args c cc nL own Ts D a0 cA base L0 X0) {idx a : Nat} (hfr : 1 ≤ R.frames) (hlo : 23 ≤ R.locals) (hlk : .methodLink own idx Lib.Math.min.name ∈ am_tbl) (hst : .static Lib.Math.min.name ∈ am_tbl) (hii : .initialized "java/lang/Math" ∈ am_tbl) (hco : .code Lib.Math.min.name Lib.Math.min.code 2 (some .int) ∈ am_tbl) (hd : decode cc (pcs k) = .ok (.invokestatic idx, 3)) (hn : pcs (k + 1) = pcs k + 3) (hs : am_step rc na mcT msT cN cZ C Z (am_J p l e R s m args below meth c Qm nL D a0 cA base L0 X0 n0 z0 pcs) k ls st h (.invokeinterface 1 a)) : (am_J p l e R s m args below meth c Qm nL D a0 cA base L0 X0 n0 z0 pcs) k ls st h := by
  obtain ⟨x, y, st1, rfl, hct, hX⟩ := hs
  intro ad H locs lr cells slots hag hwf hR hS hL hc hz hcap
  have hw := hX ad H locs lr cells slots hag ⟨hwf.1, am_okc trivial (am_tl (am_tl hwf.2.1)), hwf.2.2⟩ hR hS hL hc hz hcap
  rw [hn] at hw
  have W0 : ∀ w, w ∈ am_tbl → w.before args s = true := fun w hw => F.2.2.2.2.1 _ (F.2.2.2.2.2.1 _ hw)
  exact va_mmin F.1 F.2.1 (by rw [F.2.2.1]; exact hL.1.symm) F.2.2.2.1 (W0 _ hlk) (W0 _ hst) (W0 _ hii) (W0 _ hco) hfr (by rw [am_cat_map]; omega) (by omega) (by omega) hd hw
theorem aj_mm2 (F : am_F p s m args c cc nL own Ts D a0 cA base L0 X0) {idx a : Nat} (hfr : 1 ≤ R.frames) (hlo : 23 ≤ R.locals) (hlk : .methodLink own idx Lib.MathLoose.max_long.x ∈ am_tbl) (hst : .static Lib.MathLoose.max_long.x ∈ am_tbl) (hii : .initialized "java/lang/Math" ∈ am_tbl) (hco : .code Lib.MathLoose.max_long.x Lib.MathLoose.max_long.code 4 (some .long) ∈ am_tbl) (hd : decode cc (pcs k) = .ok (.invokestatic idx, 3)) (hn : pcs (k + 1) = pcs k + 3) (hs : am_step rc na mcT msT cN cZ C Z (am_J p l e R s m args below meth c Qm nL D a0 cA base L0 X0 n0 z0 pcs) k ls st h (.invokeinterface 2 a)) : (am_J p l e R s m args below meth c Qm nL D a0 cA base L0 X0 n0 z0 pcs) k ls st h := by
  obtain ⟨x, y, st1, rfl, hct, hX⟩ := hs
  intro ad H locs lr cells slots hag hwf hR hS hL hc hz hcap
  have hw := hX ad H locs lr cells slots hag ⟨hwf.1, am_okc trivial (am_tl (am_tl hwf.2.1)), hwf.2.2⟩ hR hS hL hc hz hcap
  rw [hn] at hw
  have W0 : ∀ w, w ∈ am_tbl → w.before args s = true := fun w hw => F.2.2.2.2.1 _ (F.2.2.2.2.2.1 _ hw)
  exact va_mmax_long F.1 F.2.1 (by rw [F.2.2.1]; exact hL.1.symm) F.2.2.2.1 (W0 _ hlk) (W0 _ hst) (W0 _ hii) (W0 _ hco) hfr (by rw [am_cat_map]; omega) (by omega) (by omega) hd hw
theorem aj_mm3 (F : am_F p s m args c cc nL own Ts D a0 cA base L0 X0) {idx a : Nat} (hfr : 1 ≤ R.frames) (hlo : 23 ≤ R.locals) (hlk : .methodLink own idx Lib.MathLoose.min_long.x ∈ am_tbl) (hst : .static Lib.MathLoose.min_long.x ∈ am_tbl) (hii : .initialized "java/lang/Math" ∈ am_tbl) (hco : .code Lib.MathLoose.min_long.x Lib.MathLoose.min_long.code 4 (some .long) ∈ am_tbl) (hd : decode cc (pcs k) = .ok (.invokestatic idx, 3)) (hn : pcs (k + 1) = pcs k + 3) (hs : am_step rc na mcT msT cN cZ C Z (am_J p l e R s m args below meth c Qm nL D a0 cA base L0 X0 n0 z0 pcs) k ls st h (.invokeinterface 3 a)) : (am_J p l e R s m args below meth c Qm nL D a0 cA base L0 X0 n0 z0 pcs) k ls st h := by
  obtain ⟨x, y, st1, rfl, hct, hX⟩ := hs
  intro ad H locs lr cells slots hag hwf hR hS hL hc hz hcap
  have hw := hX ad H locs lr cells slots hag ⟨hwf.1, am_okc trivial (am_tl (am_tl hwf.2.1)), hwf.2.2⟩ hR hS hL hc hz hcap
  rw [hn] at hw
  have W0 : ∀ w, w ∈ am_tbl → w.before args s = true := fun w hw => F.2.2.2.2.1 _ (F.2.2.2.2.2.1 _ hw)
  exact va_mmin_long F.1 F.2.1 (by rw [F.2.2.1]; exact hL.1.symm) F.2.2.2.1 (W0 _ hlk) (W0 _ hst) (W0 _ hii) (W0 _ hco) hfr (by rw [am_cat_map]; omega) (by omega) (by omega) hd hw
theorem aj_objInit (F : am_F p s m args c cc nL own Ts D a0 cA base L0 X0) {idx : Nat} (hfr : 1 ≤ R.frames) (hlo : 20 ≤ R.locals) (hlk : .methodLink own idx Lib.objectInit ∈ am_tbl) (hst : .instanceMethod Lib.objectInit ∈ am_tbl) (hco : .code Lib.objectInit ⟨#[0xb1]⟩ 1 none ∈ am_tbl) (hd : decode cc (pcs k) = .ok (.invokespecial idx, 3)) (hn : pcs (k + 1) = pcs k + 3) (hs : am_step rc na mcT msT cN cZ C Z (am_J p l e R s m args below meth c Qm nL D a0 cA base L0 X0 n0 z0 pcs) k ls st h .monitorexit) : (am_J p l e R s m args below meth c Qm nL D a0 cA base L0 X0 n0 z0 pcs) k ls st h := by
  obtain ⟨p1, st1, rfl, hct, hX⟩ := hs
  intro ad H locs lr cells slots hag hwf hR hS hL hc hz hcap
  have hw := hX ad H locs lr cells slots hag ⟨hwf.1, am_tl hwf.2.1, hwf.2.2⟩ hR hS hL hc hz hcap
  rw [hn] at hw
  have W0 : ∀ w, w ∈ am_tbl → w.before args s = true := fun w hw => F.2.2.2.2.1 _ (F.2.2.2.2.2.1 _ hw)
  exact W.objInit F.1 F.2.1 F.2.2.2.1 (W0 _ hlk) (W0 _ hst) (W0 _ hco) rfl (by rw [F.2.2.1]; exact hL.1) rfl hd hfr (by show 2 * 0 + _ + 12 ≤ _; rw [am_cat_map]; omega) hw
theorem aj_copyb (F : am_F p s m args c cc nL own Ts D a0 cA base L0 X0) {idx : Nat} (hfr : 1 ≤ R.frames) (hlo : 8 + (nativeFrameWords "java/lang/System" "arraycopy" 5 + 11) ≤ R.locals) (hlk : .methodLink own idx arraycopyName ∈ am_tbl) (hna : .native arraycopyName ∈ am_tbl) (hst : .static arraycopyName ∈ am_tbl) (hii : .initialized "java/lang/System" ∈ am_tbl) (hd : decode cc (pcs k) = .ok (.invokestatic idx, 3)) (hn : pcs (k + 1) = pcs k + 3) (hs : am_step rc na mcT msT cN cZ C Z (am_J p l e R s m args below meth c Qm nL D a0 cA base L0 X0 n0 z0 pcs) k ls st h (.invokedynamic 0)) : (am_J p l e R s m args below meth c Qm nL D a0 cA base L0 X0 n0 z0 pcs) k ls st h := by
  obtain ⟨a, b, n1, n2, sp, dp, n, st1, rfl, hct, ha, hb, i1, i2, i3, i4, i5, hfit, hX⟩ := hs
  intro ad H locs lr cells slots hag hwf hR hS hL hc hz hcap
  have W0 : ∀ w, w ∈ am_tbl → w.before args s = true := fun w hw => F.2.2.2.2.1 _ (F.2.2.2.2.2.1 _ hw)
  have h4 := am_pl hR ha (by omega)
  have h5 := am_pl hR hb (by omega)
  have wa := am_ws_at (ad := ad) (cA := cA) h4 (am_lt ha)
  rw [am_el_arr ha (by omega) (by omega) (by omega)] at wa
  have wb := am_ws_at (ad := ad) (cA := cA) h5 (am_lt hb)
  rw [am_el_arr hb (by omega) (by omega) (by omega)] at wb
  refine va_copyi (ty := .byte) F.1 F.2.1 (by rw [F.2.2.1]; exact hL.1.symm) F.2.2.2.1 (W0 _ hlk) (W0 _ hna) (W0 _ hst) (W0 _ hii) F.2.2.2.2.2.2.1 hR.1 hR.2.1 hS (a - 4) (b - 4) 2 2 wa wb rfl rfl rfl i1 i2 i3 i4 i5 hfit hfr (by rw [am_cat_map]; omega) hd (fun H1 locs1 hP1 hD1 hS1 => ?_)
  have hw := hX ad H1 locs1 lr cells slots hag ⟨hwf.1, am_tl (am_tl (am_tl (am_tl (am_tl hwf.2.1)))), hwf.2.2⟩ (am_rel_set (p := b) hR h5 (am_lt hb) rfl ?_ (fun z hz => am_el_oI (am_up_ne hz)) (fun j hj => am_up_ne (by omega)) hP1 hD1) hS1 hL hc hz hcap
  · rw [hn] at hw
    exact hw
  · rw [am_el_arr (h := (h.1, va_up h.2.1 b _, h.2.2)) hb (by omega) (by omega) (by omega)]
    dsimp only
    rw [am_up_eq]
theorem aj_copyi (F : am_F p s m args c cc nL own Ts D a0 cA base L0 X0) (h4n : 4 ≤ n0) {idx : Nat} (hfr : 1 ≤ R.frames) (hlo : 8 + (nativeFrameWords "java/lang/System" "arraycopy" 5 + 11) ≤ R.locals) (hlk : .methodLink own idx arraycopyName ∈ am_tbl) (hna : .native arraycopyName ∈ am_tbl) (hst : .static arraycopyName ∈ am_tbl) (hii : .initialized "java/lang/System" ∈ am_tbl) (hd : decode cc (pcs k) = .ok (.invokestatic idx, 3)) (hn : pcs (k + 1) = pcs k + 3) (hs : am_step rc na mcT msT cN cZ C Z (am_J p l e R s m args below meth c Qm nL D a0 cA base L0 X0 n0 z0 pcs) k ls st h (.invokedynamic 1)) : (am_J p l e R s m args below meth c Qm nL D a0 cA base L0 X0 n0 z0 pcs) k ls st h := by
  obtain ⟨a, b, n1, n2, sp, dp, n, st1, rfl, hct, ha4, hb4, ha, hb, i1, i2, i3, i4, i5, hX⟩ := hs
  intro ad H locs lr cells slots hag hwf hR hS hL hc hz hcap
  have W0 : ∀ w, w ∈ am_tbl → w.before args s = true := fun w hw => F.2.2.2.2.1 _ (F.2.2.2.2.2.1 _ hw)
  have ha4 : @LT.lt Nat instLTNat a 4 := ha4
  have h5 : @LE.le Nat instLENat 4 b := hb4
  have wb := am_ws_at (ad := ad) (cA := cA) h5 (am_lt hb)
  rw [am_el_arr hb (by omega) (by omega) (by omega)] at wb
  obtain ⟨e1, e2⟩ := hR.2.2.2.1 a ha4
  rw [ha] at e1
  cases e1
  obtain ⟨x1, x2⟩ := F.2.2.2.2.2.2.2.1 a ha4
  have e3 : ad a = a0 a := hag a (by omega)
  show W p l e R s m args below meth c H locs cells slots Qm (F0 m (pcs k) lr (.int n :: .int dp :: .ref (ad b) :: .int sp :: .ref (ad a) :: st1.map (am_vv ad)))
  rw [e3]
  refine va_copyx F.1 F.2.1 (by rw [F.2.2.1]; exact hL.1.symm) F.2.2.2.1 (W0 _ hlk) (W0 _ hna) (W0 _ hst) (W0 _ hii) F.2.2.2.2.2.2.1 hR.1 hR.2.1 hS x1 (Nat.lt_of_lt_of_le x2 F.2.2.2.2.2.2.2.2.1) (by omega) (b - 4) 0 wb rfl i1 i2 i3 i4 i5 hfr (by rw [am_cat_map]; omega) hd (fun H1 locs1 hP1 hD1 hS1 => ?_)
  have hw := hX ad H1 locs1 lr cells slots hag ⟨hwf.1, am_tl (am_tl (am_tl (am_tl (am_tl hwf.2.1)))), hwf.2.2⟩ (am_rel_set (p := b) hR h5 (am_lt hb) rfl ?_ (fun z hz => am_el_oI (am_up_ne hz)) (fun j hj => am_up_ne (by omega)) hP1 hD1) hS1 hL hc hz hcap
  · rw [hn] at hw
    exact hw
  · rw [am_el_arr (h := (h.1, va_up h.2.1 b _, h.2.2)) hb (by omega) (by omega) (by omega)]
    dsimp only
    rw [am_up_eq, e2]
end AME
