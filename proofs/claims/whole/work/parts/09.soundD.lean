section AMD
variable {p : Program} {l : Launch} {e : Env} {R : Room} {s : State} {m : MethodId} {args : Array Value} {below : List Frame} {meth : Method} {c : Code} {Qm : State → Prop} {cc : ByteArray} {nL : Nat} {own : String} {Ts : List Cond} {D : va_G} {a0 : Nat → Nat} {cA : Nat → ClassId} {base : Nat} {L0 : Nat → Nat} {X0 : Nat → Nat → Int32} {n0 z0 : Nat} {pcs : Nat → Nat} {rc na mcT msT : Nat → Nat} {cN cZ : Nat} {C : am_C} {Z : am_Q} {k : Nat} {ls : List (Option Value)} {st : List Value} {h : am_H}
variable {ad : Nat → Nat} {H : Heap}
theorem am_wfA {ls : List (Option Value)} {st : List Value} {h : am_H} {p1 j r : Nat} {w w2 : Value} (hwf : am_wf ls (.ref r :: w :: w2 :: st) h) : am_wf ls st (h.1, h.2.1, h.2.2.1, am_u h.2.2.2 p1 j (some r)) :=
  am_wfR (r := some r) (w := w) ⟨hwf.1, am_okc (hwf.2.1 _ List.mem_cons_self) (am_okc (hwf.2.1 w (List.mem_cons_of_mem _ List.mem_cons_self)) (am_tl (am_tl (am_tl hwf.2.1)))), hwf.2.2⟩
theorem aj_iaload (F : am_F p s m args c cc nL own Ts D a0 cA base L0 X0) (h4n : 4 ≤ n0) (hd : decode cc (pcs k) = .ok (.iaload, 1)) (hn : pcs (k + 1) = pcs k + 1) (hs : am_step rc na mcT msT cN cZ C Z (am_J p l e R s m args below meth c Qm nL D a0 cA base L0 X0 n0 z0 pcs) k ls st h .iaload) : (am_J p l e R s m args below meth c Qm nL D a0 cA base L0 X0 n0 z0 pcs) k ls st h := by
  obtain ⟨p1, n, i, st1, rfl, hp, hi, hX⟩ := hs
  intro ad H locs lr cells slots hag hwf hR hS hL hc hz hcap
  have hw := hX ad H locs lr cells slots hag ⟨hwf.1, am_okc trivial (am_tl (am_tl hwf.2.1)), hwf.2.2⟩ hR hS hL hc hz hcap
  rw [hn] at hw
  rcases Nat.lt_or_ge p1 4 with q | q
  · obtain ⟨e1, e2⟩ := hR.2.2.2.1 p1 q
    rw [hp] at e1
    cases e1
    obtain ⟨x1, x2⟩ := F.2.2.2.2.2.2.2.1 p1 q
    rw [e2] at hw
    have e3 : ad p1 = a0 p1 := hag p1 (by omega)
    show W p l e R s m args below meth c H locs cells slots Qm (F0 m (pcs k) lr (.int i :: .ref (ad p1) :: st1.map (am_vv ad)))
    rw [e3]
    exact va_sld F.1 F.2.1 x1 (Nat.lt_of_lt_of_le x2 F.2.2.2.2.2.2.2.2.1) (by omega) hS hi hd hw
  · have hw' := am_ws_at (ad := ad) (cA := cA) q (am_lt hp)
    rw [am_el_arr hp (by omega) (by omega) (by omega)] at hw'
    exact va_iald F.1 F.2.1 F.2.2.2.2.2.2.1 hR.1 (p1 - 4) 0 hw' rfl hi hd hw
theorem aj_baload (F : am_F p s m args c cc nL own Ts D a0 cA base L0 X0) (hd : decode cc (pcs k) = .ok (.baload, 1)) (hn : pcs (k + 1) = pcs k + 1) (hs : am_step rc na mcT msT cN cZ C Z (am_J p l e R s m args below meth c Qm nL D a0 cA base L0 X0 n0 z0 pcs) k ls st h .baload) : (am_J p l e R s m args below meth c Qm nL D a0 cA base L0 X0 n0 z0 pcs) k ls st h := by
  obtain ⟨p1, n, i, st1, rfl, hp, hi, hX⟩ := hs
  intro ad H locs lr cells slots hag hwf hR hS hL hc hz hcap
  have hw := hX ad H locs lr cells slots hag ⟨hwf.1, am_okc trivial (am_tl (am_tl hwf.2.1)), hwf.2.2⟩ hR hS hL hc hz hcap
  rw [hn] at hw
  have hw' := am_ws_at (ad := ad) (cA := cA) (am_pl hR hp (by omega)) (am_lt hp)
  rw [am_el_arr hp (by omega) (by omega) (by omega)] at hw'
  exact va_bald F.1 F.2.1 F.2.2.2.2.2.2.1 hR.1 (p1 - 4) 2 hw' rfl hi hd hw
theorem aj_caload (F : am_F p s m args c cc nL own Ts D a0 cA base L0 X0) (hd : decode cc (pcs k) = .ok (.baload, 1)) (hn : pcs (k + 1) = pcs k + 1) (hs : am_step rc na mcT msT cN cZ C Z (am_J p l e R s m args below meth c Qm nL D a0 cA base L0 X0 n0 z0 pcs) k ls st h .caload) : (am_J p l e R s m args below meth c Qm nL D a0 cA base L0 X0 n0 z0 pcs) k ls st h := by
  obtain ⟨p1, n, i, st1, rfl, hp, hi, hX⟩ := hs
  intro ad H locs lr cells slots hag hwf hR hS hL hc hz hcap
  have hw := hX ad H locs lr cells slots hag ⟨hwf.1, am_okc trivial (am_tl (am_tl hwf.2.1)), hwf.2.2⟩ hR hS hL hc hz hcap
  rw [hn] at hw
  have hw' := am_ws_at (ad := ad) (cA := cA) (am_pl hR hp (by omega)) (am_lt hp)
  rw [am_el_arr hp (by omega) (by omega) (by omega)] at hw'
  exact va_zald F.1 F.2.1 F.2.2.2.2.2.2.1 hR.1 (p1 - 4) 3 hw' rfl hi hd hw
theorem aj_laload (F : am_F p s m args c cc nL own Ts D a0 cA base L0 X0) (hd : decode cc (pcs k) = .ok (.laload, 1)) (hn : pcs (k + 1) = pcs k + 1) (hs : am_step rc na mcT msT cN cZ C Z (am_J p l e R s m args below meth c Qm nL D a0 cA base L0 X0 n0 z0 pcs) k ls st h .laload) : (am_J p l e R s m args below meth c Qm nL D a0 cA base L0 X0 n0 z0 pcs) k ls st h := by
  obtain ⟨p1, n, i, st1, rfl, hp, hi, hX⟩ := hs
  intro ad H locs lr cells slots hag hwf hR hS hL hc hz hcap
  have hw := hX ad H locs lr cells slots hag ⟨hwf.1, am_okc trivial (am_tl (am_tl hwf.2.1)), hwf.2.2⟩ hR hS hL hc hz hcap
  rw [hn] at hw
  have hw' := am_ws_at (ad := ad) (cA := cA) (am_pl hR hp (by omega)) (am_lt hp)
  rw [am_el_51 hp] at hw'
  exact va_lald F.1 F.2.1 F.2.2.2.2.2.2.1 hR.1 (p1 - 4) 1 hw' rfl hi hd hw
theorem aj_aaload (F : am_F p s m args c cc nL own Ts D a0 cA base L0 X0) (hd : decode cc (pcs k) = .ok (.aaload, 1)) (hn : pcs (k + 1) = pcs k + 1) (hs : am_step rc na mcT msT cN cZ C Z (am_J p l e R s m args below meth c Qm nL D a0 cA base L0 X0 n0 z0 pcs) k ls st h .aaload) : (am_J p l e R s m args below meth c Qm nL D a0 cA base L0 X0 n0 z0 pcs) k ls st h := by
  obtain ⟨p1, n, i, st1, rfl, hp, hi, hX⟩ := hs
  intro ad H locs lr cells slots hag hwf hR hS hL hc hz hcap
  have hw := hX ad H locs lr cells slots hag ⟨hwf.1, am_okrf (am_tl (am_tl hwf.2.1)) (hwf.2.2 p1 i.toNatClampNeg), hwf.2.2⟩ hR hS hL hc hz hcap
  rw [hn] at hw
  have hw' := am_ws_at (ad := ad) (cA := cA) (am_pl hR hp (by omega)) (am_lt hp)
  rw [am_el_54 hp] at hw'
  simp only [List.map_cons, am_vv_rf] at hw
  exact va_aldq F.1 F.2.1 F.2.2.2.2.2.2.1 hR.1 (p1 - 4) 4 hw' rfl hi hd hw
theorem aj_iastore (F : am_F p s m args c cc nL own Ts D a0 cA base L0 X0) (hd : decode cc (pcs k) = .ok (.iastore, 1)) (hn : pcs (k + 1) = pcs k + 1) (hs : am_step rc na mcT msT cN cZ C Z (am_J p l e R s m args below meth c Qm nL D a0 cA base L0 X0 n0 z0 pcs) k ls st h .iastore) : (am_J p l e R s m args below meth c Qm nL D a0 cA base L0 X0 n0 z0 pcs) k ls st h := by
  obtain ⟨p1, n, i, x, st1, rfl, h4, hp, hi, hX⟩ := hs
  intro ad H locs lr cells slots hag hwf hR hS hL hc hz hcap
  have h4 : @LE.le Nat instLENat 4 p1 := h4
  have hw' := am_ws_at (ad := ad) (cA := cA) h4 (am_lt hp)
  rw [am_el_arr hp (by omega) (by omega) (by omega)] at hw'
  refine va_iast F.1 F.2.1 F.2.2.2.2.2.2.1 hR.1 hR.2.1 hS (p1 - 4) 0 hw' rfl hi hd (fun H1 locs1 hP1 hD1 hS1 => ?_)
  have hw := hX ad H1 locs1 lr cells slots hag ⟨hwf.1, am_tl (am_tl (am_tl hwf.2.1)), hwf.2.2⟩ (am_rel_set (p := p1) hR h4 (am_lt hp) rfl ?_ (fun z hz => am_el_oI (am_u_ne hz)) (fun j hj => am_u_ne (by omega)) hP1 hD1) hS1 hL hc hz hcap
  · rw [hn] at hw
    exact hw
  · rw [am_el_arr (h := (h.1, am_u h.2.1 p1 i.toNatClampNeg x, h.2.2)) hp (by omega) (by omega) (by omega)]
    dsimp only
    rw [am_u_at]
    rfl
theorem aj_bastore (F : am_F p s m args c cc nL own Ts D a0 cA base L0 X0) (hd : decode cc (pcs k) = .ok (.bastore, 1)) (hn : pcs (k + 1) = pcs k + 1) (hs : am_step rc na mcT msT cN cZ C Z (am_J p l e R s m args below meth c Qm nL D a0 cA base L0 X0 n0 z0 pcs) k ls st h .bastore) : (am_J p l e R s m args below meth c Qm nL D a0 cA base L0 X0 n0 z0 pcs) k ls st h := by
  obtain ⟨p1, n, i, x, st1, rfl, hp, hi, hX⟩ := hs
  intro ad H locs lr cells slots hag hwf hR hS hL hc hz hcap
  have h4 := am_pl hR hp (by omega)
  have hw' := am_ws_at (ad := ad) (cA := cA) h4 (am_lt hp)
  rw [am_el_arr hp (by omega) (by omega) (by omega)] at hw'
  refine va_bast F.1 F.2.1 F.2.2.2.2.2.2.1 hR.1 hR.2.1 hS (p1 - 4) 2 hw' rfl hi hd (fun H1 locs1 hP1 hD1 hS1 => ?_)
  have hw := hX ad H1 locs1 lr cells slots hag ⟨hwf.1, am_tl (am_tl (am_tl hwf.2.1)), hwf.2.2⟩ (am_rel_set (p := p1) hR h4 (am_lt hp) rfl ?_ (fun z hz => am_el_oI (am_u_ne hz)) (fun j hj => am_u_ne (by omega)) hP1 hD1) hS1 hL hc hz hcap
  · rw [hn] at hw
    exact hw
  · rw [am_el_arr (h := (h.1, am_u h.2.1 p1 i.toNatClampNeg (vp_nar .byte x), h.2.2)) hp (by omega) (by omega) (by omega)]
    dsimp only
    rw [am_u_at]
    rfl
theorem aj_castore (F : am_F p s m args c cc nL own Ts D a0 cA base L0 X0) (hd : decode cc (pcs k) = .ok (.bastore, 1)) (hn : pcs (k + 1) = pcs k + 1) (hs : am_step rc na mcT msT cN cZ C Z (am_J p l e R s m args below meth c Qm nL D a0 cA base L0 X0 n0 z0 pcs) k ls st h .castore) : (am_J p l e R s m args below meth c Qm nL D a0 cA base L0 X0 n0 z0 pcs) k ls st h := by
  obtain ⟨p1, n, i, x, st1, rfl, hp, hi, hX⟩ := hs
  intro ad H locs lr cells slots hag hwf hR hS hL hc hz hcap
  have h4 := am_pl hR hp (by omega)
  have hw' := am_ws_at (ad := ad) (cA := cA) h4 (am_lt hp)
  rw [am_el_arr hp (by omega) (by omega) (by omega)] at hw'
  refine va_zast F.1 F.2.1 F.2.2.2.2.2.2.1 hR.1 hR.2.1 hS (p1 - 4) 3 hw' rfl hi hd (fun H1 locs1 hP1 hD1 hS1 => ?_)
  have hw := hX ad H1 locs1 lr cells slots hag ⟨hwf.1, am_tl (am_tl (am_tl hwf.2.1)), hwf.2.2⟩ (am_rel_set (p := p1) hR h4 (am_lt hp) rfl ?_ (fun z hz => am_el_oI (am_u_ne hz)) (fun j hj => am_u_ne (by omega)) hP1 hD1) hS1 hL hc hz hcap
  · rw [hn] at hw
    exact hw
  · rw [am_el_arr (h := (h.1, am_u h.2.1 p1 i.toNatClampNeg (vp_nar .boolean x), h.2.2)) hp (by omega) (by omega) (by omega)]
    dsimp only
    rw [am_u_at]
    rfl
theorem aj_lastore (F : am_F p s m args c cc nL own Ts D a0 cA base L0 X0) (hd : decode cc (pcs k) = .ok (.lastore, 1)) (hn : pcs (k + 1) = pcs k + 1) (hs : am_step rc na mcT msT cN cZ C Z (am_J p l e R s m args below meth c Qm nL D a0 cA base L0 X0 n0 z0 pcs) k ls st h .lastore) : (am_J p l e R s m args below meth c Qm nL D a0 cA base L0 X0 n0 z0 pcs) k ls st h := by
  obtain ⟨p1, n, i, x, st1, rfl, hp, hi, hX⟩ := hs
  intro ad H locs lr cells slots hag hwf hR hS hL hc hz hcap
  have h4 := am_pl hR hp (by omega)
  have hw' := am_ws_at (ad := ad) (cA := cA) h4 (am_lt hp)
  rw [am_el_51 hp] at hw'
  refine va_last F.1 F.2.1 F.2.2.2.2.2.2.1 hR.1 hR.2.1 hS (p1 - 4) 1 hw' rfl hi hd (fun H1 locs1 hP1 hD1 hS1 => ?_)
  have hw := hX ad H1 locs1 lr cells slots hag ⟨hwf.1, am_tl (am_tl (am_tl hwf.2.1)), hwf.2.2⟩ (am_rel_set (p := p1) hR h4 (am_lt hp) rfl ?_ (fun z hz => am_el_oL (am_u_ne hz)) (fun j hj => rfl) hP1 hD1) hS1 hL hc hz hcap
  · rw [hn] at hw
    exact hw
  · rw [am_el_51 (h := (h.1, h.2.1, am_u h.2.2.1 p1 i.toNatClampNeg x, h.2.2.2)) hp]
    dsimp only
    rw [am_u_at]
    rfl
theorem aj_aastore (F : am_F p s m args c cc nL own Ts D a0 cA base L0 X0) (hd : decode cc (pcs k) = .ok (.aastore, 1)) (hn : pcs (k + 1) = pcs k + 1) (hs : am_step rc na mcT msT cN cZ C Z (am_J p l e R s m args below meth c Qm nL D a0 cA base L0 X0 n0 z0 pcs) k ls st h .aastore) : (am_J p l e R s m args below meth c Qm nL D a0 cA base L0 X0 n0 z0 pcs) k ls st h := by
  obtain ⟨p1, n, i, r, m1, st1, rfl, hp, hr, hi, hX⟩ := hs
  intro ad H locs lr cells slots hag hwf hR hS hL hc hz hcap
  have h4 := am_pl hR hp (by omega)
  have h5 := am_pl hR hr (by omega)
  have hw' := am_ws_at (ad := ad) (cA := cA) h4 (am_lt hp)
  rw [am_el_54 hp] at hw'
  have hw2 := am_ws_at (ad := ad) (cA := cA) h5 (am_lt hr)
  rw [am_el_obj hr (by omega)] at hw2
  refine va_astq (r := (RX0, TX0, 16)) F.1 F.2.1 F.2.2.2.2.2.2.1 hR.1 hR.2.1 hS (p1 - 4) 4 (r - 4) 0 hw' rfl hw2 rfl hi hd (fun H1 locs1 hP1 hD1 hS1 => ?_)
  have hw := hX ad H1 locs1 lr cells slots hag (am_wfA hwf) (am_rel_set (p := p1) hR h4 (am_lt hp) rfl ?_ (fun z hz => am_el_oR (am_u_ne hz)) (fun j hj => rfl) hP1 hD1) hS1 hL hc hz hcap
  · rw [hn] at hw
    exact hw
  · rw [am_el_54 (h := (h.1, h.2.1, h.2.2.1, am_u h.2.2.2 p1 i.toNatClampNeg (some r))) hp]
    dsimp only
    rw [am_u_at]
    congr 7
    funext j
    unfold va_up
    split <;> rfl
theorem aj_arraylength (F : am_F p s m args c cc nL own Ts D a0 cA base L0 X0) (h4n : 4 ≤ n0) (hd : decode cc (pcs k) = .ok (.arraylength, 1)) (hn : pcs (k + 1) = pcs k + 1) (hs : am_step rc na mcT msT cN cZ C Z (am_J p l e R s m args below meth c Qm nL D a0 cA base L0 X0 n0 z0 pcs) k ls st h .arraylength) : (am_J p l e R s m args below meth c Qm nL D a0 cA base L0 X0 n0 z0 pcs) k ls st h := by
  obtain ⟨p1, t, n, st1, rfl, hp, ht, ht2, hX⟩ := hs
  intro ad H locs lr cells slots hag hwf hR hS hL hc hz hcap
  have hw := hX ad H locs lr cells slots hag ⟨hwf.1, am_okc trivial (am_tl hwf.2.1), hwf.2.2⟩ hR hS hL hc hz hcap
  rw [hn] at hw
  rcases Nat.lt_or_ge p1 4 with q | q
  · obtain ⟨e1, e2⟩ := hR.2.2.2.1 p1 q
    rw [hp] at e1
    cases e1
    obtain ⟨x1, x2⟩ := F.2.2.2.2.2.2.2.1 p1 q
    have e3 : ad p1 = a0 p1 := hag p1 (by omega)
    show W p l e R s m args below meth c H locs cells slots Qm (F0 m (pcs k) lr (.ref (ad p1) :: st1.map (am_vv ad)))
    rw [e3]
    exact va_slen F.1 F.2.1 x1 (Nat.lt_of_lt_of_le x2 F.2.2.2.2.2.2.2.2.1) (by omega) hS hd hw
  · have hw' := am_ws_at (ad := ad) (cA := cA) q (am_lt hp)
    by_cases h51 : t = 51
    · subst h51
      rw [am_el_51 hp] at hw'
      exact va_alen F.1 F.2.1 F.2.2.2.2.2.2.1 hR.1 (p1 - 4) 1 hw' (ty := .long) rfl rfl hd hw
    · by_cases h54 : t = 54
      · subst h54
        rw [am_el_54 hp] at hw'
        exact va_alen F.1 F.2.1 F.2.2.2.2.2.2.1 hR.1 (p1 - 4) 4 hw' (ty := .object RX0) rfl rfl hd hw
      · rw [am_el_arr hp (by omega) h51 h54] at hw'
        have h3 : t = 50 ∨ t = 52 ∨ t = 53 := by omega
        rcases h3 with rfl | rfl | rfl
        · exact va_alen F.1 F.2.1 F.2.2.2.2.2.2.1 hR.1 (p1 - 4) 0 hw' (ty := .int) rfl rfl hd hw
        · exact va_alen F.1 F.2.1 F.2.2.2.2.2.2.1 hR.1 (p1 - 4) 2 hw' (ty := .byte) rfl rfl hd hw
        · exact va_alen F.1 F.2.1 F.2.2.2.2.2.2.1 hR.1 (p1 - 4) 3 hw' (ty := .boolean) rfl rfl hd hw
theorem aj_gets (F : am_F p s m args c cc nL own Ts D a0 cA base L0 X0) (h4n : 4 ≤ n0) {j idx : Nat} (hj : j < 3) (hlk : .fieldLink own idx (am_sf j).1 (am_sf j).2 "[I" ∈ am_tbl) (hd : decode cc (pcs k) = .ok (.getstatic idx, 3)) (hn : pcs (k + 1) = pcs k + 3) (hs : am_step rc na mcT msT cN cZ C Z (am_J p l e R s m args below meth c Qm nL D a0 cA base L0 X0 n0 z0 pcs) k ls st h (.getstatic j)) : (am_J p l e R s m args below meth c Qm nL D a0 cA base L0 X0 n0 z0 pcs) k ls st h := by
  have hX := hs
  intro ad H locs lr cells slots hag hwf hR hS hL hc hz hcap
  have hw := hX ad H locs lr cells slots hag ⟨hwf.1, am_okc (show j < h.1.length by have := hR.2.2.1; omega) hwf.2.1, hwf.2.2⟩ hR hS hL hc hz hcap
  rw [hn] at hw
  have e3 : ad j = a0 j := hag j (by omega)
  have hw2 : W p l e R s m args below meth c H locs cells slots Qm (F0 m (pcs k + 3) lr (.ref (ad j) :: st.map (am_vv ad))) := hw
  rw [e3] at hw2
  exact va_gets F.1 F.2.1 (F.2.2.2.2.2.2.2.2.2.1 j hj) hS F.2.2.2.1 (F.2.2.2.2.1 _ (F.2.2.2.2.2.1 _ hlk)) (fun x hx => hx) hd hw2
theorem aj_getsN (F : am_F p s m args c cc nL own Ts D a0 cA base L0 X0) (h4n : 4 ≤ n0) {j idx : Nat} {host : String} (hj : j < 3) (hlk : .fieldLinkNest own idx (am_sf j).1 (am_sf j).2 "[I" host ∈ am_tbl) (hd : decode cc (pcs k) = .ok (.getstatic idx, 3)) (hn : pcs (k + 1) = pcs k + 3) (hs : am_step rc na mcT msT cN cZ C Z (am_J p l e R s m args below meth c Qm nL D a0 cA base L0 X0 n0 z0 pcs) k ls st h (.getstatic j)) : (am_J p l e R s m args below meth c Qm nL D a0 cA base L0 X0 n0 z0 pcs) k ls st h := by
  have hX := hs
  intro ad H locs lr cells slots hag hwf hR hS hL hc hz hcap
  have hw := hX ad H locs lr cells slots hag ⟨hwf.1, am_okc (show j < h.1.length by have := hR.2.2.1; omega) hwf.2.1, hwf.2.2⟩ hR hS hL hc hz hcap
  rw [hn] at hw
  have e3 : ad j = a0 j := hag j (by omega)
  have hw2 : W p l e R s m args below meth c H locs cells slots Qm (F0 m (pcs k + 3) lr (.ref (ad j) :: st.map (am_vv ad))) := hw
  rw [e3] at hw2
  exact va_getsN F.1 F.2.1 (F.2.2.2.2.2.2.2.2.2.1 j hj) hS F.2.2.2.1 (F.2.2.2.2.1 _ (F.2.2.2.2.2.1 _ hlk)) (fun x hx => hx) hd hw2
def am_dv (kd : Nat) : Value := match kd with
  | 1 => .long 0
  | 2 => .null
  | _ => .int 0
theorem am_el_new {h h' : am_H} {q0 : Nat × Nat} (hl : h'.1 = h.1 ++ [q0]) {j : Nat} (hj : j < h.1.length) (hI : h'.2.1 j = h.2.1 j) (hLo : h'.2.2.1 j = h.2.2.1 j) (hRr : h'.2.2.2 j = h.2.2.2 j) {ad ad' : Nat → Nat} (ha : ∀ i, i < h.1.length → ad' i = ad i) (hw : ∀ p k q, h.2.2.2 p k = some q → q < h.1.length) : am_el ad' cA h' j = am_el ad cA h j := by
  have hm : ∀ k, (h.2.2.2 j k).map ad' = (h.2.2.2 j k).map ad := by
    intro k
    cases hq : h.2.2.2 j k with
    | none => rfl
    | some q => exact congrArg some (ha q (hw j k q hq))
  unfold am_el
  rw [hl, List.getElem?_append_left hj]
  cases hs : h.1[j]? with
  | none => simp
  | some x =>
    obtain ⟨t, n⟩ := x
    have hfv : am_fv ad' h' j t = am_fv ad h j t := by
      funext i
      unfold am_fv
      simp [hI, hLo, hRr, hm]
    simp [hfv, hI, hLo, hRr, hm]
theorem am_ws_new {h : am_H} {ad ad' : Nat → Nat} (ha : ∀ i, i < h.1.length → ad' i = ad i) (hw : ∀ p k q, h.2.2.2 p k = some q → q < h.1.length) : am_ws ad' cA h = am_ws ad cA h := by
  unfold am_ws
  apply List.map_congr_left
  intro j hj
  rw [List.mem_range] at hj
  rw [ha _ (by omega)]
  congr 1
  have hm : ∀ k, (h.2.2.2 (j + 4) k).map ad' = (h.2.2.2 (j + 4) k).map ad := by
    intro k
    cases hq : h.2.2.2 (j + 4) k with
    | none => rfl
    | some q => exact congrArg some (ha q (hw (j + 4) k q hq))
  unfold am_el
  cases hs : h.1[j + 4]? with
  | none => simp
  | some x =>
    obtain ⟨t, n⟩ := x
    have hfv : am_fv ad' h (j + 4) t = am_fv ad h (j + 4) t := by
      funext i
      unfold am_fv
      simp [hm]
    simp [hfv, hm]
theorem am_st_new {st : List Value} {n : Nat} {ad ad' : Nat → Nat} (ha : ∀ i, i < n → ad' i = ad i) (hw : ∀ v ∈ st, am_okv n v) : st.map (am_vv ad') = st.map (am_vv ad) := by
  apply List.map_congr_left
  intro v hv
  exact am_vv_to (hw v hv) ha
theorem am_loc_new {ls : List (Option Value)} {n : Nat} {lr : Array Slot} {ad ad' : Nat → Nat} (ha : ∀ i, i < n → ad' i = ad i) (hw : ∀ v, some v ∈ ls → am_okv n v) (hL : am_loc ad ls nL lr) : am_loc ad' ls nL lr :=
  ⟨hL.1, hL.2.1, hL.2.2.1, fun j v hj => by rw [am_vv_to (hw v (List.mem_of_getElem? hj)) ha]; exact hL.2.2.2 j v hj⟩
/-- a new cell behind all others -/
def am_nh (h : am_H) (q : Nat × Nat) : am_H := (h.1 ++ [q], va_up h.2.1 h.1.length (fun _ => 0), va_up h.2.2.1 h.1.length (fun _ => 0), va_up h.2.2.2 h.1.length (fun _ => none))
theorem am_nh_wf {ls : List (Option Value)} {st : List Value} {h : am_H} {q : Nat × Nat} (hwf : am_wf ls st h) : am_wf ls (.ref h.1.length :: st) (am_nh h q) := by
  have hlen : (am_nh h q).1.length = h.1.length + 1 := by simp [am_nh]
  refine ⟨fun v hv => am_okv_le (hwf.1 v hv) (by omega), am_okc (by show h.1.length < _; omega) (fun v hv => am_okv_le (hwf.2.1 v hv) (by omega)), fun a b r hr => ?_⟩
  have hr : va_up h.2.2.2 h.1.length (fun _ => none) a b = some r := hr
  rw [hlen]
  unfold va_up at hr
  split at hr
  · cases hr
  · have := hwf.2.2 a b r hr
    omega
theorem am_nh_rel {h : am_H} {q0 : Nat × Nat} {q : Nat} {e1 : va_E} {H H1 : Heap} (hw : ∀ p k q, h.2.2.2 p k = some q → q < h.1.length) (hR : am_rel D ad cA base L0 X0 h H) (hcl : q0.1 < 50 → ∃ Cn T, am_cl[q0.1]? = some (Cn, T, q0.2)) (he : am_el (va_up ad h.1.length q) cA (am_nh h q0) h.1.length = e1)
    (hP : va_P D am_cl (am_ws ad cA h ++ [(q, e1)]) H1) (hD : va_D (fun q => base ≤ q) (am_ws ad cA h ++ [(q, e1)])) : am_rel D (va_up ad h.1.length q) cA base L0 X0 (am_nh h q0) H1 := by
  have h4 := hR.2.2.1
  have ha : ∀ i, i < h.1.length → va_up ad h.1.length q i = ad i := fun i hi => am_up_ne (by omega)
  have e2 : am_ws ad cA h ++ [(q, e1)] = am_ws (va_up ad h.1.length q) cA (am_nh h q0) := by
    have := am_ws_push (ad := va_up ad h.1.length q) (cA := cA) (h := h) (h' := am_nh h q0) (q := q0) h4 rfl he (fun j hj => by
      exact am_el_new (h := h) (h' := am_nh h q0) (ad := va_up ad h.1.length q) (ad' := va_up ad h.1.length q) rfl hj (am_up_ne (by omega)) (am_up_ne (by omega)) (am_up_ne (by omega)) (fun _ _ => rfl) hw)
    rw [am_up_eq, am_ws_new ha hw] at this
    exact this
  rw [e2] at hP hD
  refine ⟨hP, hD, by show 4 ≤ (h.1 ++ [q0]).length; simp; omega, fun j hj => ?_, fun a b hb hb5 => ?_⟩
  · obtain ⟨r1, r2⟩ := hR.2.2.2.1 j hj
    refine ⟨?_, ?_⟩
    · show (h.1 ++ [q0])[j]? = _
      rw [List.getElem?_append_left (by omega)]
      exact r1
    · show va_up h.2.1 h.1.length (fun _ => 0) j = _
      rw [am_up_ne (by omega)]
      exact r2
  · have hb : (h.1 ++ [q0])[a]? = some b := hb
    by_cases hlt : a < h.1.length
    · rw [List.getElem?_append_left hlt] at hb
      exact hR.2.2.2.2 a b hb hb5
    · rw [List.getElem?_append_right (by omega)] at hb
      have hz : a - h.1.length < 1 := (List.getElem?_eq_some_iff.mp hb).1
      rw [show a - h.1.length = 0 by omega] at hb
      cases hb
      exact hcl hb5
theorem aj_new (F : am_F p s m args c cc nL own Ts D a0 cA base L0 X0) {q idx : Nat} {Cn : String} {T : u_T} (hq : q / 100 < 50) (hcl : am_cl[q / 100]? = some (Cn, T, q % 100)) (ty : Nat → FieldType) (hty : ∀ k, k < q % 100 → parseFieldDescriptor (T k).2.2.1 = some (ty k)) (hdf : ∀ k, k < q % 100 → defaultValue (ty k) = am_dv ((am_fk.getD (q / 100) []).getD k 0)) (hin : ∀ w ∈ u_ws Cn T (q % 100), w ∈ am_tbl) (hlk : .classLink own idx Cn ∈ am_tbl) (hit : .instantiable Cn (q % 100) ∈ am_tbl) (hii : .initialized Cn ∈ am_tbl) (hcN : cN = n0 + R.cells) (hcZ : cZ = z0 + R.slots) (hd : decode cc (pcs k) = .ok (.new idx, 3)) (hn : pcs (k + 1) = pcs k + 3) (hs : am_step rc na mcT msT cN cZ C Z (am_J p l e R s m args below meth c Qm nL D a0 cA base L0 X0 n0 z0 pcs) k ls st h (.new q)) : (am_J p l e R s m args below meth c Qm nL D a0 cA base L0 X0 n0 z0 pcs) k ls st h := by
  obtain ⟨hr1, hr2, hX⟩ := hs
  intro ad H locs lr cells slots hag hwf hR hS hL hc hz hcap
  have W0 : ∀ w, w ∈ am_tbl → w.before args s = true := fun w hw => F.2.2.2.2.1 _ (F.2.2.2.2.2.1 _ hw)
  refine va_new (fs := (List.range (q % 100)).map (fun k => am_dv ((am_fk.getD (q / 100) []).getD k 0))) F.1 F.2.1 F.2.2.2.2.1 (fun w hw => F.2.2.2.2.2.1 w (hin w hw)) ty hty F.2.2.2.1 (W0 _ hlk) (W0 _ hit) (W0 _ hii) F.2.2.2.2.2.2.1 hR.1 hR.2.1 hS (fun q2 h2 => Nat.le_trans F.2.2.2.2.2.2.2.2.1 h2) hcl (fun j hj => ?_) (by omega) (by omega) hd (fun q1 H1 hP1 hD1 hS1 => ?_)
  · unfold vp_V
    rw [hdf j hj, List.getD_eq_getElem?_getD (l := List.map _ _), List.getElem?_map, List.getElem?_range hj]
    rfl
  have he : am_el (va_up ad h.1.length q1) cA (am_nh h (q / 100, q % 100)) h.1.length = .inr (q / 100, (List.range (q % 100)).map (fun k => am_dv ((am_fk.getD (q / 100) []).getD k 0))) := by
    rw [am_el_obj (h := am_nh h (q / 100, q % 100)) (t := q / 100) (n := q % 100) (by show (h.1 ++ [_])[h.1.length]? = _; simp) hq]
    congr 2
    apply List.map_congr_left
    intro j _
    unfold am_fv am_nh
    simp only [am_up_eq]
    generalize (am_fk.getD (q / 100) []).getD j 0 = kd
    match kd with
    | 0 => rfl
    | 1 => rfl
    | 2 => rfl
    | _ + 3 => rfl
  have ha : ∀ i, i < h.1.length → va_up ad h.1.length q1 i = ad i := fun i hi => am_up_ne (by omega)
  have hlen : (am_nh h (q / 100, q % 100)).1.length = h.1.length + 1 := by simp [am_nh]
  have hsl : am_sl (am_nh h (q / 100, q % 100)).1 = am_sl h.1 + (q % 100) := by simp [am_nh, am_sl]
  have hw := hX (va_up ad h.1.length q1) H1 locs lr (cells + 1) (slots + (q % 100)) (fun j hj => by rw [ha j (by omega)]; exact hag j hj) (am_nh_wf hwf) (am_nh_rel hwf.2.2 hR (fun _ => ⟨_, _, hcl⟩) he hP1 hD1) hS1 (am_loc_new ha hwf.1 hL) (by show cells + 1 + n0 = (am_nh h (q / 100, q % 100)).1.length; rw [hlen]; omega) (by show slots + (q % 100) + z0 = am_sl (am_nh h (q / 100, q % 100)).1; rw [hsl]; omega) (by show (am_nh h (q / 100, q % 100)).1.length ≤ _ ∧ am_sl (am_nh h (q / 100, q % 100)).1 ≤ _; rw [hlen, hsl]; omega)
  rw [hn] at hw
  have e9 : List.map (am_vv (va_up ad h.1.length q1)) (.ref h.1.length :: st) = .ref q1 :: st.map (am_vv ad) := by
    rw [List.map_cons, am_st_new ha hwf.2.1]
    show Value.ref (va_up ad h.1.length q1 h.1.length) :: _ = _
    rw [am_up_eq]
  rw [e9] at hw
  exact hw
theorem aj_newa (F : am_F p s m args c cc nL own Ts D a0 cA base L0 X0) {t : Nat} {at0 : ArrayType} {ty : FieldType} {j : Nat} (hty : newarray.typeOf at0 = ty) (hj : j < 5) (htj : (am_tys cA).getD j (0, .int) = (cA t, ty)) (ht : t = 50 ∧ ty = .int ∨ t = 51 ∧ ty = .long ∨ t = 52 ∧ ty = .byte ∨ t = 53 ∧ ty = .boolean) (harr : .arrayClass ty ∈ am_tbl) (hcN : cN = n0 + R.cells) (hcZ : cZ = z0 + R.slots) (hd : decode cc (pcs k) = .ok (.newarray at0, 2)) (hn : pcs (k + 1) = pcs k + 2) (hs : am_step rc na mcT msT cN cZ C Z (am_J p l e R s m args below meth c Qm nL D a0 cA base L0 X0 n0 z0 pcs) k ls st h (.anewarray t)) : (am_J p l e R s m args below meth c Qm nL D a0 cA base L0 X0 n0 z0 pcs) k ls st h := by
  obtain ⟨i, st1, rfl, hi, hi2, hr1, hr2, hX⟩ := hs
  intro ad H locs lr cells slots hag hwf hR hS hL hc hz hcap
  subst hty
  refine va_newaK F.1 F.2.1 (F.2.2.2.2.1 _ (F.2.2.2.2.2.1 _ harr)) rfl hd rfl hi rfl (by rcases ht with ⟨-, e⟩ | ⟨-, e⟩ | ⟨-, e⟩ | ⟨-, e⟩ <;> rw [e] <;> simp [componentBytes] <;> omega) (by omega) (by omega) rfl (fun H1 cA1 e1 z1 o1 hAr hNm => ?_)
  have hcA : cA1 = cA t := by
    have h5 := F.2.2.2.2.2.2.2.2.2.2.1 j hj
    rw [htj] at h5
    exact Option.some.inj (hNm.symm.trans h5)
  subst hcA
  obtain ⟨q1, hq1⟩ : ∃ q1, q1 = H.size := ⟨_, rfl⟩
  rw [← hq1] at e1 z1 o1 ⊢
  have hkp : ∀ (k : Nat) (x : Nat × va_E), (am_ws ad cA h)[k]? = some x → H1[x.1]? = H[x.1]? := fun k x hx => o1 x.1 (by rw [hq1]; exact (hR.1 k x hx).lt)
  have hS1 : va_S (fun q => base ≤ q) s.heap H1 locs := ⟨Nat.le_trans hS.1 (by omega), fun x h1 h2 => (o1 x (by rw [hq1]; exact Nat.lt_of_lt_of_le h1 hS.1)).trans (hS.2.1 x h1 h2), hS.2.2⟩
  have hD1 : ∀ e : va_E, va_D (fun q => base ≤ q) (am_ws ad cA h ++ [(q1, e)]) := fun e => hR.2.1.push hR.1 hq1 (by show base ≤ q1; rw [hq1]; exact Nat.le_trans F.2.2.2.2.2.2.2.2.1 hS.1)
  have hw9 : ∀ e7 : va_E, va_at D am_cl (q1, e7) H1 → am_el (va_up ad h.1.length q1) cA (am_nh h (t, i.toNatClampNeg)) h.1.length = e7 → W p l e R s m args below meth c H1 locs (cells + 1) (slots + i.toNatClampNeg) Qm (F0 m (pcs k + 2) lr (.ref q1 :: st1.map (am_vv ad))) := by
    intro e0 hat he
    have hP1 : va_P D am_cl (am_ws ad cA h ++ [(q1, e0)]) H1 := (hR.1.kept hkp).app (fun k x hx => by
      have hz : k < 1 := (List.getElem?_eq_some_iff.mp hx).1
      rw [show k = 0 by omega] at hx
      cases hx
      exact hat)
    have hD1 := hD1 e0
    have ha : ∀ i, i < h.1.length → va_up ad h.1.length q1 i = ad i := fun i hi => am_up_ne (by omega)
    have hlen : (am_nh h (t, i.toNatClampNeg)).1.length = h.1.length + 1 := by simp [am_nh]
    have hsl : am_sl (am_nh h (t, i.toNatClampNeg)).1 = am_sl h.1 + i.toNatClampNeg := by simp [am_nh, am_sl]
    have hw := hX (va_up ad h.1.length q1) H1 locs lr (cells + 1) (slots + i.toNatClampNeg) (fun j hj => by rw [ha j (by omega)]; exact hag j hj) (am_nh_wf ⟨hwf.1, am_tl hwf.2.1, hwf.2.2⟩) (am_nh_rel hwf.2.2 hR (fun h9 => by rcases ht with ⟨e, -⟩ | ⟨e, -⟩ | ⟨e, -⟩ | ⟨e, -⟩ <;> (have h9 : t < 50 := h9; omega)) he hP1 hD1) hS1 (am_loc_new ha hwf.1 hL) (by show cells + 1 + n0 = (am_nh h (t, i.toNatClampNeg)).1.length; rw [hlen]; omega) (by show slots + i.toNatClampNeg + z0 = am_sl (am_nh h (t, i.toNatClampNeg)).1; rw [hsl]; omega) (by show (am_nh h (t, i.toNatClampNeg)).1.length ≤ _ ∧ am_sl (am_nh h (t, i.toNatClampNeg)).1 ≤ _; rw [hlen, hsl]; omega)
    rw [hn] at hw
    have e9 : List.map (am_vv (va_up ad h.1.length q1)) (.ref h.1.length :: st1) = .ref q1 :: st1.map (am_vv ad) := by
      rw [List.map_cons, am_st_new ha (am_tl hwf.2.1)]
      show Value.ref (va_up ad h.1.length q1 h.1.length) :: _ = _
      rw [am_up_eq]
    rw [e9] at hw
    exact hw
  have hsh : (am_nh h (t, i.toNatClampNeg)).1[h.1.length]? = some (t, i.toNatClampNeg) := by show (h.1 ++ [_])[h.1.length]? = _; simp
  rcases ht with ⟨rfl, e⟩ | ⟨rfl, e⟩ | ⟨rfl, e⟩ | ⟨rfl, e⟩
  · refine hw9 (.inl (cA 50, i.toNatClampNeg, .inl (fun _ => 0))) ?_ ?_
    · rw [e] at e1; exact e1
    · rw [am_el_arr hsh (by omega) (by omega) (by omega)]; unfold am_nh; simp only [am_up_eq]
  · refine hw9 (.inl (cA 51, i.toNatClampNeg, .inr (.inl (fun _ => 0)))) ?_ ?_
    · rw [e] at e1; exact e1
    · rw [am_el_51 hsh]; unfold am_nh; simp only [am_up_eq]
  · refine hw9 (.inl (cA 52, i.toNatClampNeg, .inl (fun _ => 0))) ?_ ?_
    · rw [e] at e1; exact e1
    · rw [am_el_arr hsh (by omega) (by omega) (by omega)]; unfold am_nh; simp only [am_up_eq]
  · refine hw9 (.inl (cA 53, i.toNatClampNeg, .inl (fun _ => 0))) ?_ ?_
    · rw [e] at e1; exact e1
    · rw [am_el_arr hsh (by omega) (by omega) (by omega)]; unfold am_nh; simp only [am_up_eq]
end AMD
