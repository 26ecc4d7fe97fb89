/-! ===== relayChannelData and relaySend of the class, sends of the reference ===== -/
def sd_s (al : Nat → Option AL) (B : List Nat) (s : SN) (T : Nat → Int32) (ip port : Int32) : SN × (Nat → Int32) := match (clf al ip port).bind al with
  | none => (clr s, T)
  | some a => match fnd B 18 with
    | none => (clr s, T)
    | some p => match fnd B 19 with
      | none => (clr s, T)
      | some c => if 0 < (strg (cts B)).length then (clr s, T) else rly a B s T (ipo B p) (poo B p) ((ats B).getD c a0).2.2 ((ats B).getD c a0).2.1
section SDA
variable {d N : Nat} {I : Nat → Nat → Int32} {L : Nat → Nat → Int64} {Q : am_Q} {s : SN} {T : Nat → Int32} {A : List Nat} {al : Nat → Option AL} {w : Option Nat}
theorem c_104 (h : tbc I L al) (hA : cT I A) (hp : po_c I (clr s)) (hT : tl_c I T) (hD : chD A = true) {ip port : Int32} (hw : w = pq (clf al ip port)) (hq : ∀ I', po_c I' (cd_s al A s T ip port).1 → tl_c I' (cd_s al A s T ip port).2 → fc [82, 83, 84, 90] I I' → Q none (am_SH N, I', L, am_RR w)) : am_call (d + 4) 104 [.ref 91] (am_SH N, I, L, am_RR w) Q := by
  have hD := of_decide_eq_true hD
  have n0 := nb_lt hA.2.2.2 0 2
  have n2 := nb_lt hA.2.2.2 2 2
  unfold cd_s at hq
  cases hk : clf al ip port with
  | none =>
    rw [hk] at hq hw
    simp only [pq, Option.map_none] at hw
    subst hw
    refine am_enter (ls := [some _, none]) (cs := am_c104) rfl rfl (Nat.le_of_ble_eq_true rfl) rfl ?_
    refine wp_aload (k := 0) rfl rfl ?_
    refine w_gn (k := 1) (s := 13) rfl rfl (by first | assumption | rfl) (by first | assumption | rfl) ?_
    refine wp_ifnonnullN (k := 2) rfl ?_
    refine w_rv (k := 3) rfl rfl rfl rfl ?_
    exact hq I hp hT fc_rf
  | some k =>
    obtain ⟨hk8, a, ha, -⟩ := clf_lt hk
    have ho := h k hk8
    rw [ha] at ho
    have ho : ac I L (26 + 7 * k) a := ho
    obtain ⟨a1, a2, a3, a4, a5, a6, a7, a8, a9, a10⟩ := id ho
    rw [hk] at hq hw
    simp only [pq, Option.map_some] at hw
    simp only [Option.bind_some, ha] at hq
    subst hw
    have qa := aq_of N (some (26 + 7 * k)) hk8
    have q0 := qa.1
    refine am_enter (ls := [some _, none]) (cs := am_c104) rfl rfl (Nat.le_of_ble_eq_true rfl) rfl ?_
    refine wp_aload (k := 0) rfl rfl ?_
    refine w_gr (k := 1) (s := 13) rfl rfl (by first | assumption | rfl) (by first | assumption | rfl) ?_
    refine wp_ifnonnull (k := 2) rfl ?_
    refine wp_aload (k := 4) rfl rfl ?_
    refine w_gr (k := 5) (s := 13) rfl rfl (by first | assumption | rfl) (by first | assumption | rfl) ?_
    refine wp_aload (k := 6) rfl rfl ?_
    refine w_gr (k := 7) (s := 0) rfl rfl (by first | assumption | rfl) (by first | assumption | rfl) ?_
    refine w_ic (k := 8) (x := nI 0) rfl (oi_nI 0) ?_
    refine w_ic (k := 9) (x := nI 2) rfl (oi_nI 2) ?_
    refine w_Vl (k := 10) [_, _] rfl rfl rfl (Nat.le_of_ble_eq_true rfl) (by first | assumption | rfl) (Or.inl ⟨rfl, rfl⟩) ?_
    refine (c_90 (rwT N _) hA (by decide) ?_)
    refine ⟨_, rfl, ?_⟩
    refine wp_l2i (k := 11) rfl ?_
    rw [lN_i]
    refine w_Vi (k := 12) [_] rfl rfl rfl (Nat.le_of_ble_eq_true rfl) (by first | assumption | rfl) (Or.inl ⟨rfl, rfl⟩) ?_
    refine (c_12 qa a10 ?_)
    refine ⟨_, rfl, ?_⟩
    cases hc : cf a.2.2.2.2 (nI (nb A 0 2)) with
    | none =>
      rw [hc] at hq
      refine wp_istore (k := 13) rfl rfl ?_
      refine wp_iload (k := 14) rfl rfl ?_
      refine w_ic (k := 15) (x := (-1)) rfl (by decide) ?_
      refine w_c_eq (k := 16) (t' := 36) rfl rfl (fun zq => ?_) (fun zq => absurd rfl zq)
      refine w_rv (k := 36) rfl rfl rfl rfl ?_
      exact hq I hp hT fc_rf
    | some c =>
      rw [hc] at hq
      have hcl := (cf_lt hc).1
      have hl8 := a10.2.1
      have e := a10.2.2 c hcl
      refine wp_istore (k := 13) rfl rfl ?_
      refine wp_iload (k := 14) rfl rfl ?_
      refine w_ic (k := 15) (x := (-1)) rfl (by decide) ?_
      refine w_c_eq (k := 16) (t' := 36) rfl rfl (fun zq => absurd zq (nI_ne1 (by omega))) (fun zq => ?_)
      refine wp_aload (k := 17) rfl rfl ?_
      refine wp_aload (k := 18) rfl rfl ?_
      refine w_gr (k := 19) (s := 13) rfl rfl (by first | assumption | rfl) (by first | assumption | rfl) ?_
      refine wp_aload (k := 20) rfl rfl ?_
      refine w_gr (k := 21) (s := 13) rfl rfl (by first | assumption | rfl) (by first | assumption | rfl) ?_
      refine wp_iload (k := 22) rfl rfl ?_
      refine w_Vi (k := 23) [_] rfl rfl rfl (Nat.le_of_ble_eq_true rfl) (by first | assumption | rfl) (Or.inl ⟨rfl, rfl⟩) ?_
      refine (c_18 qa (by omega) ?_)
      refine ⟨_, rfl, ?_⟩
      refine wp_aload (k := 24) rfl rfl ?_
      refine w_gr (k := 25) (s := 13) rfl rfl (by first | assumption | rfl) (by first | assumption | rfl) ?_
      refine wp_iload (k := 26) rfl rfl ?_
      refine w_Vi (k := 27) [_] rfl rfl rfl (Nat.le_of_ble_eq_true rfl) (by first | assumption | rfl) (Or.inl ⟨rfl, rfl⟩) ?_
      refine (c_19 qa (by omega) ?_)
      refine ⟨_, rfl, ?_⟩
      refine w_ic (k := 28) (x := nI 4) rfl (oi_nI 4) ?_
      refine wp_aload (k := 29) rfl rfl ?_
      refine w_gr (k := 30) (s := 0) rfl rfl (by first | assumption | rfl) (by first | assumption | rfl) ?_
      refine w_ic (k := 31) (x := nI 2) rfl (oi_nI 2) ?_
      refine w_ic (k := 32) (x := nI 2) rfl (oi_nI 2) ?_
      refine w_Vl (k := 33) [_, _] rfl rfl rfl (Nat.le_of_ble_eq_true rfl) (by first | assumption | rfl) (Or.inl ⟨rfl, rfl⟩) ?_
      refine (c_90 (rwT N _) hA (by decide) ?_)
      refine ⟨_, rfl, ?_⟩
      refine wp_l2i (k := 34) rfl ?_
      rw [lN_i, e.2.1, e.2.2.1]
      refine w_Vv (k := 35) [_, _, _, _, _] rfl rfl rfl (Nat.le_of_ble_eq_true rfl) (by first | assumption | rfl) (Or.inl ⟨rfl, rfl⟩) ?_
      refine (c_106 hk8 ho hA hp hT (by omega) (fun I' p' t' f' => ⟨rfl, ?_⟩))
      refine w_rv (k := 36) rfl rfl rfl rfl ?_
      exact hq I' p' t' f'
theorem c_105 (h : tbc I L al) (hA : cT I A) (hl : lr_ I 94 A) (hm : msg A = true) (hp : po_c I (clr s)) (hT : tl_c I T) {ip port : Int32} (hw : w = pq (clf al ip port)) (hq : ∀ I', po_c I' (sd_s al A s T ip port).1 → tl_c I' (sd_s al A s T ip port).2 → fc [82, 83, 84, 90, 92] I I' → Q none (am_SH N, I', L, am_RR w)) : am_call (d + 4) 105 [.ref 91] (am_SH N, I, L, am_RR w) Q := by
  unfold sd_s at hq
  refine am_enter (ls := [some _, none, none]) (cs := am_c105) rfl rfl (Nat.le_of_ble_eq_true rfl) rfl ?_
  cases hk : clf al ip port with
  | none =>
    rw [hk] at hq hw
    simp only [pq, Option.map_none] at hw
    subst hw
    refine wp_aload (k := 0) rfl rfl ?_
    refine w_gr (k := 1) (s := 6) rfl rfl (by first | assumption | rfl) (by first | assumption | rfl) ?_
    refine w_ic (k := 2) (x := nI 18) rfl (oi_nI 18) ?_
    refine w_Vi (k := 3) [_] rfl rfl rfl (Nat.le_of_ble_eq_true rfl) (by first | assumption | rfl) (Or.inl ⟨rfl, rfl⟩) ?_
    refine (c_38 (lqT N _) hA.2.2.2 hl hm (by decide) ?_)
    refine ⟨_, rfl, ?_⟩
    refine wp_istore (k := 4) rfl rfl ?_
    refine wp_aload (k := 5) rfl rfl ?_
    refine w_gr (k := 6) (s := 6) rfl rfl (by first | assumption | rfl) (by first | assumption | rfl) ?_
    refine w_ic (k := 7) (x := nI 19) rfl (oi_nI 19) ?_
    refine w_Vi (k := 8) [_] rfl rfl rfl (Nat.le_of_ble_eq_true rfl) (by first | assumption | rfl) (Or.inl ⟨rfl, rfl⟩) ?_
    refine (c_38 (lqT N _) hA.2.2.2 hl hm (by decide) ?_)
    refine ⟨_, rfl, ?_⟩
    refine wp_istore (k := 9) rfl rfl ?_
    refine wp_aload (k := 10) rfl rfl ?_
    refine w_gn (k := 11) (s := 13) rfl rfl (by first | assumption | rfl) (by first | assumption | rfl) ?_
    refine wp_ifnullN (k := 12) rfl ?_
    refine w_rv (k := 25) rfl rfl rfl rfl ?_
    exact hq I hp hT fc_rf
  | some k =>
    obtain ⟨hk8, a, ha, -⟩ := clf_lt hk
    have ho := h k hk8
    rw [ha] at ho
    have ho : ac I L (26 + 7 * k) a := ho
    rw [hk] at hq hw
    simp only [pq, Option.map_some] at hw
    simp only [Option.bind_some, ha] at hq
    subst hw
    refine wp_aload (k := 0) rfl rfl ?_
    refine w_gr (k := 1) (s := 6) rfl rfl (by first | assumption | rfl) (by first | assumption | rfl) ?_
    refine w_ic (k := 2) (x := nI 18) rfl (oi_nI 18) ?_
    refine w_Vi (k := 3) [_] rfl rfl rfl (Nat.le_of_ble_eq_true rfl) (by first | assumption | rfl) (Or.inl ⟨rfl, rfl⟩) ?_
    refine (c_38 (lqT N _) hA.2.2.2 hl hm (by decide) ?_)
    refine ⟨_, rfl, ?_⟩
    refine wp_istore (k := 4) rfl rfl ?_
    refine wp_aload (k := 5) rfl rfl ?_
    refine w_gr (k := 6) (s := 6) rfl rfl (by first | assumption | rfl) (by first | assumption | rfl) ?_
    refine w_ic (k := 7) (x := nI 19) rfl (oi_nI 19) ?_
    refine w_Vi (k := 8) [_] rfl rfl rfl (Nat.le_of_ble_eq_true rfl) (by first | assumption | rfl) (Or.inl ⟨rfl, rfl⟩) ?_
    refine (c_38 (lqT N _) hA.2.2.2 hl hm (by decide) ?_)
    refine ⟨_, rfl, ?_⟩
    refine wp_istore (k := 9) rfl rfl ?_
    refine wp_aload (k := 10) rfl rfl ?_
    refine w_gr (k := 11) (s := 13) rfl rfl (by first | assumption | rfl) (by first | assumption | rfl) ?_
    refine wp_ifnull (k := 12) rfl ?_
    cases h18 : fnd A 18 with
    | none =>
      rw [h18] at hq
      refine wp_iload (k := 13) rfl rfl ?_
      refine w_ic (k := 14) (x := (-1)) rfl (by decide) ?_
      refine w_c_eq (k := 15) (t' := 25) rfl rfl (fun zq => ?_) (fun zq => absurd rfl zq)
      refine w_rv (k := 25) rfl rfl rfl rfl ?_
      exact hq I hp hT fc_rf
    | some p =>
      have e18 := fnd_lt h18
      have l104 := ats_len A
      rw [h18] at hq
      cases h19 : fnd A 19 with
      | none =>
        rw [h19] at hq
        refine wp_iload (k := 13) rfl rfl ?_
        refine w_ic (k := 14) (x := (-1)) rfl (by decide) ?_
        refine w_c_eq (k := 15) (t' := 25) rfl rfl (fun zq => absurd zq (nI_ne1 (by omega))) (fun zq => ?_)
        refine wp_iload (k := 16) rfl rfl ?_
        refine w_ic (k := 17) (x := (-1)) rfl (by decide) ?_
        refine w_c_eq (k := 18) (t' := 25) rfl rfl (fun zq => ?_) (fun zq => absurd rfl zq)
        refine w_rv (k := 25) rfl rfl rfl rfl ?_
        exact hq I hp hT fc_rf
      | some c =>
        have e19 := fnd_lt h19
        have fit := ats_fit hm e19.2.1
        rw [h19] at hq
        simp only at hq
        refine wp_iload (k := 13) rfl rfl ?_
        refine w_ic (k := 14) (x := (-1)) rfl (by decide) ?_
        refine w_c_eq (k := 15) (t' := 25) rfl rfl (fun zq => absurd zq (nI_ne1 (by omega))) (fun zq => ?_)
        refine wp_iload (k := 16) rfl rfl ?_
        refine w_ic (k := 17) (x := (-1)) rfl (by decide) ?_
        refine w_c_eq (k := 18) (t' := 25) rfl rfl (fun zq => absurd zq (nI_ne1 (by omega))) (fun zq => ?_)
        refine wp_aload (k := 19) rfl rfl ?_
        refine w_gr (k := 20) (s := 6) rfl rfl (by first | assumption | rfl) (by first | assumption | rfl) ?_
        refine wp_aload (k := 21) rfl rfl ?_
        refine w_gr (k := 22) (s := 8) rfl rfl (by first | assumption | rfl) (by first | assumption | rfl) ?_
        refine w_Vi (k := 23) [_] rfl rfl rfl (Nat.le_of_ble_eq_true rfl) (by first | assumption | rfl) (Or.inl ⟨rfl, rfl⟩) ?_
        refine (c_50 (lqT N _) hA.2.2.2 hl hm rfl (by decide) (by decide) (fun I1 k1 f1 => ⟨_, rfl, ?_⟩))
        have F1 : fc [92] I I1 := fc_1 (a := 92) f1 (by decide)
        have st8 := strg_len (cts A)
        refine w_m_le (k := 24) (t' := 26) rfl rfl (by omega) (fun k2 => ?_) (fun k2 => ?_)
        · rw [if_neg (by omega)] at hq
          have A1 := cT_k hA F1 (by decide) (by decide)
          have l1 : lr_ I1 94 A := lr_k hl (fun j hj => F1 _ (by simp; omega))
          have p1 := po_k hp F1 (by decide) (by decide) (by decide)
          have t1 : tl_c I1 T := fun j hj => by rw [F1 90 (by decide)]; exact hT j hj
          have ho1 : ac I1 L (26 + 7 * k) a := oc_k (o := some a) ho (fun j hj => F1 _ (by simp; omega)) (fun j hj => rfl)
          refine wp_aload (k := 26) rfl rfl ?_
          refine wp_aload (k := 27) rfl rfl ?_
          refine w_gr (k := 28) (s := 13) rfl rfl (by first | assumption | rfl) (by first | assumption | rfl) ?_
          refine wp_aload (k := 29) rfl rfl ?_
          refine w_gr (k := 30) (s := 6) rfl rfl (by first | assumption | rfl) (by first | assumption | rfl) ?_
          refine wp_iload (k := 31) rfl rfl ?_
          refine w_Vi (k := 32) [_] rfl rfl rfl (Nat.le_of_ble_eq_true rfl) (by first | assumption | rfl) (Or.inl ⟨rfl, rfl⟩) ?_
          refine (c_46 (lqT N _) (rwT N _) A1 l1 hm e18.2.1 ?_)
          refine ⟨_, rfl, ?_⟩
          refine wp_aload (k := 33) rfl rfl ?_
          refine w_gr (k := 34) (s := 6) rfl rfl (by first | assumption | rfl) (by first | assumption | rfl) ?_
          refine wp_iload (k := 35) rfl rfl ?_
          refine w_Vi (k := 36) [_] rfl rfl rfl (Nat.le_of_ble_eq_true rfl) (by first | assumption | rfl) (Or.inl ⟨rfl, rfl⟩) ?_
          refine (c_47 (lqT N _) (rwT N _) A1 l1 hm e18.2.1 ?_)
          refine ⟨_, rfl, ?_⟩
          refine wp_aload (k := 37) rfl rfl ?_
          refine w_gr (k := 38) (s := 6) rfl rfl (by first | assumption | rfl) (by first | assumption | rfl) ?_
          refine wp_iload (k := 39) rfl rfl ?_
          refine w_Vi (k := 40) [_] rfl rfl rfl (Nat.le_of_ble_eq_true rfl) (by first | assumption | rfl) (Or.inl ⟨rfl, rfl⟩) ?_
          refine (c_44 (lqT N _) l1 hm e19.2.1 ?_)
          refine ⟨_, rfl, ?_⟩
          refine wp_aload (k := 41) rfl rfl ?_
          refine w_gr (k := 42) (s := 6) rfl rfl (by first | assumption | rfl) (by first | assumption | rfl) ?_
          refine wp_iload (k := 43) rfl rfl ?_
          refine w_Vi (k := 44) [_] rfl rfl rfl (Nat.le_of_ble_eq_true rfl) (by first | assumption | rfl) (Or.inl ⟨rfl, rfl⟩) ?_
          refine (c_43 (lqT N _) l1 hm e19.2.1 ?_)
          refine ⟨_, rfl, ?_⟩
          refine w_Vv (k := 45) [_, _, _, _, _] rfl rfl rfl (Nat.le_of_ble_eq_true rfl) (by first | assumption | rfl) (Or.inl ⟨rfl, rfl⟩) ?_
          refine (c_106 hk8 ho1 A1 p1 t1 fit (fun I' p' t' f' => ⟨rfl, ?_⟩))
          refine w_rv (k := 46) rfl rfl rfl rfl ?_
          exact hq I' p' t' (fc_t (fc_mo F1 (by decide)) (fc_mo f' (by decide)))
        · rw [if_pos (by omega)] at hq
          refine w_rv (k := 25) rfl rfl rfl rfl ?_
          exact hq I1 (po_k hp F1 (by decide) (by decide) (by decide)) (fun j hj => by rw [F1 90 (by decide)]; exact hT j hj) (fc_mo F1 (by decide))
theorem z_18 {B : List Nat} {a : AT} (h1 : a.1 = 18) (h : snd_ B a = true) : a.2.1 = 8 := by
  unfold snd_ sndf at h
  rw [h1, if_neg (by decide), if_neg (by decide), if_pos (by decide)] at h
  exact (of_decide_eq_true h).1
theorem z_word {B : List Nat} {a : AT} (h1 : a.1 = 6 ∨ a.1 = 20) (h : snd_ B a = true) : 1 ≤ a.2.1 ∧ a.2.1 ≤ 8 := by
  unfold snd_ sndf at h
  rw [if_pos h1] at h
  exact of_decide_eq_true h
theorem z_21 {B : List Nat} {a : AT} (h1 : a.1 = 21) (h : snd_ B a = true) : a.2.1 = 8 := by
  unfold snd_ sndf at h
  rw [h1, if_neg (by decide), if_pos (by decide)] at h
  exact of_decide_eq_true h
theorem z_4 {B : List Nat} {a : AT} (h1 : a.1 = 12 ∨ a.1 = 13 ∨ a.1 = 25) (h : snd_ B a = true) : a.2.1 = 4 := by
  unfold snd_ sndf at h
  rw [if_neg (by omega), if_neg (by omega), if_neg (by omega), if_pos (by omega)] at h
  exact of_decide_eq_true h
theorem z_28 {B : List Nat} {a : AT} (h1 : a.1 = 28) (h : snd_ B a = true) : a.2.1 = 32 := by
  unfold snd_ sndf at h
  rw [h1, if_neg (by decide), if_neg (by decide), if_neg (by decide), if_neg (by decide), if_neg (by decide), if_pos (by decide)] at h
  exact of_decide_eq_true h
theorem c_240 (h : tbm I L al) (hok : tok al) (hA : mT I A) (hm : msg A = true) (hD : mD I A (ats A)) (hX : mst I (strg (cts A))) (hp : po_m I (clr s)) (hT : tl_m I T) {ip port : Int32} (h65 : I 100 65 = ip) (h66 : I 100 66 = port) (hq : ∀ I', po_m I' (sd_s al A s T ip port).1 → tl_m I' (sd_s al A s T ip port).2 → fx [113] SS I I' → mT I' A → Q none (am_SH N, I', L, am_RR w)) : am_call (d + 4) 240 [.ref 100] (am_SH N, I, L, am_RR w) Q := by
  have l104 := ats_len A
  unfold sd_s at hq
  refine am_enter (ls := [some _, none, none, none]) (cs := am_c240) rfl rfl (Nat.le_of_ble_eq_true rfl) rfl ?_
  refine wp_aload (k := 0) rfl rfl ?_
  refine w_ic (k := 1) (x := nI 18) rfl (oi_nI 18) ?_
  refine w_Vi (k := 2) [_] rfl rfl rfl (Nat.le_of_ble_eq_true rfl) (by first | assumption | rfl) (Or.inl ⟨rfl, rfl⟩) ?_
  refine (c_218 hA hm hD (by unfold kfs; omega) ?_)
  refine ⟨_, rfl, ?_⟩
  refine wp_istore (k := 3) rfl rfl ?_
  refine wp_aload (k := 4) rfl rfl ?_
  refine w_ic (k := 5) (x := nI 19) rfl (oi_nI 19) ?_
  refine w_Vi (k := 6) [_] rfl rfl rfl (Nat.le_of_ble_eq_true rfl) (by first | assumption | rfl) (Or.inl ⟨rfl, rfl⟩) ?_
  refine (c_218 hA hm hD (by unfold kfs; omega) ?_)
  refine ⟨_, rfl, ?_⟩
  refine wp_istore (k := 7) rfl rfl ?_
  refine wp_aload (k := 8) rfl rfl ?_
  refine wp_aload (k := 9) rfl rfl ?_
  refine w_gi (k := 10) (s := 65) rfl rfl (by first | assumption | rfl) h65 ?_
  refine wp_aload (k := 11) rfl rfl ?_
  refine w_gi (k := 12) (s := 66) rfl rfl (by first | assumption | rfl) h66 ?_
  refine w_Vi (k := 13) [_, _] rfl rfl rfl (Nat.le_of_ble_eq_true rfl) (by first | assumption | rfl) (Or.inl ⟨rfl, rfl⟩) ?_
  refine (c_209 h hok ?_)
  refine ⟨_, rfl, ?_⟩
  refine wp_istore (k := 14) rfl rfl ?_
  cases h18 : fnd A 18 with
  | none =>
    have e : (SN × (Nat → Int32)) := (clr s, T)
    have hq' := hq I
    rw [h18] at hq'
    have hq' : Q none (am_SH N, I, L, am_RR w) := by
      cases hb : (clf al ip port).bind al with
      | none => rw [hb] at hq'; exact hq' hp hT fx_rf hA
      | some a => rw [hb] at hq'; exact hq' hp hT fx_rf hA
    refine wp_iload (k := 15) rfl rfl ?_
    refine w_z_lt (k := 16) (t' := 31) rfl rfl (fun zq => ?_) (fun zq => absurd (by decide) zq)
    refine w_rv (k := 31) rfl rfl rfl rfl ?_
    exact hq'
  | some p =>
    have e18 := fnd_lt h18
    rw [h18] at hq
    cases h19 : fnd A 19 with
    | none =>
      have hq' := hq I
      rw [h19] at hq'
      have hq' : Q none (am_SH N, I, L, am_RR w) := by
        cases hb : (clf al ip port).bind al with
        | none => rw [hb] at hq'; exact hq' hp hT fx_rf hA
        | some a => rw [hb] at hq'; exact hq' hp hT fx_rf hA
      refine wp_iload (k := 15) rfl rfl ?_
      refine w_z_lt (k := 16) (t' := 31) rfl rfl (fun zq => absurd zq (nI_pos (by omega))) (fun zq => ?_)
      refine wp_iload (k := 17) rfl rfl ?_
      refine w_z_lt (k := 18) (t' := 31) rfl rfl (fun zq => ?_) (fun zq => absurd (by decide) zq)
      refine w_rv (k := 31) rfl rfl rfl rfl ?_
      exact hq'
    | some c =>
      have e19 := fnd_lt h19
      have fit := ats_fit hm e19.2.1
      have st8 := strg_len (cts A)
      rw [h19] at hq
      simp only at hq
      refine wp_iload (k := 15) rfl rfl ?_
      refine w_z_lt (k := 16) (t' := 31) rfl rfl (fun zq => absurd zq (nI_pos (by omega))) (fun zq => ?_)
      refine wp_iload (k := 17) rfl rfl ?_
      refine w_z_lt (k := 18) (t' := 31) rfl rfl (fun zq => absurd zq (nI_pos (by omega))) (fun zq => ?_)
      refine wp_aload (k := 19) rfl rfl ?_
      refine w_gi (k := 20) (s := 58) rfl rfl (by first | assumption | rfl) hX.1 ?_
      refine w_m_gt (k := 21) (t' := 31) rfl rfl (by omega) (fun k1 => ?_) (fun k1 => ?_)
      · have hq' := hq I
        have hq' : Q none (am_SH N, I, L, am_RR w) := by
          cases hb : (clf al ip port).bind al with
          | none => rw [hb] at hq'; exact hq' hp hT fx_rf hA
          | some a => rw [hb] at hq'; simp only at hq'; rw [if_pos k1] at hq'; exact hq' hp hT fx_rf hA
        refine w_rv (k := 31) rfl rfl rfl rfl ?_
        exact hq'
      · cases hk : clf al ip port with
        | none =>
          rw [hk] at hq
          refine wp_iload (k := 22) rfl rfl ?_
          refine w_z_lt (k := 23) (t' := 31) rfl rfl (fun zq => ?_) (fun zq => absurd (by decide) zq)
          refine w_rv (k := 31) rfl rfl rfl rfl ?_
          exact hq I hp hT fx_rf hA
        | some k =>
          obtain ⟨hk8, a, ha, -⟩ := clf_lt hk
          have hmm := h k hk8
          rw [ha] at hmm
          have hmm : sm I L k a := hmm
          have hoa := hok.1 k a hk8 ha
          obtain ⟨a1, a2, a3, a4, a5, a6, a7, a8, a9⟩ := id hmm
          rw [hk] at hq
          simp only [Option.bind_some, ha] at hq
          rw [if_neg (by omega)] at hq
          simp only [rly] at hq
          have s18 := z_18 e18.2.2.1 e18.2.2.2
          have q19 := hD.2.2.2.2 c (by rw [cnD_ats]; exact e19.1)
          have l96 := ats_100 hA.2.2 hm
          refine wp_iload (k := 22) rfl rfl ?_
          refine w_z_lt (k := 23) (t' := 31) rfl rfl (fun zq => absurd zq (nI_pos (by omega))) (fun zq => ?_)
          refine wp_aload (k := 24) rfl rfl ?_
          refine wp_iload (k := 25) rfl rfl ?_
          refine wp_aload (k := 26) rfl rfl ?_
          refine wp_iload (k := 27) rfl rfl ?_
          refine w_Vi (k := 28) [_] rfl rfl rfl (Nat.le_of_ble_eq_true rfl) (by first | assumption | rfl) (Or.inl ⟨rfl, rfl⟩) ?_
          refine (c_221 hA hm hD e18.1 s18 ?_)
          refine ⟨_, rfl, ?_⟩
          refine w_Vi (k := 29) [_, _] rfl rfl rfl (Nat.le_of_ble_eq_true rfl) (by first | assumption | rfl) (Or.inl ⟨rfl, rfl⟩) ?_
          refine (c_210 hk8 a8 hoa.1 ?_)
          refine ⟨_, rfl, ?_⟩
          cases hf : pf a.2.2.2.1 (ipo A p) with
          | none =>
            rw [hf] at hq
            refine w_z_ge (k := 30) (t' := 32) rfl rfl (fun zq => absurd zq (by decide)) (fun zq => ?_)
            refine w_rv (k := 31) rfl rfl rfl rfl ?_
            exact hq I hp hT fx_rf hA
          | some i =>
            rw [hf] at hq
            have hi := (pf_lt hf).1
            have hl16 := a8.2.1
            refine w_z_ge (k := 30) (t' := 32) rfl rfl (fun zq => ?_) (fun zq => absurd (nI_pos' (by omega)) zq)
            refine wp_aload (k := 32) rfl rfl ?_
            refine wp_iload (k := 33) rfl rfl ?_
            refine wp_aload (k := 34) rfl rfl ?_
            refine w_gr (k := 35) (s := 52) rfl rfl (by first | assumption | rfl) (by first | assumption | rfl) ?_
            refine wp_iload (k := 36) rfl rfl ?_
            refine w_iald (k := 37) rfl rfl (by first | assumption | rfl) (by omega) q19.2.2 ?_
            refine wp_aload (k := 38) rfl rfl ?_
            refine w_gr (k := 39) (s := 51) rfl rfl (by first | assumption | rfl) (by first | assumption | rfl) ?_
            refine wp_iload (k := 40) rfl rfl ?_
            refine w_iald (k := 41) rfl rfl (by first | assumption | rfl) (by omega) q19.2.1 ?_
            refine wp_aload (k := 42) rfl rfl ?_
            refine wp_iload (k := 43) rfl rfl ?_
            refine w_Vi (k := 44) [_] rfl rfl rfl (Nat.le_of_ble_eq_true rfl) (by first | assumption | rfl) (Or.inl ⟨rfl, rfl⟩) ?_
            refine (c_221 hA hm hD e18.1 s18 ?_)
            refine ⟨_, rfl, ?_⟩
            refine wp_aload (k := 45) rfl rfl ?_
            refine wp_iload (k := 46) rfl rfl ?_
            refine w_Vi (k := 47) [_] rfl rfl rfl (Nat.le_of_ble_eq_true rfl) (by first | assumption | rfl) (Or.inl ⟨rfl, rfl⟩) ?_
            refine (c_222 hA hm hD e18.1 s18 ?_)
            refine ⟨_, rfl, ?_⟩
            refine w_Vv (k := 48) [_, _, _, _, _] rfl rfl rfl (Nat.le_of_ble_eq_true rfl) (by first | assumption | rfl) (Or.inl ⟨rfl, rfl⟩) ?_
            refine (c_238 hk8 a5 hA hp hT fit (fun I' p' t' f' A' => ⟨rfl, ?_⟩))
            refine w_rv (k := 49) rfl rfl rfl rfl ?_
            exact hq I' p' t' f' A'
end SDA
