/-! ===== the reference answers: granted, refresh ===== -/
def fy (I I' : Nat → Nat → Int32) : Prop := (∀ x, x ≠ 100 → x ∉ PA → (x < 120 ∨ 134 < x) → I' x = I x) ∧ ∀ s, s ∉ SA → I' 100 s = I 100 s
def fyl (L L' : Nat → Nat → Int64) : Prop := (∀ x, x ≠ 100 → (x < 120 ∨ 134 < x) → L' x = L x) ∧ ∀ s, s ≠ 7 → L' 100 s = L 100 s
theorem fy_rf {I : Nat → Nat → Int32} : fy I I := ⟨fun _ _ _ _ => rfl, fun _ _ => rfl⟩
theorem fyl_rf {L : Nat → Nat → Int64} : fyl L L := ⟨fun _ _ _ => rfl, fun _ _ => rfl⟩
theorem fy_t {I I1 I2 : Nat → Nat → Int32} (h1 : fy I I1) (h2 : fy I1 I2) : fy I I2 := ⟨fun x a b c => by rw [h2.1 x a b c, h1.1 x a b c], fun s hs => by rw [h2.2 s hs, h1.2 s hs]⟩
theorem fyl_t {L L1 L2 : Nat → Nat → Int64} (h1 : fyl L L1) (h2 : fyl L1 L2) : fyl L L2 := ⟨fun x a c => by rw [h2.1 x a c, h1.1 x a c], fun s hs => by rw [h2.2 s hs, h1.2 s hs]⟩
theorem fy_x {P S : List Nat} {I I1 : Nat → Nat → Int32} (h : fx P S I I1) (hp : ∀ x ∈ P, x ∈ PA) (hs : ∀ x ∈ S, x ∈ SA) : fy I I1 := ⟨fun x a b _ => h.1 x a (fun q => b (hp x q)), fun s a => h.2 s (fun q => a (hs s q))⟩
theorem fyl_x {L L1 : Nat → Nat → Int64} (h : fl [7] L L1) : fyl L L1 := ⟨fun x a _ => h.1 x a, fun s a => h.2 s (by simp; exact a)⟩
theorem fy_a {I I1 : Nat → Nat → Int32} (h : ∀ x, x < 120 ∨ 134 < x → I1 x = I x) : fy I I1 := ⟨fun x _ _ c => h x c, fun s _ => by rw [h 100 (by omega)]⟩
theorem fyl_a {L L1 : Nat → Nat → Int64} (h : ∀ x, x < 120 ∨ 134 < x → L1 x = L x) : fyl L L1 := ⟨fun x _ c => h x c, fun s _ => by rw [h 100 (by omega)]⟩
def CX (I : Nat → Nat → Int32) (L : Nat → Nat → Int64) (A : List Nat) (U : UR) (rl : List Nat) (fr t : Int64) (n : Int32) (F : FR) (T : Nat → Int32) (s : SN) (ip port : Int32) (sg : Option Nat) : Prop :=
  (mT I A ∧ msg A = true ∧ mD I A (ats A)) ∧ (po_m I (clr s) ∧ tl_m I T) ∧ (I 100 65 = ip ∧ I 100 66 = port ∧ I 100 67 = oI sg ∧ ∀ k, sg = some k → k < U.length) ∧ (mk I ∧ mr I rl ∧ wd rl) ∧ (us_ok U ∧ us_m I L U) ∧ (L 100 29 = fr ∧ mst I (strg (cts A))) ∧ (fn_ok F ∧ fn_m I F) ∧ L 100 34 = t ∧ I 100 30 = n
def res (I I' : Nat → Nat → Int32) (L L' : Nat → Nat → Int64) (A : List Nat) (U : UR) (rl : List Nat) (fr : Int64) (T : Nat → Int32) (ip port : Int32) (sg : Option Nat) (m : Int32) (pr : PR) : Prop :=
  tbm I' L' pr.2.1 ∧ po_m I' (true, ip, port, nI 3478, fgb A (sgb U rl sg (bod rl fr A m ip port pr.1 pr.2.2.1 pr.2.2.2))) ∧ tl_m I' (if pr.1 = 0 then inc T 0 else inc (inc T 0) 4) ∧ mk I' ∧ fy I I' ∧ fyl L L'
section MG
variable {d N : Nat} {I : Nat → Nat → Int32} {L : Nat → Nat → Int64} {w : Option Nat} {Q : am_Q} {A : List Nat} {al : Nat → Option AL} {U : UR} {rl : List Nat} {fr t : Int64} {n : Int32} {F : FR} {T : Nat → Int32} {s : SN} {ip port : Int32} {sg : Option Nat} {I0 : Nat → Nat → Int32} {L0 : Nat → Nat → Int64}
theorem msg20 (hm : msg A = true) : 20 ≤ A.length := by
  unfold msg hdk at hm
  rw [Bool.and_eq_true] at hm
  exact (of_decide_eq_true hm.1).1
theorem cx_k {I' : Nat → Nat → Int32} {L' : Nat → Nat → Int64} (h : CX I L A U rl fr t n F T s ip port sg) (f : ∀ x, x < 120 ∨ 134 < x → I' x = I x) (g : ∀ x, x < 120 ∨ 134 < x → L' x = L x) : CX I' L' A U rl fr t n F T s ip port sg := by
  obtain ⟨⟨hA, hm, hD⟩, ⟨hp, hT⟩, ⟨h65, h66, h67, hsg⟩, ⟨hk, hr, hrl⟩, ⟨hok, hu⟩, ⟨hfr, hX⟩, ⟨hfk, hF⟩, ht, hn⟩ := h
  have e100 : I' 100 = I 100 := f 100 (by omega)
  have g100 : L' 100 = L 100 := g 100 (by omega)
  obtain ⟨d1, d2, d3, d4, d5⟩ := hD
  obtain ⟨p1, p2, p3, p4, p5⟩ := hp
  refine ⟨⟨⟨by rw [e100]; exact hA.1, av_keep hA.2.1 (f 112 (by omega)), hA.2.2⟩, hm, ⟨by rw [e100]; exact d1, by rw [e100]; exact d2, by rw [e100]; exact d3, by rw [e100]; exact d4, fun i hi => by rw [f 135 (by omega), f 136 (by omega), f 137 (by omega)]; exact d5 i hi⟩⟩, ⟨⟨by rw [e100]; exact p1, by rw [e100]; exact p2, by rw [e100]; exact p3, by rw [e100]; exact p4, ⟨by rw [e100]; exact p5.1, av_keep p5.2.1 (f 113 (by omega)), p5.2.2⟩⟩, fun j hj => by rw [e100]; exact hT j hj⟩, ⟨by rw [e100]; exact h65, by rw [e100]; exact h66, by rw [e100]; exact h67, hsg⟩, ⟨mk_k hk (f 101 (by omega)) (f 102 (by omega)), ⟨by rw [e100]; exact hr.1, av_keep hr.2 (f 117 (by omega))⟩, hrl⟩, ⟨hok, ⟨by rw [e100]; exact hu.1, fun i hi => by rw [g 115 (by omega), g 116 (by omega)]; exact hu.2 i hi⟩⟩, ⟨by rw [g100]; exact hfr, ⟨by rw [e100]; exact hX.1, fun i hi => by rw [f 138 (by omega)]; exact hX.2 i hi⟩⟩, ⟨hfk, ⟨by rw [e100]; exact hF.1, fun i hi => by rw [f 118 (by omega), f 119 (by omega)]; exact hF.2 i hi⟩⟩, by rw [g100]; exact ht, by rw [e100]; exact hn⟩
theorem tbm_x {P S : List Nat} {I I' : Nat → Nat → Int32} {L L' : Nat → Nat → Int64} (h : tbm I L al) (f : fx P S I I') (g : fl [7] L L') (hp : ∀ x, 120 ≤ x → x ≤ 134 → x ∉ P) : tbm I' L' al := tbm_k h (fun x h1 h2 => f.1 x (by omega) (hp x h1 h2)) (fun x h1 h2 => g.1 x (by omega))
theorem PA_no : ∀ x, 120 ≤ x → x ≤ 134 → x ∉ PA := fun x h1 h2 => by unfold PA; simp; omega
theorem c_233r (h : CX I L A U rl fr t n F T s ip port sg) (hb : tbm I L al) (f0 : fy I0 I) (g0 : fyl L0 L) {e : Nat} (he : e ∈ errs) {pr : PR} (hpr : pr = (e, al, 0, 0)) (hq : ∀ I' L', res I0 I' L0 L' A U rl fr T ip port sg (mth (nb A 0 2)) pr → Q none (am_SH N, I', L', am_RR w)) : am_call (d + 7) 233 [.ref 100, .int (nI e)] (am_SH N, I, L, am_RR w) Q := by
  obtain ⟨⟨hA, hm, hD⟩, ⟨hp, hT⟩, ⟨h65, h66, h67, hsg⟩, ⟨hk, hr, hrl⟩, ⟨hok, hu⟩, ⟨hfr, hX⟩, ⟨hfk, hF⟩, ht, hn⟩ := h
  subst hpr
  have hel := errs_lt e he
  refine c_233 hA hm hD.2.2.1 hp hT h65 h66 h67 hsg hk hr hrl hok hu hfr hX (strg_len _) (strg_lt _) he (fun I' L' p' t' m' f' g' => hq I' L' ⟨tbm_x hb f' g' PA_no, ?_, ?_, m', fy_t f0 (fy_x f' (fun _ h => h) (fun _ h => h)), fyl_t g0 (fyl_x g')⟩)
  · unfold bod; rw [if_neg (by show ¬ e = 0; omega)]; exact p'
  · rw [if_neg (by show ¬ e = 0; omega)]; exact t'
theorem c_232r {I1 : Nat → Nat → Int32} (h : CX I1 L A U rl fr t n F T s ip port sg) (hb : tbm I1 L al) (f0 : fy I0 I1) (g0 : fyl L0 L) {m rel lft : Int32} (hm : m = mth (nb A 0 2)) (f1 : fx [113] [17] I1 I) (hS : mS I (told (hdA A m 0) m rel lft ip port)) {pr : PR} (hpr : pr = (0, al, rel, lft)) (hq : ∀ I' L', res I0 I' L0 L' A U rl fr T ip port sg (mth (nb A 0 2)) pr → Q none (am_SH N, I', L', am_RR w)) : am_call (d + 6) 232 [.ref 100] (am_SH N, I, L, am_RR w) Q := by
  obtain ⟨⟨hA, hm', hD⟩, ⟨hp, hT⟩, ⟨h65, h66, h67, hsg⟩, ⟨hk, hr, hrl⟩, ⟨hok, hu⟩, ⟨hfr, hX⟩, ⟨hfk, hF⟩, ht, hn⟩ := h
  subst hpr
  obtain ⟨p1, p2, p3, p4, p5⟩ := hp
  have hl20 : (hdA A m 0).length = 20 := hd20_len _ _ _ _
  have hl := told_len hl20 m rel lft ip port
  refine c_232 (T := T) (ip := ip) (port := port) (x := s.2.1) (y := s.2.2.1) (z := s.2.2.2.1) hm' hA.2.1.2 hA.2.2 (by rw [f1.2 55 (by decide)]; exact hD.2.2.1) ⟨by rw [f1.2 18 (by decide)]; exact p1, by rw [f1.2 19 (by decide)]; exact p2, by rw [f1.2 20 (by decide)]; exact p3, by rw [f1.2 21 (by decide)]; exact p4, hS⟩ hl.1 hl.2 (tl_k hT f1 (fun j hj => by simp; omega)) (by rw [f1.2 65 (by decide)]; exact h65) (by rw [f1.2 66 (by decide)]; exact h66) (by rw [f1.2 67 (by decide)]; exact h67) hsg (mk_k hk (f1.1 101 (by decide) (by decide)) (f1.1 102 (by decide) (by decide))) ⟨by rw [f1.2 28 (by decide)]; exact hr.1, av_keep hr.2 (f1.1 117 (by decide) (by decide))⟩ hrl hok (us_m_k hu f1 (by decide) rfl rfl) (fun I' L' p' t' m'' f' g' => hq I' L' ⟨tbm_x (tbm_x hb f1 fl_rf (fun x h1 h2 => by simp; omega)) f' g' PA_no, ?_, t', m'', fy_t f0 (fy_t (fy_x f1 (by decide) (by decide)) (fy_x f' (fun _ h => h) (fun _ h => h))), fyl_t g0 (fyl_x g')⟩)
  unfold bod
  rw [if_pos (show (0 : Nat) = 0 from rfl), ← hm]
  exact p'
theorem hdA_0 (m : Int32) : hdA A m 0 = hd20 (uI (tyC m (nI 2))) (nb A 8 4) (nb A 12 4) (nb A 16 4) := rfl
theorem c_249 (h : CX I L A U rl fr t n F T s ip port sg) (hb : tbm I L al) (f0 : fy I0 I) (g0 : fyl L0 L) (hm3 : mth (nb A 0 2) = nI 3) {k : Nat} (hk8 : k < 8) {a : AL} (ha : al k = some a) {pr : PR} (hpr : pr = (0, al, a.1.2.2.2, (a.2.1 - t).toInt32)) (hq : ∀ I' L', res I0 I' L0 L' A U rl fr T ip port sg (mth (nb A 0 2)) pr → Q none (am_SH N, I', L', am_RR w)) : am_call (d + 7) 249 [.ref 100, .int (nI k)] (am_SH N, I, L, am_RR w) Q := by
  have hh := h
  obtain ⟨⟨hA, hm, hD⟩, ⟨hp, hT⟩, ⟨h65, h66, h67, hsg⟩, ⟨hk, hr, hrl⟩, ⟨hok, hu⟩, ⟨hfr, hX⟩, ⟨hfk, hF⟩, ht, hn⟩ := h
  have hmm := hb k hk8
  rw [ha] at hmm
  have hmm : sm I L k a := hmm
  obtain ⟨a1, a2, a3, a4, a5, a6, a7, a8, a9⟩ := id hmm
  have h20 := msg20 hm
  refine am_enter (ls := [some _, some _]) (cs := am_c249) rfl rfl (Nat.le_of_ble_eq_true rfl) rfl ?_
  refine wp_aload (k := 0) rfl rfl ?_
  refine w_ic (k := 1) (x := nI 3) rfl (oi_nI 3) ?_
  refine w_ic (k := 2) (x := nI 2) rfl (oi_nI 2) ?_
  refine w_Vv (k := 3) [_, _] rfl rfl rfl (Nat.le_of_ble_eq_true rfl) (by first | assumption | rfl) (Or.inl ⟨rfl, rfl⟩) ?_
  refine (c_225 hA h20 hp.2.2.2.2 (by decide) (fun I1 k1 f1 => ⟨rfl, ?_⟩))
  rw [← hdA_0] at k1
  have hl20 : (hdA A (nI 3) 0).length = 20 := hd20_len _ _ _ _
  have ex : told (hdA A (nI 3) 0) (nI 3) a.1.2.2.2 (a.2.1 - t).toInt32 ip port = at_ (at_ (at_ (hdA A (nI 3) 0) 22 (adr (-1062731519) a.1.2.2.2)) 13 (be 4 (uI (a.2.1 - t).toInt32))) 32 (adr ip port) := by unfold told; rw [if_pos rfl]
  have e1 : I1 124 k = a.1.2.2.2 := by rw [f1.1 124 (by decide) (by decide)]; exact a5
  refine wp_aload (k := 4) rfl rfl ?_
  refine w_ic (k := 5) (x := nI 22) rfl (oi_nI 22) ?_
  refine w_ic (k := 6) (x := (-1062731519)) rfl (by decide) ?_
  refine wp_aload (k := 7) rfl rfl ?_
  refine w_gr (k := 8) (s := 39) rfl rfl (by first | assumption | rfl) (by first | assumption | rfl) ?_
  refine wp_iload (k := 9) rfl rfl ?_
  refine w_iald (k := 10) rfl rfl (by first | assumption | rfl) (by omega) e1 ?_
  refine w_Vv (k := 11) [_, _, _] rfl rfl rfl (Nat.le_of_ble_eq_true rfl) (by first | assumption | rfl) (Or.inl ⟨rfl, rfl⟩) ?_
  refine (c_230 k1 (by omega) (by omega) (fun I2 k2 f2 => ⟨rfl, ?_⟩))
  rw [uI_nI (by decide)] at k2
  have len2 : (at_ (hdA A (nI 3) 0) 22 (adr (-1062731519) a.1.2.2.2)).length = 32 := by rw [at_len (by omega), adr_len, hl20, pad4_8]
  refine wp_aload (k := 12) rfl rfl ?_
  refine w_ic (k := 13) (x := nI 13) rfl (oi_nI 13) ?_
  refine wp_aload (k := 14) rfl rfl ?_
  refine w_gr (k := 15) (s := 40) rfl rfl (by first | assumption | rfl) (by first | assumption | rfl) ?_
  refine wp_iload (k := 16) rfl rfl ?_
  refine w_lald (k := 17) rfl rfl (by first | assumption | rfl) (by omega) a6 ?_
  refine wp_aload (k := 18) rfl rfl ?_
  refine w_gl (k := 19) (s := 34) rfl rfl (by first | assumption | rfl) ht ?_
  refine wp_lsub (k := 20) rfl ?_
  refine wp_l2i (k := 21) rfl ?_
  refine w_Vv (k := 22) [_, _] rfl rfl rfl (Nat.le_of_ble_eq_true rfl) (by first | assumption | rfl) (Or.inl ⟨rfl, rfl⟩) ?_
  refine (c_231 k2 (by omega) (by omega) (fun I3 k3 f3 => ⟨rfl, ?_⟩))
  rw [uI_nI (by decide)] at k3
  have len3 : (at_ (at_ (hdA A (nI 3) 0) 22 (adr (-1062731519) a.1.2.2.2)) 13 (be 4 (uI (a.2.1 - t).toInt32))).length = 40 := by rw [at_len (by omega), be_len, len2, pad4_4]
  have F3 : fx [113] [17] I I3 := fx_t f1 (fx_t f2 f3)
  have v65 : I3 100 65 = ip := by rw [F3.2 65 (by decide)]; exact h65
  have v66 : I3 100 66 = port := by rw [F3.2 66 (by decide)]; exact h66
  refine wp_aload (k := 23) rfl rfl ?_
  refine w_ic (k := 24) (x := nI 32) rfl (oi_nI 32) ?_
  refine wp_aload (k := 25) rfl rfl ?_
  refine w_gi (k := 26) (s := 65) rfl rfl (by first | assumption | rfl) v65 ?_
  refine wp_aload (k := 27) rfl rfl ?_
  refine w_gi (k := 28) (s := 66) rfl rfl (by first | assumption | rfl) v66 ?_
  refine w_Vv (k := 29) [_, _, _] rfl rfl rfl (Nat.le_of_ble_eq_true rfl) (by first | assumption | rfl) (Or.inl ⟨rfl, rfl⟩) ?_
  refine (c_230 k3 (by omega) (by omega) (fun I4 k4 f4 => ⟨rfl, ?_⟩))
  rw [uI_nI (by decide), ← ex] at k4
  refine wp_aload (k := 30) rfl rfl ?_
  refine w_Vv (k := 31) [] rfl rfl rfl (Nat.le_of_ble_eq_true rfl) (by first | assumption | rfl) (Or.inl ⟨rfl, rfl⟩) ?_
  refine (c_232r hh hb f0 g0 hm3.symm (fx_t F3 f4) k4 hpr (fun I' L' r' => ⟨rfl, ?_⟩))
  refine w_rv (k := 32) rfl rfl rfl rfl ?_
  exact hq I' L' r'
theorem c_250 (h : CX I L A U rl fr t n F T s ip port sg) (hb : tbm I L al) (f0 : fy I0 I) (g0 : fyl L0 L) (hm4 : mth (nb A 0 2) = nI 4) {k : Nat} (hk8 : k < 8) {a : AL} (ha : al k = some a) {pr : PR} (hpr : pr = rfr al t A k a) (hq : ∀ I' L', res I0 I' L0 L' A U rl fr T ip port sg (mth (nb A 0 2)) pr → Q none (am_SH N, I', L', am_RR w)) : am_call (d + 7) 250 [.ref 100, .int (nI k)] (am_SH N, I, L, am_RR w) Q := by
  have hh := h
  obtain ⟨⟨hA, hm, hD⟩, ⟨hp, hT⟩, ⟨h65, h66, h67, hsg⟩, ⟨hk, hr, hrl⟩, ⟨hok, hu⟩, ⟨hfr, hX⟩, ⟨hfk, hF⟩, ht, hn⟩ := h
  have hmm := hb k hk8
  rw [ha] at hmm
  have hmm : sm I L k a := hmm
  obtain ⟨a1, a2, a3, a4, a5, a6, a7, ⟨b1, b2, b3⟩, ⟨c1, c2, c3⟩⟩ := id hmm
  have h20 := msg20 hm
  have l96 := ats_100 hA.2.2 hm
  have cl := cng_le A
  have t2 := hA.2.1
  have t3 := hA.2.2
  have hl20 : (hdA A (nI 4) 0).length = 20 := hd20_len _ _ _ _
  have ex : ∀ lft, told (hdA A (nI 4) 0) (nI 4) 0 lft ip port = at_ (hdA A (nI 4) 0) 13 (be 4 (uI lft)) := fun lft => by unfold told; rw [if_neg (by decide), if_pos rfl]
  -- behind the change of the tables
  have fin1 : ∀ (I1 : Nat → Nat → Int32) (L1 : Nat → Nat → Int64) (al1 : Nat → Option AL) (lft : Int32) (b : Bool) (o2 : Option Value), pr = (0, al1, 0, lft) → tbm I1 L1 al1 → (∀ x, x < 120 ∨ 134 < x → I1 x = I x) → (∀ x, x < 120 ∨ 134 < x → L1 x = L x) → (b = true → lft = nI 0) → (b = false → (L1 125 k - t).toInt32 = lft) → am_V 250 am_c250 (d + 6) (am_SH N) Q 35 [some (.ref 100), some (.int (nI k)), o2, some (.int (bI b))] [] (am_SH N, I1, L1, am_RR w) := by
    intro I1 L1 al1 lft b o2 hp1 b1 f1 g1 hb1 hb2
    have h1 := cx_k hh f1 g1
    have F1 : fy I0 I1 := fy_t f0 (fy_a f1)
    have G1 : fyl L0 L1 := fyl_t g0 (fyl_a g1)
    have hA1 : mT I1 A := h1.1.1
    have hp1' : po_m I1 (clr s) := h1.2.1.1
    have ht1 : L1 100 34 = t := by rw [g1 100 (by omega)]; exact ht
    refine wp_aload (k := 35) rfl rfl ?_
    refine w_ic (k := 36) (x := nI 4) rfl (oi_nI 4) ?_
    refine w_ic (k := 37) (x := nI 2) rfl (oi_nI 2) ?_
    refine w_Vv (k := 38) [_, _] rfl rfl rfl (Nat.le_of_ble_eq_true rfl) (by first | assumption | rfl) (Or.inl ⟨rfl, rfl⟩) ?_
    refine (c_225 hA1 h20 hp1'.2.2.2.2 (by decide) (fun I2 k2 f2 => ⟨rfl, ?_⟩))
    rw [← hdA_0] at k2
    have fin2 : am_V 250 am_c250 (d + 6) (am_SH N) Q 53 [some (.ref 100), some (.int (nI k)), o2, some (.int (bI b))] [.int lft, .int (nI 13), .ref 100] (am_SH N, I2, L1, am_RR w) := by
      refine w_Vv (k := 53) [_, _] rfl rfl rfl (Nat.le_of_ble_eq_true rfl) (by first | assumption | rfl) (Or.inl ⟨rfl, rfl⟩) ?_
      refine (c_231 k2 (by omega) (by omega) (fun I3 k3 f3 => ⟨rfl, ?_⟩))
      rw [uI_nI (by decide), ← ex] at k3
      refine wp_aload (k := 54) rfl rfl ?_
      refine w_Vv (k := 55) [] rfl rfl rfl (Nat.le_of_ble_eq_true rfl) (by first | assumption | rfl) (Or.inl ⟨rfl, rfl⟩) ?_
      refine (c_232r h1 b1 F1 G1 hm4.symm (fx_t f2 f3) k3 hp1 (fun I' L' r' => ⟨rfl, ?_⟩))
      refine w_rv (k := 56) rfl rfl rfl rfl ?_
      exact hq I' L' r'
    refine wp_aload (k := 39) rfl rfl ?_
    refine w_ic (k := 40) (x := nI 13) rfl (oi_nI 13) ?_
    refine wp_iload (k := 41) rfl rfl ?_
    refine w_b_eq (k := 42) (t' := 45) rfl rfl (fun e1 => ?_) (fun e1 => ?_)
    · have e := hb2 e1
      refine wp_aload (k := 45) rfl rfl ?_
      refine w_gr (k := 46) (s := 40) rfl rfl (by first | assumption | rfl) (by first | assumption | rfl) ?_
      refine wp_iload (k := 47) rfl rfl ?_
      refine w_lald (k := 48) rfl rfl (by first | assumption | rfl) (by omega) (by first | assumption | rfl) ?_
      refine wp_aload (k := 49) rfl rfl ?_
      refine w_gl (k := 50) (s := 34) rfl rfl (by first | assumption | rfl) ht1 ?_
      refine wp_lsub (k := 51) rfl ?_
      refine wp_l2i (k := 52) rfl ?_
      rw [e]
      exact fin2
    · rw [hb1 e1] at fin2
      refine w_ic (k := 43) (x := nI 0) rfl (oi_nI 0) ?_
      refine w_goto (k := 44) (t' := 53) rfl rfl ?_
      exact fin2
  have hgo : rfr al t A k a = (0, upa al k (some (a.1, t + lN (lfe A), a.2.2)), 0, (t + lN (lfe A) - t).toInt32) → am_V 250 am_c250 (d + 6) (am_SH N) Q 16 [some (.ref 100), some (.int (nI k)), some (.int (oI (fnd A 13))), none] [] (am_SH N, I, L, am_RR w) := fun e => by
    rw [e] at hpr
    refine w_ic (k := 16) (x := bI false) rfl rfl ?_
    refine wp_istore (k := 17) (ls2 := [some _, some _, some _, some _]) rfl rfl ?_
    refine wp_iload (k := 18) rfl rfl ?_
    refine w_b_eq (k := 19) (t' := 26) rfl rfl (fun zq => ?_) (fun zq => absurd (zq.symm.trans rfl) (by decide))
    refine wp_aload (k := 26) rfl rfl ?_
    refine w_gr (k := 27) (s := 40) rfl rfl (by first | assumption | rfl) (by first | assumption | rfl) ?_
    refine wp_iload (k := 28) rfl rfl ?_
    refine wp_aload (k := 29) rfl rfl ?_
    refine w_gl (k := 30) (s := 34) rfl rfl (by first | assumption | rfl) ht ?_
    refine wp_aload (k := 31) rfl rfl ?_
    refine w_Vl (k := 32) [] rfl rfl rfl (Nat.le_of_ble_eq_true rfl) (by first | assumption | rfl) (Or.inl ⟨rfl, rfl⟩) ?_
    refine (c_246 hA hm hD ?_)
    refine ⟨_, rfl, ?_⟩
    refine wp_ladd (k := 33) rfl ?_
    refine w_last (k := 34) rfl rfl (by first | assumption | rfl) (by omega) ?_
    refine fin1 I _ _ _ false _ hpr (tbm_u (k := k) (o := some _) hb fs_rf (fs_u (so_1 (by omega))) ?_) (fun _ _ => rfl) (fun x hx => am_uR (by omega)) (fun z => by cases z) (fun _ => by rw [am_us])
    exact ⟨a1, a2, a3, a4, a5, am_us, a7, ⟨b1, b2, fun j hj => ⟨(b3 j hj).1, by rw [am_uR (by decide)]; exact (b3 j hj).2⟩⟩, ⟨c1, c2, fun j hj => ⟨(c3 j hj).1, (c3 j hj).2.1, (c3 j hj).2.2.1, by rw [am_uR (by decide)]; exact (c3 j hj).2.2.2⟩⟩⟩
  refine am_enter (ls := [some _, some _, none, none]) (cs := am_c250) rfl rfl (Nat.le_of_ble_eq_true rfl) rfl ?_
  refine wp_aload (k := 0) rfl rfl ?_
  refine w_ic (k := 1) (x := nI 13) rfl (oi_nI 13) ?_
  refine w_Vi (k := 2) [_] rfl rfl rfl (Nat.le_of_ble_eq_true rfl) (by first | assumption | rfl) (Or.inl ⟨rfl, rfl⟩) ?_
  refine (c_218 hA hm hD (by unfold kfs; omega) ?_)
  refine ⟨_, rfl, ?_⟩
  refine wp_istore (k := 3) (ls2 := [some _, some _, some _, none]) rfl rfl ?_
  cases h13 : fnd A 13 with
  | none =>
    rw [h13] at hgo
    refine wp_iload (k := 4) rfl rfl ?_
    refine w_z_lt (k := 5) (t' := 16) rfl rfl (fun zq => ?_) (fun zq => absurd (by decide) zq)
    exact hgo (by unfold rfr; rw [h13]; rfl)
  | some i =>
    rw [h13] at hgo
    have e13 := fnd_lt h13
    have fit := ats_fit hm e13.2.1
    have z13 := z_4 (Or.inr (Or.inl e13.2.2.1)) e13.2.2.2
    have b4 := nb_lt t2.2 (stA A i) 4
    have q13 := mD_at hD e13.1
    refine wp_iload (k := 4) rfl rfl ?_
    refine w_z_lt (k := 5) (t' := 16) rfl rfl (fun zq => absurd zq (nI_pos (by omega))) (fun zq => ?_)
    refine wp_aload (k := 6) rfl rfl ?_
    refine w_gr (k := 7) (s := 14) rfl rfl (by first | assumption | rfl) (by first | assumption | rfl) ?_
    refine wp_aload (k := 8) rfl rfl ?_
    refine w_gr (k := 9) (s := 52) rfl rfl (by first | assumption | rfl) (by first | assumption | rfl) ?_
    refine wp_iload (k := 10) rfl rfl ?_
    refine w_iald (k := 11) rfl rfl (by first | assumption | rfl) (by omega) q13.2.2 ?_
    refine w_Si (k := 12) [_, _] rfl rfl rfl (Nat.le_of_ble_eq_true rfl) (Or.inl ⟨rfl, rfl⟩) ?_
    refine (c_180 rfl (by decide) t2 (by unfold stA; omega) (by omega) ?_)
    refine ⟨_, rfl, ?_⟩
    refine w_z_ne (k := 13) (t' := 16) rfl rfl (fun k1 => ?_) (fun k1 => ?_)
    · exact hgo (by unfold rfr; rw [h13]; simp only; rw [if_neg (by rw [decide_eq_false (fun e => k1 (by rw [e]; rfl))]; decide)])
    · have e0 : nb A (stA A i) 4 = 0 := by
        have := congrArg uI k1
        rw [uI_nI (by omega)] at this
        exact this
      unfold rfr at hpr
      rw [h13] at hpr
      simp only at hpr
      rw [if_pos (decide_eq_true e0)] at hpr
      refine w_ic (k := 14) (x := bI true) rfl rfl ?_
      refine w_goto (k := 15) (t' := 17) rfl rfl ?_
      refine wp_istore (k := 17) (ls2 := [some _, some _, some _, some _]) rfl rfl ?_
      refine wp_iload (k := 18) rfl rfl ?_
      refine w_b_eq (k := 19) (t' := 26) rfl rfl (fun zq => absurd (zq.symm.trans rfl) (by decide)) (fun zq => ?_)
      refine wp_aload (k := 20) rfl rfl ?_
      refine w_gr (k := 21) (s := 35) rfl rfl (by first | assumption | rfl) (by first | assumption | rfl) ?_
      refine wp_iload (k := 22) rfl rfl ?_
      refine w_ic (k := 23) (x := bI false) rfl rfl ?_
      refine w_cast (k := 24) rfl rfl (by first | assumption | rfl) (by omega) rfl ?_
      refine w_goto (k := 25) (t' := 35) rfl rfl ?_
      refine fin1 _ L _ _ true _ hpr (tbm_u (k := k) (o := none) hb (fs_u (so_1 (by omega))) fs_rf ?_) (fun x hx => am_uR (by omega)) (fun _ _ => rfl) (fun _ => rfl) (fun z => by cases z)
      exact am_us
end MG
