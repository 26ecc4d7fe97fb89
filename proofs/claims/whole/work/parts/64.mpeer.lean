/-! ===== what a peer sends: the reference ===== -/
def SS : List Nat := [0, 15, 17, 18, 19, 20, 21, 59, 60, 61, 62, 63, 64]
section MPE
variable {d N : Nat} {I : Nat → Nat → Int32} {L : Nat → Nat → Int64} {w : Option Nat} {Q : am_Q} {s : SN} {T : Nat → Int32} {A : List Nat} {al : Nat → Option AL}
theorem c_226 {m : Int32} {r : Nat} (hr : r < 4) (hq : Q (some (.int (tyC m (nI r)))) (am_SH N, I, L, am_RR w)) : am_call (d + 1) 226 [.int m, .int (nI r)] (am_SH N, I, L, am_RR w) Q := by
  rw [← ty_eq m hr] at hq
  refine am_enter (ls := [some _, some _]) (cs := am_c226) rfl rfl (Nat.le_of_ble_eq_true rfl) rfl ?_
  refine wp_iload (k := 0) rfl rfl ?_
  refine w_ic (k := 1) (x := nI 15) rfl (oi_nI 15) ?_
  refine wp_iand (k := 2) rfl ?_
  refine wp_iload (k := 3) rfl rfl ?_
  refine w_ic (k := 4) (x := nI 1) rfl (oi_nI 1) ?_
  refine wp_iand (k := 5) rfl ?_
  refine w_ic (k := 6) (x := nI 4) rfl (oi_nI 4) ?_
  refine wp_ishl (k := 7) rfl ?_
  refine wp_ior (k := 8) rfl ?_
  refine wp_iload (k := 9) rfl rfl ?_
  refine w_ic (k := 10) (x := nI 4) rfl (oi_nI 4) ?_
  refine wp_ishr (k := 11) rfl ?_
  refine w_ic (k := 12) (x := nI 7) rfl (oi_nI 7) ?_
  refine wp_iand (k := 13) rfl ?_
  refine w_ic (k := 14) (x := nI 5) rfl (oi_nI 5) ?_
  refine wp_ishl (k := 15) rfl ?_
  refine wp_ior (k := 16) rfl ?_
  refine wp_iload (k := 17) rfl rfl ?_
  refine w_ic (k := 18) (x := nI 1) rfl (oi_nI 1) ?_
  refine wp_ishr (k := 19) rfl ?_
  refine w_ic (k := 20) (x := nI 8) rfl (oi_nI 8) ?_
  refine wp_ishl (k := 21) rfl ?_
  refine wp_ior (k := 22) rfl ?_
  refine wp_iload (k := 23) rfl rfl ?_
  refine w_ic (k := 24) (x := nI 7) rfl (oi_nI 7) ?_
  refine wp_ishr (k := 25) rfl ?_
  refine w_ic (k := 26) (x := nI 31) rfl (oi_nI 31) ?_
  refine wp_iand (k := 27) rfl ?_
  refine w_ic (k := 28) (x := nI 9) rfl (oi_nI 9) ?_
  refine wp_ishl (k := 29) rfl ?_
  refine wp_ior (k := 30) rfl ?_
  refine w_ri (k := 31) rfl rfl rfl rfl ?_
  exact hq
theorem c_230 (hA : mS I A) (h20 : 20 ≤ A.length) (hn : A.length + 12 ≤ 500) {kd ip port : Int32} (hq : ∀ I', mS I' (at_ A (uI kd) (adr ip port)) → fx [113] [17] I I' → Q none (am_SH N, I', L, am_RR w)) : am_call (d + 4) 230 [.ref 100, .int kd, .int ip, .int port] (am_SH N, I, L, am_RR w) Q := by
  refine am_enter (ls := [some _, some _, some _, some _]) (cs := am_c230) rfl rfl (Nat.le_of_ble_eq_true rfl) rfl ?_
  refine wp_aload (k := 0) rfl rfl ?_
  refine w_gr (k := 1) (s := 16) rfl rfl (by first | assumption | rfl) (by first | assumption | rfl) ?_
  refine wp_aload (k := 2) rfl rfl ?_
  refine wp_iload (k := 3) rfl rfl ?_
  refine w_ic (k := 4) (x := nI 8) rfl (oi_nI 8) ?_
  refine w_Vi (k := 5) [_, _] rfl rfl rfl (Nat.le_of_ble_eq_true rfl) (by first | assumption | rfl) (Or.inl ⟨rfl, rfl⟩) ?_
  refine (c_229 hA h20 (m := 8) hn (fun I1 k1 f1 => ⟨_, rfl, ?_⟩))
  obtain ⟨i1, i2, i3⟩ := k1
  have hX : A.length + 4 ≤ (hd_ A (uI kd) 8 ++ List.replicate (pad4 8) 0).length := by rw [hz_len h20]; omega
  refine wp_iload (k := 6) rfl rfl ?_
  refine wp_iload (k := 7) rfl rfl ?_
  refine w_Sv (k := 8) [_, _, _, _] rfl rfl rfl (Nat.le_of_ble_eq_true rfl) (Or.inl ⟨rfl, rfl⟩) ?_
  refine (c_192 rfl (by decide) (by decide) i2 hX (by omega) (fun I2 k2 f2 => ⟨rfl, ?_⟩))
  refine w_rv (k := 9) rfl rfl rfl rfl ?_
  have k2 : av I2 113 (wr (hd_ A (uI kd) 8 ++ List.replicate (pad4 8) 0) (A.length + 4) (adr ip port)) := k2
  rw [at_fill (by omega) (adr_len ip port)] at k2
  have hl : (at_ A (uI kd) (adr ip port)).length = A.length + 4 + 8 := by rw [at_len (by omega), adr_len]; rfl
  refine hq I2 ⟨?_, k2, by rw [hl]; omega⟩ (fx_t f1 (fx_a (a := 113) f2 (by decide) (by decide)))
  rw [hl, f2 100 (by decide), i1, hz_len h20]
  rfl
theorem c_231 (hA : mS I A) (h20 : 20 ≤ A.length) (hn : A.length + 8 ≤ 500) {kd v : Int32} (hq : ∀ I', mS I' (at_ A (uI kd) (be 4 (uI v))) → fx [113] [17] I I' → Q none (am_SH N, I', L, am_RR w)) : am_call (d + 3) 231 [.ref 100, .int kd, .int v] (am_SH N, I, L, am_RR w) Q := by
  refine am_enter (ls := [some _, some _, some _]) (cs := am_c231) rfl rfl (Nat.le_of_ble_eq_true rfl) rfl ?_
  refine wp_aload (k := 0) rfl rfl ?_
  refine w_gr (k := 1) (s := 16) rfl rfl (by first | assumption | rfl) (by first | assumption | rfl) ?_
  refine wp_aload (k := 2) rfl rfl ?_
  refine wp_iload (k := 3) rfl rfl ?_
  refine w_ic (k := 4) (x := nI 4) rfl (oi_nI 4) ?_
  refine w_Vi (k := 5) [_, _] rfl rfl rfl (Nat.le_of_ble_eq_true rfl) (by first | assumption | rfl) (Or.inl ⟨rfl, rfl⟩) ?_
  refine (c_229 hA h20 (m := 4) hn (fun I1 k1 f1 => ⟨_, rfl, ?_⟩))
  obtain ⟨i1, i2, i3⟩ := k1
  have hX : A.length + 4 ≤ (hd_ A (uI kd) 4 ++ List.replicate (pad4 4) 0).length := by rw [hz_len h20]; omega
  refine wp_iload (k := 6) rfl rfl ?_
  refine w_Sv (k := 7) [_, _, _] rfl rfl rfl (Nat.le_of_ble_eq_true rfl) (Or.inl ⟨rfl, rfl⟩) ?_
  refine (c_182 rfl (by decide) (by decide) i2 hX (by omega) (fun I2 k2 f2 => ⟨rfl, ?_⟩))
  refine w_rv (k := 8) rfl rfl rfl rfl ?_
  rw [at_fill (by omega) (be_len _ _)] at k2
  have hl : (at_ A (uI kd) (be 4 (uI v))).length = A.length + 4 + 4 := by rw [at_len (by omega), be_len]; rfl
  refine hq I2 ⟨?_, k2, by rw [hl]; omega⟩ (fx_t f1 (fx_a (a := 113) f2 (by decide) (by decide)))
  rw [hl, f2 100 (by decide), i1, hz_len h20]
  rfl
theorem c_223 {b : Bool} {x y z : Int32} {S : List Nat} (h : po_m I (b, x, y, z, S)) (hT : tl_m I T) {a1 a2 a3 : Int32} (hq : ∀ I', po_m I' (true, a1, a2, a3, S) → tl_m I' (inc T 0) → fx [] [18, 19, 20, 21, 59] I I' → Q none (am_SH N, I', L, am_RR w)) : am_call (d + 1) 223 [.ref 100, .int a1, .int a2, .int a3] (am_SH N, I, L, am_RR w) Q := by
  obtain ⟨h1, h2, h3, h4, h5⟩ := h
  have h59 := hT 0 (by decide)
  refine am_enter (ls := [some _, some _, some _, some _]) (cs := am_c223) rfl rfl (Nat.le_of_ble_eq_true rfl) rfl ?_
  refine wp_aload (k := 0) rfl rfl ?_
  refine w_ic (k := 1) (x := bI true) rfl rfl ?_
  refine w_pz (k := 2) (s := 18) rfl rfl (by first | assumption | rfl) (bI_01 _) ?_
  refine wp_aload (k := 3) rfl rfl ?_
  refine wp_iload (k := 4) rfl rfl ?_
  refine w_pi (k := 5) (s := 19) rfl rfl (by first | assumption | rfl) ?_
  refine wp_aload (k := 6) rfl rfl ?_
  refine wp_iload (k := 7) rfl rfl ?_
  refine w_pi (k := 8) (s := 20) rfl rfl (by first | assumption | rfl) ?_
  refine wp_aload (k := 9) rfl rfl ?_
  refine wp_iload (k := 10) rfl rfl ?_
  refine w_pi (k := 11) (s := 21) rfl rfl (by first | assumption | rfl) ?_
  refine wp_aload (k := 12) rfl rfl ?_
  refine wp_dup (k := 13) rfl rfl ?_
  refine w_gi (k := 14) (s := 59) rfl rfl (by first | assumption | rfl) (am_uw (by decide) (am_uw (by decide) (am_uw (by decide) (am_uw (by decide) h59)))) ?_
  refine w_ic (k := 15) (x := nI 1) rfl (oi_nI 1) ?_
  refine wp_iadd (k := 16) rfl ?_
  refine w_pi (k := 17) (s := 59) rfl rfl (by first | assumption | rfl) ?_
  refine w_rv (k := 18) rfl rfl rfl rfl ?_
  have ff : fx [] [18, 19, 20, 21, 59] I (am_u (am_u (am_u (am_u (am_u I 100 18 (bI true)) 100 19 a1) 100 20 a2) 100 21 a3) 100 59 (T 0 + nI 1)) := fx_t (fx_t (fx_t (fx_t (fx_s (by decide)) (fx_s (by decide))) (fx_s (by decide))) (fx_s (by decide))) (fx_s (by decide))
  refine hq _ ⟨?_, ?_, ?_, ?_, ?_⟩ (fun j hj => ?_) ff
  · simp [am_u_app]
  · simp [am_u_app]
  · simp [am_u_app]
  · simp [am_u_app]
  · exact mS_k (P := []) (S := [18, 19, 20, 21, 59]) h5 (fx_t (fx_t (fx_t (fx_t (fx_s (by decide)) (fx_s (by decide))) (fx_s (by decide))) (fx_s (by decide))) (fx_s (by decide))) (by decide) (by decide)
  · unfold inc
    match j, hj with
    | 0, _ => simp [am_u_app]
    | 1, _ => simp [am_u_app]; exact hT 1 (by decide)
    | 2, _ => simp [am_u_app]; exact hT 2 (by decide)
    | 3, _ => simp [am_u_app]; exact hT 3 (by decide)
    | 4, _ => simp [am_u_app]; exact hT 4 (by decide)
    | 5, _ => simp [am_u_app]; exact hT 5 (by decide)
    | j + 6, hj => omega
theorem c_224 (h : po_m I s) (hT : tl_m I T) (hq : ∀ I', po_m I' (clr s) → tl_m I' T → fx [] [17, 18] I I' → Q none (am_SH N, I', L, am_RR w)) : am_call (d + 1) 224 [.ref 100] (am_SH N, I, L, am_RR w) Q := by
  obtain ⟨h1, h2, h3, h4, h5⟩ := h
  refine am_enter (ls := [some _]) (cs := am_c224) rfl rfl (Nat.le_of_ble_eq_true rfl) rfl ?_
  refine wp_aload (k := 0) rfl rfl ?_
  refine w_ic (k := 1) (x := bI false) rfl rfl ?_
  refine w_pz (k := 2) (s := 18) rfl rfl (by first | assumption | rfl) (bI_01 _) ?_
  refine wp_aload (k := 3) rfl rfl ?_
  refine w_ic (k := 4) (x := nI 0) rfl (oi_nI 0) ?_
  refine w_pi (k := 5) (s := 17) rfl rfl (by first | assumption | rfl) ?_
  refine w_rv (k := 6) rfl rfl rfl rfl ?_
  refine hq _ ⟨?_, ?_, ?_, ?_, ?_, ?_, Nat.zero_le _⟩ (fun j hj => ?_) (fx_t (fx_s (by decide)) (fx_s (by decide)))
  · exact am_uw (by decide) am_us
  · exact am_uw (by decide) (am_uw (by decide) h2)
  · exact am_uw (by decide) (am_uw (by decide) h3)
  · exact am_uw (by decide) (am_uw (by decide) h4)
  · exact am_us
  · exact ⟨fun i hi => absurd hi (Nat.not_lt_zero i), fun c hc => by cases hc⟩
  · exact am_uw (by omega) (am_uw (by omega) (hT j hj))
theorem c_235 (hA : mT I A) (h : po_m I s) (hT : tl_m I T) (hq : ∀ I', mT I' [] → po_m I' s → tl_m I' (if s.1 then T else inc T 5) → fx [] [15, 64] I I' → Q (some (.int (if s.1 then nI 1 else nI 0))) (am_SH N, I', L, am_RR w)) : am_call (d + 1) 235 [.ref 100] (am_SH N, I, L, am_RR w) Q := by
  obtain ⟨h1, h2, h3, h4, h5⟩ := h
  have h64 := hT 5 (by decide)
  refine am_enter (ls := [some _]) (cs := am_c235) rfl rfl (Nat.le_of_ble_eq_true rfl) rfl ?_
  refine wp_aload (k := 0) rfl rfl ?_
  refine w_ic (k := 1) (x := nI 0) rfl (oi_nI 0) ?_
  refine w_pi (k := 2) (s := 15) rfl rfl (by first | assumption | rfl) ?_
  refine wp_aload (k := 3) rfl rfl ?_
  refine wp_dup (k := 4) rfl rfl ?_
  refine w_gi (k := 5) (s := 64) rfl rfl (by first | assumption | rfl) (am_uw (by decide) h64) ?_
  refine wp_aload (k := 6) rfl rfl ?_
  refine w_gi (k := 7) (s := 18) rfl rfl (by first | assumption | rfl) (am_uw (by decide) h1) ?_
  have done : ∀ (z : Int32), z = (if s.1 then nI 0 else nI 1) → am_V 235 am_c235 d (am_SH N) Q 12 [some (.ref 100)] [.int z, .int (T 5), .ref 100] (am_SH N, am_u I 100 15 (nI 0), L, am_RR w) := by
    intro z hz
    refine wp_iadd (k := 12) rfl ?_
    refine w_pi (k := 13) (s := 64) rfl rfl (by first | assumption | rfl) ?_
    refine wp_aload (k := 14) rfl rfl ?_
    refine w_gi (k := 15) (s := 18) rfl rfl (by first | assumption | rfl) (am_uw (by decide) (am_uw (by decide) h1)) ?_
    have fin6 : Q (some (.int (if s.1 then nI 1 else nI 0))) (am_SH N, am_u (am_u I 100 15 (nI 0)) 100 64 (T 5 + z), L, am_RR w) := by
      refine hq _ ⟨am_uw (by decide) am_us, ⟨fun i hi => absurd hi (Nat.not_lt_zero i), fun c hc => by cases hc⟩, by decide⟩ ⟨?_, ?_, ?_, ?_, ?_⟩ (fun j hj => ?_) (fx_t (fx_s (by decide)) (fx_s (by decide)))
      · exact am_uw (by decide) (am_uw (by decide) h1)
      · exact am_uw (by decide) (am_uw (by decide) h2)
      · exact am_uw (by decide) (am_uw (by decide) h3)
      · exact am_uw (by decide) (am_uw (by decide) h4)
      · exact mS_k (P := []) (S := [15, 64]) h5 (fx_t (fx_s (by decide)) (fx_s (by decide))) (by decide) (by decide)
      · by_cases e : j = 5
        · subst e
          rw [show 59 + 5 = 64 from rfl, am_us, hz]
          cases hs : s.1 with
          | true => simp only [if_true]; show T 5 + 0 = T 5; rw [Int32.add_zero]
          | false => simp only [Bool.false_eq_true, if_false]; unfold inc; rw [if_pos rfl]
        · rw [am_uw (by omega) (am_uw (by omega) (hT j hj))]
          cases hs : s.1 with
          | true => rfl
          | false => simp only [Bool.false_eq_true, if_false]; unfold inc; rw [if_neg e]
    cases hs : s.1 with
    | true =>
      rw [hs] at fin6
      refine w_b_eq (k := 16) (t' := 19) rfl rfl (fun zq => absurd (zq.symm.trans rfl) (by decide)) (fun zq => ?_)
      refine w_ic (k := 17) (x := nI 1) rfl (oi_nI 1) ?_
      refine w_goto (k := 18) (t' := 20) rfl rfl ?_
      refine w_ri (k := 20) rfl rfl rfl rfl ?_
      exact fin6
    | false =>
      rw [hs] at fin6
      refine w_b_eq (k := 16) (t' := 19) rfl rfl (fun zq => ?_) (fun zq => absurd (zq.symm.trans rfl) (by decide))
      refine w_ic (k := 19) (x := nI 0) rfl (oi_nI 0) ?_
      refine w_ri (k := 20) rfl rfl rfl rfl ?_
      exact fin6
  cases hs : s.1 with
  | true =>
    refine w_b_eq (k := 8) (t' := 11) rfl rfl (fun zq => absurd (zq.symm.trans rfl) (by decide)) (fun zq => ?_)
    refine w_ic (k := 9) (x := nI 0) rfl (oi_nI 0) ?_
    refine w_goto (k := 10) (t' := 12) rfl rfl ?_
    exact done _ (by rw [hs]; rfl)
  | false =>
    refine w_b_eq (k := 8) (t' := 11) rfl rfl (fun zq => ?_) (fun zq => absurd (zq.symm.trans rfl) (by decide))
    refine w_ic (k := 11) (x := nI 1) rfl (oi_nI 1) ?_
    exact done _ (by rw [hs]; rfl)
theorem tl_k {P S : List Nat} {I I' : Nat → Nat → Int32} (h : tl_m I T) (f : fx P S I I') (hs : ∀ j, j < 6 → 59 + j ∉ S) : tl_m I' T := fun j hj => by rw [f.2 _ (hs j hj)]; exact h j hj
theorem tl_in {j : Nat} {v : Int32} (h : tl_m I T) (hj : j < 6) (hv : v = T j + nI 1) : tl_m (am_u I 100 (59 + j) v) (inc T j) := fun i hi => by
  unfold inc
  rw [am_u_app]
  by_cases e : i = j
  · rw [if_pos ⟨rfl, by omega⟩, if_pos e, hv, e]
  · rw [if_neg (by omega), if_neg e]
    exact h i hi
theorem tl_eq {T' : Nat → Int32} (h : tl_m I T) (e : ∀ j, j < 6 → T j = T' j) : tl_m I T' := fun j hj => by rw [← e j hj]; exact h j hj
theorem c_254 {k : Nat} (hk : k < 8) {a : AL} (hm : sm I L k a) (hcu : cu a.2.2.2.2) (hA : mT I A) (h : po_m I (clr s)) (hT : tl_m I T) {ip port : Int32} (hq : ∀ I', po_m I' (true, a.1.1, a.1.2.1, nI 3478, (match ct a.2.2.2.2 ip port with | some c => chd (a.2.2.2.2.getD c c0).1 A | none => ind A ip port (T 1))) → tl_m I' (match ct a.2.2.2.2 ip port with | some _ => inc (inc T 0) 3 | none => inc (inc (inc T 0) 3) 1) → mT I' A → fx [113] SS I I' → Q none (am_SH N, I', L, am_RR w)) : am_call (d + 5) 254 [.ref 100, .int (nI k), .int ip, .int port] (am_SH N, I, L, am_RR w) Q := by
  obtain ⟨a1, a2, a3, a4, a5, a6, a7, a8, a9⟩ := hm
  obtain ⟨s1, s2, s3, s4, ⟨g1, g2, g3⟩⟩ := id h
  obtain ⟨t1, t2, t3⟩ := id hA
  have hp := pad4_ge A.length
  -- the end: the count, and it goes
  have fin7 : ∀ (I1 : Nat → Nat → Int32) (T1 : Nat → Int32) (S : List Nat) (o4 o5 o6 : Option Value), mS I1 S → tl_m I1 T1 → mT I1 A → fx [113] SS I I1 → (∀ x, x ∉ [15, 17, 59, 60, 61, 62, 63, 64] → I1 100 x = I 100 x) → (∀ I', po_m I' (true, a.1.1, a.1.2.1, nI 3478, S) → tl_m I' (inc (inc T1 0) 3) → mT I' A → fx [113] SS I I' → Q none (am_SH N, I', L, am_RR w)) → am_V 254 am_c254 (d + 4) (am_SH N) Q 122 [some (.ref 100), some (.int (nI k)), some (.int ip), some (.int port), o4, o5, o6] [] (am_SH N, I1, L, am_RR w) := by
    intro I1 T1 S o4 o5 o6 m1 u1 ta1 f1 x1 hc
    have u3 := tl_in u1 (j := 3) (by decide) rfl
    have v121 : I1 121 k = a.1.1 := by rw [f1.1 121 (by decide) (by decide)]; exact a2
    have v122 : I1 122 k = a.1.2.1 := by rw [f1.1 122 (by decide) (by decide)]; exact a3
    have p2 : po_m (am_u I1 100 62 (T1 3 + nI 1)) (false, s.2.1, s.2.2.1, s.2.2.2.1, S) := ⟨am_uw (by decide) (by rw [x1 18 (by decide)]; exact s1), am_uw (by decide) (by rw [x1 19 (by decide)]; exact s2), am_uw (by decide) (by rw [x1 20 (by decide)]; exact s3), am_uw (by decide) (by rw [x1 21 (by decide)]; exact s4), mS_k (P := []) (S := [62]) m1 (fx_s (by decide)) (by decide) (by decide)⟩
    refine wp_aload (k := 122) rfl rfl ?_
    refine wp_dup (k := 123) rfl rfl ?_
    refine w_gi (k := 124) (s := 62) rfl rfl (by first | assumption | rfl) (u1 3 (by decide)) ?_
    refine w_ic (k := 125) (x := nI 1) rfl (oi_nI 1) ?_
    refine wp_iadd (k := 126) rfl ?_
    refine w_pi (k := 127) (s := 62) rfl rfl (by first | assumption | rfl) ?_
    refine wp_aload (k := 128) rfl rfl ?_
    refine wp_aload (k := 129) rfl rfl ?_
    refine w_gr (k := 130) (s := 36) rfl rfl (by first | assumption | rfl) (by first | assumption | rfl) ?_
    refine wp_iload (k := 131) rfl rfl ?_
    refine w_iald (k := 132) rfl rfl (by first | assumption | rfl) (by omega) (am_uv (by decide) v121) ?_
    refine wp_aload (k := 133) rfl rfl ?_
    refine w_gr (k := 134) (s := 37) rfl rfl (by first | assumption | rfl) (by first | assumption | rfl) ?_
    refine wp_iload (k := 135) rfl rfl ?_
    refine w_iald (k := 136) rfl rfl (by first | assumption | rfl) (by omega) (am_uv (by decide) v122) ?_
    refine w_ic (k := 137) (x := nI 3478) rfl (oi_nI 3478) ?_
    refine w_Vv (k := 138) [_, _, _] rfl rfl rfl (Nat.le_of_ble_eq_true rfl) (by first | assumption | rfl) (Or.inl ⟨rfl, rfl⟩) ?_
    refine (c_223 p2 u3 (fun I2 p3 u4 f2 => ⟨rfl, ?_⟩))
    refine w_rv (k := 139) rfl rfl rfl rfl ?_
    have f2' : fx [] [18, 19, 20, 21, 59, 62] I1 I2 := fx_t (fx_s (by decide)) (fx_mo f2 (by decide) (by decide))
    refine hc I2 p3 (tl_eq u4 ?_) (mT_k ta1 f2' (by decide) (by decide)) (fx_t f1 (fx_mo f2' (by decide) (by decide)))
    intro j hj
    unfold inc
    by_cases e0 : j = 0
    · subst e0; simp
    · by_cases e3 : j = 3
      · subst e3; simp
      · simp [e0, e3]
  refine am_enter (ls := [some _, some _, some _, some _, none, none, none]) (cs := am_c254) rfl rfl (Nat.le_of_ble_eq_true rfl) rfl ?_
  refine wp_aload (k := 0) rfl rfl ?_
  refine wp_iload (k := 1) rfl rfl ?_
  refine wp_iload (k := 2) rfl rfl ?_
  refine wp_iload (k := 3) rfl rfl ?_
  refine w_Vi (k := 4) [_, _, _] rfl rfl rfl (Nat.le_of_ble_eq_true rfl) (by first | assumption | rfl) (Or.inl ⟨rfl, rfl⟩) ?_
  refine (c_212 hk a9 hcu ?_)
  refine ⟨_, rfl, ?_⟩
  cases hc : ct a.2.2.2.2 ip port with
  | some c =>
    rw [hc] at hq
    simp only at hq
    obtain ⟨hcl, -⟩ := ct_lt hc
    have hcl8 := a9.2.1
    have hn := (a9.2.2 c hcl).1
    refine wp_istore (k := 5) (ls2 := [some _, some _, some _, some _, some _, none, none]) rfl rfl ?_
    refine wp_iload (k := 6) rfl rfl ?_
    refine w_z_lt (k := 7) (t' := 51) rfl rfl (fun zq => absurd zq (nI_pos (by omega))) (fun zq => ?_)
    refine wp_aload (k := 8) rfl rfl ?_
    refine w_gr (k := 9) (s := 16) rfl rfl (by first | assumption | rfl) (by first | assumption | rfl) ?_
    refine w_ic (k := 10) (x := nI 0) rfl (oi_nI 0) ?_
    refine wp_aload (k := 11) rfl rfl ?_
    refine w_gr (k := 12) (s := 46) rfl rfl (by first | assumption | rfl) (by first | assumption | rfl) ?_
    refine w_ic (k := 13) (x := nI 8) rfl (oi_nI 8) ?_
    refine wp_iload (k := 14) rfl rfl ?_
    refine w_mulN (k := 15) rfl ?_
    refine wp_iload (k := 16) rfl rfl ?_
    refine w_addN (k := 17) rfl ?_
    refine w_iald (k := 18) rfl rfl (by first | assumption | rfl) (by omega) hn ?_
    refine w_Sv (k := 19) [_, _, _] rfl rfl rfl (Nat.le_of_ble_eq_true rfl) (Or.inl ⟨rfl, rfl⟩) ?_
    refine (c_181 rfl (by decide) (by decide) g2 (s := 0) (Nat.zero_le _) (by decide) (fun I1 k1 f1 => ⟨rfl, ?_⟩))
    have k1 : av I1 113 (be 2 (uI (a.2.2.2.2.getD c c0).1)) := by
      have := k1
      rw [wr_e (s := 0) (show 0 = (clr s).2.2.2.2.length from rfl)] at this
      exact this
    have tp1 : I1 100 15 = nI A.length := by rw [f1 100 (by decide)]; exact t1
    refine wp_aload (k := 20) rfl rfl ?_
    refine w_gr (k := 21) (s := 16) rfl rfl (by first | assumption | rfl) (by first | assumption | rfl) ?_
    refine w_ic (k := 22) (x := nI 2) rfl (oi_nI 2) ?_
    refine wp_aload (k := 23) rfl rfl ?_
    refine w_gi (k := 24) (s := 15) rfl rfl (by first | assumption | rfl) tp1 ?_
    refine w_Sv (k := 25) [_, _, _] rfl rfl rfl (Nat.le_of_ble_eq_true rfl) (Or.inl ⟨rfl, rfl⟩) ?_
    refine (c_181 rfl (by decide) (by decide) k1 (s := 2) (by rw [be_len]; decide) (by decide) (fun I2 k2 f2 => ⟨rfl, ?_⟩))
    rw [wr_e (by rw [be_len]), uI_nI (by omega)] at k2
    have hl4 : (be 2 (uI (a.2.2.2.2.getD c c0).1) ++ be 2 A.length).length = 4 := by simp [be_len]
    generalize hH : be 2 (uI (a.2.2.2.2.getD c c0).1) ++ be 2 A.length = H4 at *
    have f2' : ∀ x, x ≠ 113 → I2 x = I x := fun x hx => by rw [f2 x hx, f1 x hx]
    have loop : ∀ (r i : Nat) (I3 : Nat → Nat → Int32) (o6 : Option Value), i + r = A.length → av I3 113 (H4 ++ A.take i) → (∀ x, x ≠ 113 → I3 x = I x) → am_V 254 am_c254 (d + 4) (am_SH N) Q 28 [some (.ref 100), some (.int (nI k)), some (.int ip), some (.int port), some (.int (nI c)), some (.int (nI i)), o6] [] (am_SH N, I3, L, am_RR w) := by
      intro r
      induction r with
      | zero =>
        intro i I3 o6 hi k3 f3
        rw [List.take_of_length_le (by omega)] at k3
        have tp3 : I3 100 15 = nI A.length := by rw [f3 100 (by decide)]; exact t1
        refine wp_iload (k := 28) rfl rfl ?_
        refine wp_aload (k := 29) rfl rfl ?_
        refine w_gi (k := 30) (s := 15) rfl rfl (by first | assumption | rfl) tp3 ?_
        refine w_n_ge (k := 31) (t' := 44) rfl rfl (by omega) (fun zq => ?_) (fun zq => absurd zq (by omega))
        refine wp_aload (k := 44) rfl rfl ?_
        refine w_ic (k := 45) (x := nI 4) rfl (oi_nI 4) ?_
        refine wp_aload (k := 46) rfl rfl ?_
        refine w_gi (k := 47) (s := 15) rfl rfl (by first | assumption | rfl) tp3 ?_
        refine w_addN (k := 48) rfl ?_
        refine w_pi (k := 49) (s := 17) rfl rfl (by first | assumption | rfl) ?_
        refine w_goto (k := 50) (t' := 122) rfl rfl ?_
        have hl : (H4 ++ A).length = 4 + A.length := by rw [List.length_append, hl4]
        have fs3 : fx [113] SS I (am_u I3 100 17 (nI (4 + A.length))) := fx_t (fx_a (a := 113) f3 (by decide) (by decide)) (fx_s (by decide))
        refine fin7 _ T (H4 ++ A) _ _ _ ⟨by rw [am_us, hl], av_keep k3 (am_uR (by decide)), by rw [hl]; omega⟩ (fun j hj => ?_) ?_ fs3 (fun x hx => ?_) (fun I' p' u' ta' fx' => hq I' ?_ u' ta' fx')
        · rw [am_uw (by omega) rfl, f3 100 (by decide)]; exact hT j hj
        · exact ⟨by rw [am_uw (by decide) rfl]; exact tp3, av_keep t2 (by rw [am_uR (by decide), f3 112 (by decide)]), t3⟩
        · rw [am_uw (fun z => hx (by rw [z]; decide)) rfl, f3 100 (by decide)]
        · unfold chd
          rw [hH]
          exact p'
      | succ r ih =>
        intro i I3 o6 hi k3 f3
        have tp3 : I3 100 15 = nI A.length := by rw [f3 100 (by decide)]; exact t1
        have hv : I3 112 i = nI (A.getD i 0) := by rw [f3 112 (by decide)]; exact t2.1 i (by omega)
        have htl : (A.take i).length = i := by simp; omega
        have hl : (H4 ++ A.take i).length = 4 + i := by rw [List.length_append, hl4, htl]
        refine wp_iload (k := 28) rfl rfl ?_
        refine wp_aload (k := 29) rfl rfl ?_
        refine w_gi (k := 30) (s := 15) rfl rfl (by first | assumption | rfl) tp3 ?_
        refine w_n_ge (k := 31) (t' := 44) rfl rfl (by omega) (fun zq => absurd zq (by omega)) (fun zq => ?_)
        refine wp_aload (k := 32) rfl rfl ?_
        refine w_gr (k := 33) (s := 16) rfl rfl (by first | assumption | rfl) (by first | assumption | rfl) ?_
        refine w_ic (k := 34) (x := nI 4) rfl (oi_nI 4) ?_
        refine wp_iload (k := 35) rfl rfl ?_
        refine w_addN (k := 36) rfl ?_
        refine wp_aload (k := 37) rfl rfl ?_
        refine w_gr (k := 38) (s := 14) rfl rfl (by first | assumption | rfl) (by first | assumption | rfl) ?_
        refine wp_iload (k := 39) rfl rfl ?_
        refine w_iald (k := 40) rfl rfl (by first | assumption | rfl) (by omega) hv ?_
        refine w_iast (k := 41) rfl rfl (by omega) (by first | assumption | rfl) (by omega) ?_
        refine w_incN (k := 42) (m := 1) rfl (oi_nI 1) rfl ?_
        refine w_goto (k := 43) (t' := 28) rfl rfl ?_
        have k4 := av_w1 k3 (s := 4 + i) (by omega) (gd_lt t2.2 i)
        rw [wr_e hl.symm, List.append_assoc, tk_app (by omega)] at k4
        exact ih (i + 1) _ _ (by omega) k4 (fun x hx => by rw [am_uR hx, f3 x hx])
    refine w_ic (k := 26) (x := nI 0) rfl (oi_nI 0) ?_
    refine wp_istore (k := 27) (ls2 := [some _, some _, some _, some _, some _, some _, none]) rfl rfl ?_
    exact loop _ 0 I2 _ (Nat.zero_add _) (by rw [List.take_zero, List.append_nil]; exact k2) f2'
  | none =>
    rw [hc] at hq
    simp only at hq
    have t60 := hT 1 (by decide)
    refine wp_istore (k := 5) (ls2 := [some _, some _, some _, some _, some _, none, none]) rfl rfl ?_
    refine wp_iload (k := 6) rfl rfl ?_
    refine w_z_lt (k := 7) (t' := 51) rfl rfl (fun zq => ?_) (fun zq => absurd (by decide) zq)
    refine wp_aload (k := 51) rfl rfl ?_
    refine w_gr (k := 52) (s := 16) rfl rfl (by first | assumption | rfl) (by first | assumption | rfl) ?_
    refine w_ic (k := 53) (x := nI 0) rfl (oi_nI 0) ?_
    refine w_ic (k := 54) (x := nI 7) rfl (oi_nI 7) ?_
    refine w_ic (k := 55) (x := nI 1) rfl (oi_nI 1) ?_
    refine w_Si (k := 56) [_, _] rfl rfl rfl (Nat.le_of_ble_eq_true rfl) (Or.inl ⟨rfl, rfl⟩) ?_
    refine (c_226 (by decide) ?_)
    refine ⟨_, rfl, ?_⟩
    refine w_Sv (k := 57) [_, _, _] rfl rfl rfl (Nat.le_of_ble_eq_true rfl) (Or.inl ⟨rfl, rfl⟩) ?_
    refine (c_181 rfl (by decide) (by decide) g2 (s := 0) (Nat.zero_le _) (by decide) (fun I1 k1 f1 => ⟨rfl, ?_⟩))
    have k1 : av I1 113 (be 2 (uI (tyC (nI 7) (nI 1)))) := by
      have := k1
      rw [wr_e (s := 0) (show 0 = (clr s).2.2.2.2.length from rfl)] at this
      exact this
    refine wp_aload (k := 58) rfl rfl ?_
    refine w_gr (k := 59) (s := 16) rfl rfl (by first | assumption | rfl) (by first | assumption | rfl) ?_
    refine w_ic (k := 60) (x := nI 2) rfl (oi_nI 2) ?_
    refine w_ic (k := 61) (x := nI 0) rfl (oi_nI 0) ?_
    refine w_Sv (k := 62) [_, _, _] rfl rfl rfl (Nat.le_of_ble_eq_true rfl) (Or.inl ⟨rfl, rfl⟩) ?_
    refine (c_181 rfl (by decide) (by decide) k1 (s := 2) (by rw [be_len]; decide) (by decide) (fun I2 k2 f2 => ⟨rfl, ?_⟩))
    rw [wr_e (by simp [be_len])] at k2
    refine wp_aload (k := 63) rfl rfl ?_
    refine w_gr (k := 64) (s := 16) rfl rfl (by first | assumption | rfl) (by first | assumption | rfl) ?_
    refine w_ic (k := 65) (x := nI 4) rfl (oi_nI 4) ?_
    refine w_ic (k := 66) (x := nI 554869826) rfl (oi_nI 554869826) ?_
    refine w_Sv (k := 67) [_, _, _] rfl rfl rfl (Nat.le_of_ble_eq_true rfl) (Or.inl ⟨rfl, rfl⟩) ?_
    refine (c_182 rfl (by decide) (by decide) k2 (s := 4) (by simp [be_len]) (by decide) (fun I3 k3 f3 => ⟨rfl, ?_⟩))
    rw [wr_e (by simp [be_len])] at k3
    refine wp_aload (k := 68) rfl rfl ?_
    refine w_gr (k := 69) (s := 16) rfl rfl (by first | assumption | rfl) (by first | assumption | rfl) ?_
    refine w_ic (k := 70) (x := nI 8) rfl (oi_nI 8) ?_
    refine w_ic (k := 71) (x := nI 0) rfl (oi_nI 0) ?_
    refine w_Sv (k := 72) [_, _, _] rfl rfl rfl (Nat.le_of_ble_eq_true rfl) (Or.inl ⟨rfl, rfl⟩) ?_
    refine (c_182 rfl (by decide) (by decide) k3 (s := 8) (by simp [be_len]) (by decide) (fun I4 k4 f4 => ⟨rfl, ?_⟩))
    rw [wr_e (by simp [be_len])] at k4
    refine wp_aload (k := 73) rfl rfl ?_
    refine w_gr (k := 74) (s := 16) rfl rfl (by first | assumption | rfl) (by first | assumption | rfl) ?_
    refine w_ic (k := 75) (x := nI 12) rfl (oi_nI 12) ?_
    refine w_ic (k := 76) (x := nI 0) rfl (oi_nI 0) ?_
    refine w_Sv (k := 77) [_, _, _] rfl rfl rfl (Nat.le_of_ble_eq_true rfl) (Or.inl ⟨rfl, rfl⟩) ?_
    refine (c_182 rfl (by decide) (by decide) k4 (s := 12) (by simp [be_len]) (by decide) (fun I5 k5 f5 => ⟨rfl, ?_⟩))
    rw [wr_e (by simp [be_len])] at k5
    have f5' : ∀ x, x ≠ 113 → I5 x = I x := fun x hx => by rw [f5 x hx, f4 x hx, f3 x hx, f2 x hx, f1 x hx]
    refine wp_aload (k := 78) rfl rfl ?_
    refine w_gr (k := 79) (s := 16) rfl rfl (by first | assumption | rfl) (by first | assumption | rfl) ?_
    refine w_ic (k := 80) (x := nI 16) rfl (oi_nI 16) ?_
    refine wp_aload (k := 81) rfl rfl ?_
    refine w_gi (k := 82) (s := 60) rfl rfl (by first | assumption | rfl) (show I5 100 60 = T 1 by rw [f5' 100 (by decide)]; exact t60) ?_
    refine w_Sv (k := 83) [_, _, _] rfl rfl rfl (Nat.le_of_ble_eq_true rfl) (Or.inl ⟨rfl, rfl⟩) ?_
    refine (c_182 rfl (by decide) (by decide) k5 (s := 16) (by simp [be_len]) (by decide) (fun I6 k6 f6 => ⟨rfl, ?_⟩))
    rw [wr_e (by simp [be_len])] at k6
    have k6 : av I6 113 (hd20 (uI (tyC (nI 7) (nI 1))) 0 0 (uI (T 1))) := k6
    have f6' : ∀ x, x ≠ 113 → I6 x = I x := fun x hx => by rw [f6 x hx, f5' x hx]
    have m7 : mS (am_u I6 100 17 (nI 20)) (hd20 (uI (tyC (nI 7) (nI 1))) 0 0 (uI (T 1))) := ⟨by rw [am_us, hd20_len], av_keep k6 (am_uR (by decide)), by rw [hd20_len]; decide⟩
    have F7 : fx [113] [17] I (am_u I6 100 17 (nI 20)) := fx_t (fx_a (a := 113) f6' (by decide) (by decide)) (fx_s (by decide))
    refine wp_aload (k := 84) rfl rfl ?_
    refine w_ic (k := 85) (x := nI 20) rfl (oi_nI 20) ?_
    refine w_pi (k := 86) (s := 17) rfl rfl (by first | assumption | rfl) ?_
    refine wp_aload (k := 87) rfl rfl ?_
    refine w_ic (k := 88) (x := nI 18) rfl (oi_nI 18) ?_
    refine wp_iload (k := 89) rfl rfl ?_
    refine wp_iload (k := 90) rfl rfl ?_
    refine w_Vv (k := 91) [_, _, _] rfl rfl rfl (Nat.le_of_ble_eq_true rfl) (by first | assumption | rfl) (Or.inl ⟨rfl, rfl⟩) ?_
    refine (c_230 m7 (by rw [hd20_len]; decide) (by rw [hd20_len]; decide) (fun I8 m8 f8 => ⟨rfl, ?_⟩))
    have F8 := fx_t F7 f8
    have m8 : mS I8 (at_ (hd20 (uI (tyC (nI 7) (nI 1))) 0 0 (uI (T 1))) 18 (adr ip port)) := m8
    have l8 : (at_ (hd20 (uI (tyC (nI 7) (nI 1))) 0 0 (uI (T 1))) 18 (adr ip port)).length = 32 := by rw [at_len (by rw [hd20_len]; decide), hd20_len, adr_len]; rfl
    have tp8 : I8 100 15 = nI A.length := by rw [F8.2 15 (by decide)]; exact t1
    have hind : ind A ip port (T 1) = at_ (at_ (hd20 (uI (tyC (nI 7) (nI 1))) 0 0 (uI (T 1))) 18 (adr ip port)) 19 A := rfl
    generalize at_ (hd20 (uI (tyC (nI 7) (nI 1))) 0 0 (uI (T 1))) 18 (adr ip port) = X at *
    refine wp_aload (k := 92) rfl rfl ?_
    refine w_ic (k := 93) (x := nI 19) rfl (oi_nI 19) ?_
    refine wp_aload (k := 94) rfl rfl ?_
    refine w_gi (k := 95) (s := 15) rfl rfl (by first | assumption | rfl) tp8 ?_
    refine w_Vi (k := 96) [_, _] rfl rfl rfl (Nat.le_of_ble_eq_true rfl) (by first | assumption | rfl) (Or.inl ⟨rfl, rfl⟩) ?_
    refine (c_229 m8 (by omega) (m := A.length) (by omega) (fun I9 m9 f9 => ⟨_, rfl, ?_⟩))
    have F9 := fx_t F8 f9
    obtain ⟨n1, n2, n3⟩ := m9
    have n2 : av I9 113 (hd_ X 19 A.length ++ List.replicate (pad4 A.length) 0) := n2
    have hX : X.length + 4 ≤ (hd_ X 19 A.length ++ List.replicate (pad4 A.length) 0).length := by rw [hz_len (by omega)]; omega
    have n1 : I9 100 17 = nI (X.length + 4 + pad4 A.length) := by rw [n1, hz_len (by omega)]
    have loop : ∀ (r i : Nat) (I3 : Nat → Nat → Int32), i + r = A.length → av I3 113 (wr (hd_ X 19 A.length ++ List.replicate (pad4 A.length) 0) (X.length + 4) (A.take i)) → (∀ x, x ≠ 113 → I3 x = I9 x) → am_V 254 am_c254 (d + 4) (am_SH N) Q 100 [some (.ref 100), some (.int (nI k)), some (.int ip), some (.int port), some (.int (oI none)), some (.int (nI (X.length + 4))), some (.int (nI i))] [] (am_SH N, I3, L, am_RR w) := by
      intro r
      induction r with
      | zero =>
        intro i I3 hi k3 f3
        rw [List.take_of_length_le (by omega), at_fill (by omega) rfl] at k3
        have tp3 : I3 100 15 = nI A.length := by rw [f3 100 (by decide), F9.2 15 (by decide)]; exact t1
        have t63 : I3 100 60 = T 1 := by rw [f3 100 (by decide), F9.2 60 (by decide)]; exact t60
        have hl : (at_ X 19 A).length = X.length + 4 + pad4 A.length := at_len (by omega) _ _
        have fs3 : fx [113] [17, 60] I (am_u I3 100 60 (T 1 + nI 1)) := fx_t (fx_t (fx_mo F9 (by decide) (by decide)) (fx_a (a := 113) f3 (by decide) (by decide))) (fx_s (by decide))
        refine wp_iload (k := 100) rfl rfl ?_
        refine wp_aload (k := 101) rfl rfl ?_
        refine w_gi (k := 102) (s := 15) rfl rfl (by first | assumption | rfl) tp3 ?_
        refine w_n_ge (k := 103) (t' := 116) rfl rfl (by omega) (fun zq => ?_) (fun zq => absurd zq (by omega))
        refine wp_aload (k := 116) rfl rfl ?_
        refine wp_dup (k := 117) rfl rfl ?_
        refine w_gi (k := 118) (s := 60) rfl rfl (by first | assumption | rfl) t63 ?_
        refine w_ic (k := 119) (x := nI 1) rfl (oi_nI 1) ?_
        refine wp_iadd (k := 120) rfl ?_
        refine w_pi (k := 121) (s := 60) rfl rfl (by first | assumption | rfl) ?_
        refine fin7 _ (inc T 1) (at_ X 19 A) _ _ _ ⟨?_, av_keep k3 (am_uR (by decide)), by rw [hl]; omega⟩ ?_ ?_ (fx_mo fs3 (by decide) (by decide)) (fun x hx => fs3.2 x (fun z => hx ?_)) (fun I' p' u' ta' fx' => hq I' (by rw [hind]; exact p') (tl_eq u' ?_) ta' fx')
        · rw [am_uw (by decide) rfl, hl, f3 100 (by decide)]; exact n1
        · exact tl_in (j := 1) (fun j hj => by rw [f3 100 (by decide), F9.2 _ (by simp; omega)]; exact hT j hj) (by decide) rfl
        · exact ⟨by rw [am_uw (by decide) rfl]; exact tp3, av_keep t2 (fs3.1 112 (by decide) (by decide)), t3⟩
        · rcases List.mem_cons.mp z with e | z
          · rw [e]; decide
          · rcases List.mem_cons.mp z with e | z
            · rw [e]; decide
            · cases z
        · intro j hj
          unfold inc
          by_cases e0 : j = 0
          · subst e0; simp
          · by_cases e1 : j = 1
            · subst e1; simp
            · by_cases e3 : j = 3
              · subst e3; simp
              · simp [e0, e1, e3]
      | succ r ih =>
        intro i I3 hi k3 f3
        have tp3 : I3 100 15 = nI A.length := by rw [f3 100 (by decide), F9.2 15 (by decide)]; exact t1
        have hv : I3 112 i = nI (A.getD i 0) := by rw [f3 112 (by decide), F9.1 112 (by decide) (by decide)]; exact t2.1 i (by omega)
        refine wp_iload (k := 100) rfl rfl ?_
        refine wp_aload (k := 101) rfl rfl ?_
        refine w_gi (k := 102) (s := 15) rfl rfl (by first | assumption | rfl) tp3 ?_
        refine w_n_ge (k := 103) (t' := 116) rfl rfl (by omega) (fun zq => absurd zq (by omega)) (fun zq => ?_)
        refine wp_aload (k := 104) rfl rfl ?_
        refine w_gr (k := 105) (s := 16) rfl rfl (by first | assumption | rfl) (by first | assumption | rfl) ?_
        refine wp_iload (k := 106) rfl rfl ?_
        refine wp_iload (k := 107) rfl rfl ?_
        refine w_addN (k := 108) rfl ?_
        refine wp_aload (k := 109) rfl rfl ?_
        refine w_gr (k := 110) (s := 14) rfl rfl (by first | assumption | rfl) (by first | assumption | rfl) ?_
        refine wp_iload (k := 111) rfl rfl ?_
        refine w_iald (k := 112) rfl rfl (by first | assumption | rfl) (by omega) hv ?_
        refine w_iast (k := 113) rfl rfl (by omega) (by first | assumption | rfl) (by omega) ?_
        refine w_incN (k := 114) (m := 1) rfl (oi_nI 1) rfl ?_
        refine w_goto (k := 115) (t' := 100) rfl rfl ?_
        exact ih (i + 1) _ (by omega) (av_step k3 (by omega) hX t2.2) (fun x hx => by rw [am_uR hx, f3 x hx])
    refine wp_istore (k := 97) (ls2 := [some _, some _, some _, some _, some _, some _, none]) rfl rfl ?_
    refine w_ic (k := 98) (x := nI 0) rfl (oi_nI 0) ?_
    refine wp_istore (k := 99) (ls2 := [some _, some _, some _, some _, some _, some _, some _]) rfl rfl ?_
    exact loop _ 0 I9 (Nat.zero_add _) (by rw [List.take_zero, wr_nil]; exact n2) (fun _ _ => rfl)
end MPE
