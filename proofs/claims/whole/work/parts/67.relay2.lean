section CDB
variable {d N : Nat} {I : Nat → Nat → Int32} {L : Nat → Nat → Int64} {w : Option Nat} {Q : am_Q} {s : SN} {T : Nat → Int32} {A : List Nat} {al : Nat → Option AL}
theorem c_238 {k : Nat} (hk : k < 8) {rel : Int32} (hr : I 124 k = rel) (hA : mT I A) (hp : po_m I (clr s)) (hT : tl_m I T) {ip port : Int32} {i m : Nat} (hi : i + m ≤ A.length) (hq : ∀ I', po_m I' (true, ip, port, rel, (A.drop i).take m) → tl_m I' (inc (inc T 0) 2) → fx [113] SS I I' → mT I' A → Q none (am_SH N, I', L, am_RR w)) : am_call (d + 2) 238 [.ref 100, .int (nI k), .int (nI i), .int (nI m), .int ip, .int port] (am_SH N, I, L, am_RR w) Q := by
  obtain ⟨t1, t2, t3⟩ := id hA
  obtain ⟨s1, s2, s3, s4, ⟨g1, g2, g3⟩⟩ := id hp
  generalize hB : (A.drop i).take m = B at *
  have hBl : B.length = m := by rw [← hB]; simp; omega
  have hBg : ∀ j, j < m → B.getD j 0 = A.getD (i + j) 0 := fun j hj => by
    rw [← hB]
    simp only [List.getD_eq_getElem?_getD, List.getElem?_take, List.getElem?_drop, hj, if_true]
  have hBb : ∀ c ∈ B, c < 256 := fun c hc => t2.2 c (List.mem_of_mem_drop (List.mem_of_mem_take (by rw [hB]; exact hc)))
  have loop : ∀ (r j : Nat) (I3 : Nat → Nat → Int32), j + r = m → av I3 113 (B.take j) → (∀ x, x ≠ 113 → I3 x = I x) → am_V 238 am_c238 (d + 1) (am_SH N) Q 2 [some (.ref 100), some (.int (nI k)), some (.int (nI i)), some (.int (nI m)), some (.int ip), some (.int port), some (.int (nI j))] [] (am_SH N, I3, L, am_RR w) := by
    intro r
    induction r with
    | zero =>
      intro j I3 hj k3 f3
      rw [List.take_of_length_le (by omega)] at k3
      have v61 : I3 100 61 = T 2 := by rw [f3 100 (by decide)]; exact hT 2 (by decide)
      have v24 : I3 124 k = rel := by rw [f3 124 (by decide)]; exact hr
      have F1 : fx [113] SS I (am_u (am_u I3 100 17 (nI m)) 100 61 (T 2 + nI 1)) := fx_t (fx_t (fx_a (a := 113) f3 (by decide) (by decide)) (fx_s (by decide))) (fx_s (by decide))
      have p1 : po_m (am_u (am_u I3 100 17 (nI m)) 100 61 (T 2 + nI 1)) (false, s.2.1, s.2.2.1, s.2.2.2.1, B) := by
        refine ⟨?_, ?_, ?_, ?_, ⟨?_, ?_, by show B.length ≤ 500; omega⟩⟩
        · rw [am_uw (by decide) (am_uw (by decide) rfl), f3 100 (by decide)]; exact s1
        · rw [am_uw (by decide) (am_uw (by decide) rfl), f3 100 (by decide)]; exact s2
        · rw [am_uw (by decide) (am_uw (by decide) rfl), f3 100 (by decide)]; exact s3
        · rw [am_uw (by decide) (am_uw (by decide) rfl), f3 100 (by decide)]; exact s4
        · rw [am_uw (by decide) rfl, am_us, hBl]
        · exact av_keep k3 (by rw [am_uR (by decide), am_uR (by decide)])
      have T1 : tl_m (am_u (am_u I3 100 17 (nI m)) 100 61 (T 2 + nI 1)) (inc T 2) := tl_in (j := 2) (fun j hj => by rw [am_uw (by omega) rfl, f3 100 (by decide)]; exact hT j hj) (by decide) rfl
      refine wp_iload (k := 2) rfl rfl ?_
      refine wp_iload (k := 3) rfl rfl ?_
      refine w_n_ge (k := 4) (t' := 17) rfl rfl (by omega) (fun zq => ?_) (fun zq => absurd zq (by omega))
      refine wp_aload (k := 17) rfl rfl ?_
      refine wp_iload (k := 18) rfl rfl ?_
      refine w_pi (k := 19) (s := 17) rfl rfl (by first | assumption | rfl) ?_
      refine wp_aload (k := 20) rfl rfl ?_
      refine wp_dup (k := 21) rfl rfl ?_
      refine w_gi (k := 22) (s := 61) rfl rfl (by first | assumption | rfl) (am_uw (by decide) v61) ?_
      refine w_ic (k := 23) (x := nI 1) rfl (oi_nI 1) ?_
      refine wp_iadd (k := 24) rfl ?_
      refine w_pi (k := 25) (s := 61) rfl rfl (by first | assumption | rfl) ?_
      refine wp_aload (k := 26) rfl rfl ?_
      refine wp_iload (k := 27) rfl rfl ?_
      refine wp_iload (k := 28) rfl rfl ?_
      refine wp_aload (k := 29) rfl rfl ?_
      refine w_gr (k := 30) (s := 39) rfl rfl (by first | assumption | rfl) (by first | assumption | rfl) ?_
      refine wp_iload (k := 31) rfl rfl ?_
      refine w_iald (k := 32) rfl rfl (by first | assumption | rfl) (by omega) (show am_u (am_u I3 100 17 (nI m)) 100 61 (T 2 + nI 1) 124 k = rel by rw [am_uR (by decide), am_uR (by decide)]; exact v24) ?_
      refine w_Vv (k := 33) [_, _, _] rfl rfl rfl (Nat.le_of_ble_eq_true rfl) (by first | assumption | rfl) (Or.inl ⟨rfl, rfl⟩) ?_
      refine (c_223 p1 T1 (fun I4 p4 t4 f4 => ⟨rfl, ?_⟩))
      refine w_rv (k := 34) rfl rfl rfl rfl ?_
      refine hq I4 p4 (tl_eq t4 ?_) (fx_t F1 (fx_mo f4 (by decide) (by decide))) ?_
      · intro j hj
        unfold inc
        by_cases e0 : j = 0
        · subst e0; simp
        · by_cases e1 : j = 2
          · subst e1; simp
          · simp [e0, e1]
      · exact mT_k (mT_k (mT_k (P := [113]) (S := []) hA (fx_a (a := 113) f3 (by decide) (by decide)) (by decide) (by decide)) (fx_t (P := []) (S := [17, 61]) (fx_s (by decide)) (fx_s (by decide))) (by decide) (by decide)) f4 (by decide) (by decide)
    | succ r ih =>
      intro j I3 hj k3 f3
      have hv : I3 112 (i + j) = nI (B.getD j 0) := by rw [f3 112 (by decide), hBg j (by omega)]; exact t2.1 (i + j) (by omega)
      have hl : (B.take j).length = j := by simp; omega
      refine wp_iload (k := 2) rfl rfl ?_
      refine wp_iload (k := 3) rfl rfl ?_
      refine w_n_ge (k := 4) (t' := 17) rfl rfl (by omega) (fun zq => absurd zq (by omega)) (fun zq => ?_)
      refine wp_aload (k := 5) rfl rfl ?_
      refine w_gr (k := 6) (s := 16) rfl rfl (by first | assumption | rfl) (by first | assumption | rfl) ?_
      refine wp_iload (k := 7) rfl rfl ?_
      refine wp_aload (k := 8) rfl rfl ?_
      refine w_gr (k := 9) (s := 14) rfl rfl (by first | assumption | rfl) (by first | assumption | rfl) ?_
      refine wp_iload (k := 10) rfl rfl ?_
      refine wp_iload (k := 11) rfl rfl ?_
      refine w_addN (k := 12) rfl ?_
      refine w_iald (k := 13) rfl rfl (by first | assumption | rfl) (by omega) hv ?_
      refine w_iast (k := 14) rfl rfl (by omega) (by first | assumption | rfl) (by omega) ?_
      refine w_incN (k := 15) (m := 1) rfl (oi_nI 1) rfl ?_
      refine w_goto (k := 16) (t' := 2) rfl rfl ?_
      have k4 := av_w1 k3 (s := j) (by omega) (gd_lt hBb j)
      rw [wr_e hl.symm, tk_app (by omega)] at k4
      exact ih (j + 1) _ (by omega) k4 (fun x hx => by rw [am_uR hx, f3 x hx])
  refine am_enter (ls := [some _, some _, some _, some _, some _, some _, none]) (cs := am_c238) rfl rfl (Nat.le_of_ble_eq_true rfl) rfl ?_
  refine w_ic (k := 0) (x := nI 0) rfl (oi_nI 0) ?_
  refine wp_istore (k := 1) rfl rfl ?_
  exact loop m 0 I (Nat.zero_add _) (by rw [List.take_zero]; exact g2) (fun _ _ => rfl)
end CDB
