/-! ===== new RelayHouse() ===== -/
def RRc : Nat → Nat → Option Nat := fun p k => if p < 100 then am_RR none p k else none
def Rb' (R : Nat → Nat → Option Nat) : Prop := ∀ p k, 100 ≤ p ∨ 68 ≤ k → R p k = none
theorem Rb'_0 : Rb' (fun _ _ => none) := fun _ _ _ => rfl
theorem Rb'_u {R : Nat → Nat → Option Nat} {p k : Nat} {v : Option Nat} (hp : p < 100) (hk : k < 68) (h : Rb' R) : Rb' (am_u R p k v) := fun x y hxy => by rw [am_u_app, if_neg (by omega)]; exact h x y hxy
theorem am_RRb : Rb (am_RR none) := by
  intro p k h
  unfold am_RR
  by_cases c : p = 91 ∧ k = 13
  · rw [if_pos c]
  · rw [if_neg c]
    have hr : ∀ r ∈ am_Rt, r.length ≤ 68 := by decide +kernel
    have hl : am_Rt.length ≤ 139 := by decide +kernel
    rcases h with h | h
    · have : am_Rt.getD p [] = [] := by rw [List.getD_eq_getElem?_getD, List.getElem?_eq_none (by omega)]; rfl
      rw [this]; rfl
    · by_cases c2 : p < am_Rt.length
      · have := hr _ (gD_mem (d := []) c2)
        rw [List.getD_eq_getElem?_getD, List.getElem?_eq_none (by omega)]; rfl
      · have : am_Rt.getD p [] = [] := by rw [List.getD_eq_getElem?_getD, List.getElem?_eq_none (by omega)]; rfl
        rw [this]; rfl
theorem RRc_eq {R : Nat → Nat → Option Nat} (hb : Rb' R) (hd : ∀ p, p < 100 → ∀ k, k < 68 → R p k = am_RR none p k) : R = RRc := by
  funext p k
  unfold RRc
  by_cases c : p < 100
  · rw [if_pos c]
    by_cases c2 : k < 68
    · exact hd p c k c2
    · rw [hb p k (by omega), am_RRb p k (by omega)]
  · rw [if_neg c]; exact hb p k (by omega)
section CC
variable {d N : Nat} {Q : am_Q} {I : Nat → Nat → Int32}
theorem c_138 (hI : ∀ m, 4 ≤ m → I m = fun _ => 0) (hq : Q none (sT N 100, am_u I 18 5 (nI 2), am_u (fun _ _ => 0) 18 3 (lN 114), RRc)) : am_call (d + 5) 138 [.ref 4] (sT N 5, I, fun _ _ => 0, fun _ _ => none) Q := by
  refine am_enter (ls := [some _]) (cs := am_c138) rfl rfl (Nat.le_of_ble_eq_true rfl) rfl ?_
  refine wp_aload (k := 0) rfl rfl ?_
  refine wp_objInit (k := 1) rfl (Nat.le_of_ble_eq_true rfl) ?_
  refine wp_aload (k := 2) rfl rfl ?_
  refine k_new (k := 3) (m := 5) rfl rfl rfl (by first | exact hI _ (by decide) | (rw [am_uR (by decide)]; exact hI _ (by decide))) (by first | rfl | exact hL _ (by decide)) rfl (Nat.le_of_ble_eq_true rfl) (z_ok (m := 1) (Nat.le_of_ble_eq_true rfl)) ?_
  refine wp_dup (k := 4) rfl rfl ?_
  refine w_ic (k := 5) (x := nI 400) rfl (oi_nI 400) ?_
  refine w_Iv (k := 6) [_] rfl rfl rfl (Nat.le_of_ble_eq_true rfl) (by first | assumption | rfl) (Or.inr ⟨(Nat.le_of_ble_eq_true rfl), z_ok (m := 2) (Nat.le_of_ble_eq_true rfl)⟩) ?_
  refine am_enter (ls := [some _, some _]) (cs := am_c270) rfl rfl (Nat.le_of_ble_eq_true rfl) rfl ?_
  refine wp_aload (k := 0) rfl rfl ?_
  refine wp_objInit (k := 1) rfl (Nat.le_of_ble_eq_true rfl) ?_
  refine wp_aload (k := 2) rfl rfl ?_
  refine w_ic (k := 3) (x := nI 0) rfl (oi_nI 0) ?_
  refine wp_iload (k := 4) rfl rfl ?_
  refine wp_mm0 (k := 5) rfl (Nat.le_of_ble_eq_true rfl) ?_
  rw [if_pos (show nI 0 < nI 400 by decide)]
  refine k_newa (k := 6) (m := 6) rfl (Nat.le_of_ble_eq_true rfl) rfl rfl (by first | exact hI _ (by decide) | (rw [am_uR (by decide)]; exact hI _ (by decide))) (by first | rfl | exact hL _ (by decide)) rfl (Nat.le_of_ble_eq_true rfl) (z_ok (m := 2) (Nat.le_of_ble_eq_true rfl)) ?_
  refine w_pr (k := 7) (s := 0) rfl rfl (by first | assumption | rfl) ?_
  refine k_rv (k := 8) (m := 7) rfl rfl (z_eq (m := 3) rfl) rfl ?_
  refine ⟨rfl, ?_⟩
  refine w_pr (k := 7) (s := 0) rfl rfl (by first | assumption | rfl) ?_
  refine wp_aload (k := 8) rfl rfl ?_
  refine k_new (k := 9) (m := 7) rfl rfl rfl (by first | exact hI _ (by decide) | (rw [am_uR (by decide)]; exact hI _ (by decide))) (by first | rfl | exact hL _ (by decide)) rfl (Nat.le_of_ble_eq_true rfl) (z_ok (m := 3) (Nat.le_of_ble_eq_true rfl)) ?_
  refine wp_dup (k := 10) rfl rfl ?_
  refine w_Iv (k := 11) [] rfl rfl rfl (Nat.le_of_ble_eq_true rfl) (by first | assumption | rfl) (Or.inr ⟨(Nat.le_of_ble_eq_true rfl), z_ok (m := 4) (Nat.le_of_ble_eq_true rfl)⟩) ?_
  refine am_enter (ls := [some _]) (cs := am_c91) rfl rfl (Nat.le_of_ble_eq_true rfl) rfl ?_
  refine wp_aload (k := 0) rfl rfl ?_
  refine wp_objInit (k := 1) rfl (Nat.le_of_ble_eq_true rfl) ?_
  refine wp_aload (k := 2) rfl rfl ?_
  refine k_new (k := 3) (m := 8) rfl rfl rfl (by first | exact hI _ (by decide) | (rw [am_uR (by decide)]; exact hI _ (by decide))) (by first | rfl | exact hL _ (by decide)) rfl (Nat.le_of_ble_eq_true rfl) (z_ok (m := 4) (Nat.le_of_ble_eq_true rfl)) ?_
  refine wp_dup (k := 4) rfl rfl ?_
  refine w_Iv (k := 5) [] rfl rfl rfl (Nat.le_of_ble_eq_true rfl) (by first | assumption | rfl) (Or.inr ⟨(Nat.le_of_ble_eq_true rfl), z_ok (m := 5) (Nat.le_of_ble_eq_true rfl)⟩) ?_
  refine am_enter (ls := [some _]) (cs := am_c119) rfl rfl (Nat.le_of_ble_eq_true rfl) rfl ?_
  refine wp_aload (k := 0) rfl rfl ?_
  refine wp_objInit (k := 1) rfl (Nat.le_of_ble_eq_true rfl) ?_
  refine wp_aload (k := 2) rfl rfl ?_
  refine w_ic (k := 3) (x := nI 8) rfl (oi_nI 8) ?_
  refine k_newa (k := 4) (m := 9) rfl (Nat.le_of_ble_eq_true rfl) rfl rfl (by first | exact hI _ (by decide) | (rw [am_uR (by decide)]; exact hI _ (by decide))) (by first | rfl | exact hL _ (by decide)) rfl (Nat.le_of_ble_eq_true rfl) (z_ok (m := 5) (Nat.le_of_ble_eq_true rfl)) ?_
  refine w_pr (k := 5) (s := 0) rfl rfl (by first | assumption | rfl) ?_
  refine wp_aload (k := 6) rfl rfl ?_
  refine w_ic (k := 7) (x := nI 64) rfl (oi_nI 64) ?_
  refine k_newa (k := 8) (m := 10) rfl (Nat.le_of_ble_eq_true rfl) rfl rfl (by first | exact hI _ (by decide) | (rw [am_uR (by decide)]; exact hI _ (by decide))) (by first | rfl | exact hL _ (by decide)) rfl (Nat.le_of_ble_eq_true rfl) (z_ok (m := 6) (Nat.le_of_ble_eq_true rfl)) ?_
  refine w_pr (k := 9) (s := 1) rfl rfl (by first | assumption | rfl) ?_
  refine k_rv (k := 10) (m := 11) rfl rfl (z_eq (m := 7) rfl) rfl ?_
  refine ⟨rfl, ?_⟩
  refine w_pr (k := 6) (s := 0) rfl rfl (by first | assumption | rfl) ?_
  refine wp_aload (k := 7) rfl rfl ?_
  refine k_new (k := 8) (m := 11) rfl rfl rfl (by first | exact hI _ (by decide) | (rw [am_uR (by decide)]; exact hI _ (by decide))) (by first | rfl | exact hL _ (by decide)) rfl (Nat.le_of_ble_eq_true rfl) (z_ok (m := 7) (Nat.le_of_ble_eq_true rfl)) ?_
  refine wp_dup (k := 9) rfl rfl ?_
  refine w_ic (k := 10) (x := nI 572) rfl (oi_nI 572) ?_
  refine w_Iv (k := 11) [_] rfl rfl rfl (Nat.le_of_ble_eq_true rfl) (by first | assumption | rfl) (Or.inr ⟨(Nat.le_of_ble_eq_true rfl), z_ok (m := 8) (Nat.le_of_ble_eq_true rfl)⟩) ?_
  refine am_enter (ls := [some _, some _]) (cs := am_c268) rfl rfl (Nat.le_of_ble_eq_true rfl) rfl ?_
  refine wp_aload (k := 0) rfl rfl ?_
  refine wp_objInit (k := 1) rfl (Nat.le_of_ble_eq_true rfl) ?_
  refine wp_aload (k := 2) rfl rfl ?_
  refine w_ic (k := 3) (x := nI 0) rfl (oi_nI 0) ?_
  refine wp_iload (k := 4) rfl rfl ?_
  refine wp_mm0 (k := 5) rfl (Nat.le_of_ble_eq_true rfl) ?_
  rw [if_pos (show nI 0 < nI 572 by decide)]
  refine k_newa (k := 6) (m := 12) rfl (Nat.le_of_ble_eq_true rfl) rfl rfl (by first | exact hI _ (by decide) | (rw [am_uR (by decide)]; exact hI _ (by decide))) (by first | rfl | exact hL _ (by decide)) rfl (Nat.le_of_ble_eq_true rfl) (z_ok (m := 8) (Nat.le_of_ble_eq_true rfl)) ?_
  refine w_pr (k := 7) (s := 0) rfl rfl (by first | assumption | rfl) ?_
  refine k_rv (k := 8) (m := 13) rfl rfl (z_eq (m := 9) rfl) rfl ?_
  refine ⟨rfl, ?_⟩
  refine w_pr (k := 12) (s := 1) rfl rfl (by first | assumption | rfl) ?_
  refine wp_aload (k := 13) rfl rfl ?_
  refine k_new (k := 14) (m := 13) rfl rfl rfl (by first | exact hI _ (by decide) | (rw [am_uR (by decide)]; exact hI _ (by decide))) (by first | rfl | exact hL _ (by decide)) rfl (Nat.le_of_ble_eq_true rfl) (z_ok (m := 9) (Nat.le_of_ble_eq_true rfl)) ?_
  refine wp_dup (k := 15) rfl rfl ?_
  refine w_ic (k := 16) (x := nI 32) rfl (oi_nI 32) ?_
  refine w_Iv (k := 17) [_] rfl rfl rfl (Nat.le_of_ble_eq_true rfl) (by first | assumption | rfl) (Or.inr ⟨(Nat.le_of_ble_eq_true rfl), z_ok (m := 10) (Nat.le_of_ble_eq_true rfl)⟩) ?_
  refine am_enter (ls := [some _, some _]) (cs := am_c269) rfl rfl (Nat.le_of_ble_eq_true rfl) rfl ?_
  refine wp_aload (k := 0) rfl rfl ?_
  refine wp_objInit (k := 1) rfl (Nat.le_of_ble_eq_true rfl) ?_
  refine wp_aload (k := 2) rfl rfl ?_
  refine w_ic (k := 3) (x := nI 0) rfl (oi_nI 0) ?_
  refine wp_iload (k := 4) rfl rfl ?_
  refine wp_mm0 (k := 5) rfl (Nat.le_of_ble_eq_true rfl) ?_
  rw [if_pos (show nI 0 < nI 32 by decide)]
  refine k_newa (k := 6) (m := 14) rfl (Nat.le_of_ble_eq_true rfl) rfl rfl (by first | exact hI _ (by decide) | (rw [am_uR (by decide)]; exact hI _ (by decide))) (by first | rfl | exact hL _ (by decide)) rfl (Nat.le_of_ble_eq_true rfl) (z_ok (m := 10) (Nat.le_of_ble_eq_true rfl)) ?_
  refine w_pr (k := 7) (s := 0) rfl rfl (by first | assumption | rfl) ?_
  refine k_rv (k := 8) (m := 15) rfl rfl (z_eq (m := 11) rfl) rfl ?_
  refine ⟨rfl, ?_⟩
  refine w_pr (k := 18) (s := 2) rfl rfl (by first | assumption | rfl) ?_
  refine wp_aload (k := 19) rfl rfl ?_
  refine k_new (k := 20) (m := 15) rfl rfl rfl (by first | exact hI _ (by decide) | (rw [am_uR (by decide)]; exact hI _ (by decide))) (by first | rfl | exact hL _ (by decide)) rfl (Nat.le_of_ble_eq_true rfl) (z_ok (m := 11) (Nat.le_of_ble_eq_true rfl)) ?_
  refine wp_dup (k := 21) rfl rfl ?_
  refine w_ic (k := 22) (x := nI 32) rfl (oi_nI 32) ?_
  refine w_Iv (k := 23) [_] rfl rfl rfl (Nat.le_of_ble_eq_true rfl) (by first | assumption | rfl) (Or.inr ⟨(Nat.le_of_ble_eq_true rfl), z_ok (m := 12) (Nat.le_of_ble_eq_true rfl)⟩) ?_
  refine am_enter (ls := [some _, some _]) (cs := am_c269) rfl rfl (Nat.le_of_ble_eq_true rfl) rfl ?_
  refine wp_aload (k := 0) rfl rfl ?_
  refine wp_objInit (k := 1) rfl (Nat.le_of_ble_eq_true rfl) ?_
  refine wp_aload (k := 2) rfl rfl ?_
  refine w_ic (k := 3) (x := nI 0) rfl (oi_nI 0) ?_
  refine wp_iload (k := 4) rfl rfl ?_
  refine wp_mm0 (k := 5) rfl (Nat.le_of_ble_eq_true rfl) ?_
  rw [if_pos (show nI 0 < nI 32 by decide)]
  refine k_newa (k := 6) (m := 16) rfl (Nat.le_of_ble_eq_true rfl) rfl rfl (by first | exact hI _ (by decide) | (rw [am_uR (by decide)]; exact hI _ (by decide))) (by first | rfl | exact hL _ (by decide)) rfl (Nat.le_of_ble_eq_true rfl) (z_ok (m := 12) (Nat.le_of_ble_eq_true rfl)) ?_
  refine w_pr (k := 7) (s := 0) rfl rfl (by first | assumption | rfl) ?_
  refine k_rv (k := 8) (m := 17) rfl rfl (z_eq (m := 13) rfl) rfl ?_
  refine ⟨rfl, ?_⟩
  refine w_pr (k := 24) (s := 3) rfl rfl (by first | assumption | rfl) ?_
  refine k_rv (k := 25) (m := 17) rfl rfl (z_eq (m := 13) rfl) rfl ?_
  refine ⟨rfl, ?_⟩
  refine w_pr (k := 12) (s := 1) rfl rfl (by first | assumption | rfl) ?_
  refine wp_aload (k := 13) rfl rfl ?_
  refine k_new (k := 14) (m := 17) rfl rfl rfl (by first | exact hI _ (by decide) | (rw [am_uR (by decide)]; exact hI _ (by decide))) (by first | rfl | exact hL _ (by decide)) rfl (Nat.le_of_ble_eq_true rfl) (z_ok (m := 13) (Nat.le_of_ble_eq_true rfl)) ?_
  refine wp_dup (k := 15) rfl rfl ?_
  refine wp_aload (k := 16) rfl rfl ?_
  refine w_gr (k := 17) (s := 0) rfl rfl (by first | assumption | rfl) (by first | assumption | rfl) ?_
  refine wp_aload (k := 18) rfl rfl ?_
  refine w_gr (k := 19) (s := 1) rfl rfl (by first | assumption | rfl) (by first | assumption | rfl) ?_
  refine w_Iv (k := 20) [_, _] rfl rfl rfl (Nat.le_of_ble_eq_true rfl) (by first | assumption | rfl) (Or.inl ⟨rfl, rfl⟩) ?_
  refine am_enter (ls := [some _, some _, some _]) (cs := am_c57) rfl rfl (Nat.le_of_ble_eq_true rfl) rfl ?_
  refine wp_aload (k := 0) rfl rfl ?_
  refine wp_objInit (k := 1) rfl (Nat.le_of_ble_eq_true rfl) ?_
  refine wp_aload (k := 2) rfl rfl ?_
  refine wp_aload (k := 3) rfl rfl ?_
  refine w_pr (k := 4) (s := 0) rfl rfl (by first | assumption | rfl) ?_
  refine wp_aload (k := 5) rfl rfl ?_
  refine wp_aload (k := 6) rfl rfl ?_
  refine w_pr (k := 7) (s := 1) rfl rfl (by first | assumption | rfl) ?_
  refine w_rv (k := 8) rfl rfl rfl rfl ?_
  refine ⟨rfl, ?_⟩
  refine w_pr (k := 21) (s := 2) rfl rfl (by first | assumption | rfl) ?_
  refine wp_aload (k := 22) rfl rfl ?_
  refine k_new (k := 23) (m := 18) rfl rfl rfl (by first | exact hI _ (by decide) | (rw [am_uR (by decide)]; exact hI _ (by decide))) (by first | rfl | exact hL _ (by decide)) rfl (Nat.le_of_ble_eq_true rfl) (z_ok (m := 14) (Nat.le_of_ble_eq_true rfl)) ?_
  refine wp_dup (k := 24) rfl rfl ?_
  refine w_Iv (k := 25) [] rfl rfl rfl (Nat.le_of_ble_eq_true rfl) (by first | assumption | rfl) (Or.inr ⟨(Nat.le_of_ble_eq_true rfl), z_ok (m := 15) (Nat.le_of_ble_eq_true rfl)⟩) ?_
  refine am_enter (ls := [some _]) (cs := am_c123) rfl rfl (Nat.le_of_ble_eq_true rfl) rfl ?_
  refine wp_aload (k := 0) rfl rfl ?_
  refine wp_objInit (k := 1) rfl (Nat.le_of_ble_eq_true rfl) ?_
  refine wp_aload (k := 2) rfl rfl ?_
  refine w_ic (k := 3) (x := nI 8) rfl (oi_nI 8) ?_
  refine k_newa (k := 4) (m := 19) rfl (Nat.le_of_ble_eq_true rfl) rfl rfl (by first | exact hI _ (by decide) | (rw [am_uR (by decide)]; exact hI _ (by decide))) (by first | rfl | exact hL _ (by decide)) rfl (Nat.le_of_ble_eq_true rfl) (z_ok (m := 15) (Nat.le_of_ble_eq_true rfl)) ?_
  refine w_pr (k := 5) (s := 0) rfl rfl (by first | assumption | rfl) ?_
  refine wp_aload (k := 6) rfl rfl ?_
  refine w_ic (k := 7) (x := nI 8) rfl (oi_nI 8) ?_
  refine k_newa (k := 8) (m := 20) rfl (Nat.le_of_ble_eq_true rfl) rfl rfl (by first | exact hI _ (by decide) | (rw [am_uR (by decide)]; exact hI _ (by decide))) (by first | rfl | exact hL _ (by decide)) rfl (Nat.le_of_ble_eq_true rfl) (z_ok (m := 16) (Nat.le_of_ble_eq_true rfl)) ?_
  refine w_pr (k := 9) (s := 1) rfl rfl (by first | assumption | rfl) ?_
  refine wp_aload (k := 10) rfl rfl ?_
  refine w_lc (k := 11) (x := lN 114) rfl (ol_lN 114) ?_
  refine w_pl (k := 12) (s := 3) rfl rfl (by first | assumption | rfl) ?_
  refine wp_aload (k := 13) rfl rfl ?_
  refine w_ic (k := 14) (x := nI 2) rfl (oi_nI 2) ?_
  refine w_pi (k := 15) (s := 5) rfl rfl (by first | assumption | rfl) ?_
  refine k_rv (k := 16) (m := 21) rfl rfl (z_eq (m := 17) rfl) rfl ?_
  refine ⟨rfl, ?_⟩
  refine w_pr (k := 26) (s := 3) rfl rfl (by first | assumption | rfl) ?_
  refine wp_aload (k := 27) rfl rfl ?_
  refine k_new (k := 28) (m := 21) rfl rfl rfl (by first | exact hI _ (by decide) | (rw [am_uR (by decide)]; exact hI _ (by decide))) (by first | rfl | exact hL _ (by decide)) rfl (Nat.le_of_ble_eq_true rfl) (z_ok (m := 17) (Nat.le_of_ble_eq_true rfl)) ?_
  refine wp_dup (k := 29) rfl rfl ?_
  refine w_Iv (k := 30) [] rfl rfl rfl (Nat.le_of_ble_eq_true rfl) (by first | assumption | rfl) (Or.inr ⟨(Nat.le_of_ble_eq_true rfl), z_ok (m := 18) (Nat.le_of_ble_eq_true rfl)⟩) ?_
  refine am_enter (ls := [some _]) (cs := am_c31) rfl rfl (Nat.le_of_ble_eq_true rfl) rfl ?_
  refine wp_aload (k := 0) rfl rfl ?_
  refine wp_objInit (k := 1) rfl (Nat.le_of_ble_eq_true rfl) ?_
  refine wp_aload (k := 2) rfl rfl ?_
  refine w_ic (k := 3) (x := nI 4) rfl (oi_nI 4) ?_
  refine k_newa (k := 4) (m := 22) rfl (Nat.le_of_ble_eq_true rfl) rfl rfl (by first | exact hI _ (by decide) | (rw [am_uR (by decide)]; exact hI _ (by decide))) (by first | rfl | exact hL _ (by decide)) rfl (Nat.le_of_ble_eq_true rfl) (z_ok (m := 18) (Nat.le_of_ble_eq_true rfl)) ?_
  refine w_pr (k := 5) (s := 0) rfl rfl (by first | assumption | rfl) ?_
  refine wp_aload (k := 6) rfl rfl ?_
  refine w_ic (k := 7) (x := nI 4) rfl (oi_nI 4) ?_
  refine k_newa (k := 8) (m := 23) rfl (Nat.le_of_ble_eq_true rfl) rfl rfl (by first | exact hI _ (by decide) | (rw [am_uR (by decide)]; exact hI _ (by decide))) (by first | rfl | exact hL _ (by decide)) rfl (Nat.le_of_ble_eq_true rfl) (z_ok (m := 19) (Nat.le_of_ble_eq_true rfl)) ?_
  refine w_pr (k := 9) (s := 1) rfl rfl (by first | assumption | rfl) ?_
  refine k_rv (k := 10) (m := 24) rfl rfl (z_eq (m := 20) rfl) rfl ?_
  refine ⟨rfl, ?_⟩
  refine w_pr (k := 31) (s := 4) rfl rfl (by first | assumption | rfl) ?_
  refine wp_aload (k := 32) rfl rfl ?_
  refine k_new (k := 33) (m := 24) rfl rfl rfl (by first | exact hI _ (by decide) | (rw [am_uR (by decide)]; exact hI _ (by decide))) (by first | rfl | exact hL _ (by decide)) rfl (Nat.le_of_ble_eq_true rfl) (z_ok (m := 20) (Nat.le_of_ble_eq_true rfl)) ?_
  refine wp_dup (k := 34) rfl rfl ?_
  refine w_Iv (k := 35) [] rfl rfl rfl (Nat.le_of_ble_eq_true rfl) (by first | assumption | rfl) (Or.inr ⟨(Nat.le_of_ble_eq_true rfl), z_ok (m := 21) (Nat.le_of_ble_eq_true rfl)⟩) ?_
  refine am_enter (ls := [some _, none]) (cs := am_c21) rfl rfl (Nat.le_of_ble_eq_true rfl) rfl ?_
  refine wp_aload (k := 0) rfl rfl ?_
  refine wp_objInit (k := 1) rfl (Nat.le_of_ble_eq_true rfl) ?_
  refine wp_aload (k := 2) rfl rfl ?_
  refine w_ic (k := 3) (x := nI 8) rfl (oi_nI 8) ?_
  refine k_newa (k := 4) (m := 25) rfl (Nat.le_of_ble_eq_true rfl) rfl rfl (by first | exact hI _ (by decide) | (rw [am_uR (by decide)]; exact hI _ (by decide))) (by first | rfl | exact hL _ (by decide)) rfl (Nat.le_of_ble_eq_true rfl) (z_ok (m := 21) (Nat.le_of_ble_eq_true rfl)) ?_
  refine w_pr (k := 5) (s := 0) rfl rfl (by first | assumption | rfl) ?_
  refine w_ic (k := 6) (x := nI 0) rfl (oi_nI 0) ?_
  refine wp_istore (k := 7) (ls2 := [some _, some _]) rfl rfl ?_
  refine wp_iload (k := 8) rfl rfl ?_
  refine w_ic (k := 9) (x := nI 8) rfl (oi_nI 8) ?_
  refine w_n_ge (k := 10) (t' := 20) rfl rfl (by omega) (fun zq => absurd zq (by omega)) (fun zq => ?_)
  refine wp_aload (k := 11) rfl rfl ?_
  refine w_gr (k := 12) (s := 0) rfl rfl (by first | assumption | rfl) (by first | assumption | rfl) ?_
  refine wp_iload (k := 13) rfl rfl ?_
  refine k_new (k := 14) (m := 26) rfl rfl rfl (by first | exact hI _ (by decide) | (rw [am_uR (by decide)]; exact hI _ (by decide))) (by first | rfl | exact hL _ (by decide)) rfl (Nat.le_of_ble_eq_true rfl) (z_ok (m := 22) (Nat.le_of_ble_eq_true rfl)) ?_
  refine wp_dup (k := 15) rfl rfl ?_
  refine w_Iv (k := 16) [] rfl rfl rfl (Nat.le_of_ble_eq_true rfl) (by first | assumption | rfl) (Or.inr ⟨(Nat.le_of_ble_eq_true rfl), z_ok (m := 23) (Nat.le_of_ble_eq_true rfl)⟩) ?_
  refine am_enter (ls := [some _]) (cs := am_c1) rfl rfl (Nat.le_of_ble_eq_true rfl) rfl ?_
  refine wp_aload (k := 0) rfl rfl ?_
  refine wp_objInit (k := 1) rfl (Nat.le_of_ble_eq_true rfl) ?_
  refine wp_aload (k := 2) rfl rfl ?_
  refine w_ic (k := 3) (x := nI 16) rfl (oi_nI 16) ?_
  refine k_newa (k := 4) (m := 27) rfl (Nat.le_of_ble_eq_true rfl) rfl rfl (by first | exact hI _ (by decide) | (rw [am_uR (by decide)]; exact hI _ (by decide))) (by first | rfl | exact hL _ (by decide)) rfl (Nat.le_of_ble_eq_true rfl) (z_ok (m := 23) (Nat.le_of_ble_eq_true rfl)) ?_
  refine w_pr (k := 5) (s := 8) rfl rfl (by first | assumption | rfl) ?_
  refine wp_aload (k := 6) rfl rfl ?_
  refine w_ic (k := 7) (x := nI 16) rfl (oi_nI 16) ?_
  refine k_newa (k := 8) (m := 28) rfl (Nat.le_of_ble_eq_true rfl) rfl rfl (by first | exact hI _ (by decide) | (rw [am_uR (by decide)]; exact hI _ (by decide))) (by first | rfl | exact hL _ (by decide)) rfl (Nat.le_of_ble_eq_true rfl) (z_ok (m := 24) (Nat.le_of_ble_eq_true rfl)) ?_
  refine w_pr (k := 9) (s := 9) rfl rfl (by first | assumption | rfl) ?_
  refine wp_aload (k := 10) rfl rfl ?_
  refine w_ic (k := 11) (x := nI 8) rfl (oi_nI 8) ?_
  refine k_newa (k := 12) (m := 29) rfl (Nat.le_of_ble_eq_true rfl) rfl rfl (by first | exact hI _ (by decide) | (rw [am_uR (by decide)]; exact hI _ (by decide))) (by first | rfl | exact hL _ (by decide)) rfl (Nat.le_of_ble_eq_true rfl) (z_ok (m := 25) (Nat.le_of_ble_eq_true rfl)) ?_
  refine w_pr (k := 13) (s := 11) rfl rfl (by first | assumption | rfl) ?_
  refine wp_aload (k := 14) rfl rfl ?_
  refine w_ic (k := 15) (x := nI 8) rfl (oi_nI 8) ?_
  refine k_newa (k := 16) (m := 30) rfl (Nat.le_of_ble_eq_true rfl) rfl rfl (by first | exact hI _ (by decide) | (rw [am_uR (by decide)]; exact hI _ (by decide))) (by first | rfl | exact hL _ (by decide)) rfl (Nat.le_of_ble_eq_true rfl) (z_ok (m := 26) (Nat.le_of_ble_eq_true rfl)) ?_
  refine w_pr (k := 17) (s := 12) rfl rfl (by first | assumption | rfl) ?_
  refine wp_aload (k := 18) rfl rfl ?_
  refine w_ic (k := 19) (x := nI 8) rfl (oi_nI 8) ?_
  refine k_newa (k := 20) (m := 31) rfl (Nat.le_of_ble_eq_true rfl) rfl rfl (by first | exact hI _ (by decide) | (rw [am_uR (by decide)]; exact hI _ (by decide))) (by first | rfl | exact hL _ (by decide)) rfl (Nat.le_of_ble_eq_true rfl) (z_ok (m := 27) (Nat.le_of_ble_eq_true rfl)) ?_
  refine w_pr (k := 21) (s := 13) rfl rfl (by first | assumption | rfl) ?_
  refine wp_aload (k := 22) rfl rfl ?_
  refine w_ic (k := 23) (x := nI 8) rfl (oi_nI 8) ?_
  refine k_newa (k := 24) (m := 32) rfl (Nat.le_of_ble_eq_true rfl) rfl rfl (by first | exact hI _ (by decide) | (rw [am_uR (by decide)]; exact hI _ (by decide))) (by first | rfl | exact hL _ (by decide)) rfl (Nat.le_of_ble_eq_true rfl) (z_ok (m := 28) (Nat.le_of_ble_eq_true rfl)) ?_
  refine w_pr (k := 25) (s := 14) rfl rfl (by first | assumption | rfl) ?_
  refine k_rv (k := 26) (m := 33) rfl rfl (z_eq (m := 29) rfl) rfl ?_
  refine ⟨rfl, ?_⟩
  refine w_aast (k := 17) rfl rfl (by first | assumption | rfl) (by first | assumption | rfl) (by omega) ?_
  refine w_incN (k := 18) (m := 1) rfl (oi_nI 1) rfl ?_
  refine w_ls (ls2 := [some _, some _]) rfl ?_
  refine w_goto (k := 19) (t' := 8) rfl rfl ?_
  refine wp_iload (k := 8) rfl rfl ?_
  refine w_ic (k := 9) (x := nI 8) rfl (oi_nI 8) ?_
  refine w_n_ge (k := 10) (t' := 20) rfl rfl (by omega) (fun zq => absurd zq (by omega)) (fun zq => ?_)
  refine wp_aload (k := 11) rfl rfl ?_
  refine w_gr (k := 12) (s := 0) rfl rfl (by first | assumption | rfl) (by first | assumption | rfl) ?_
  refine wp_iload (k := 13) rfl rfl ?_
  refine k_new (k := 14) (m := 33) rfl rfl rfl (by first | exact hI _ (by decide) | (rw [am_uR (by decide)]; exact hI _ (by decide))) (by first | rfl | exact hL _ (by decide)) rfl (Nat.le_of_ble_eq_true rfl) (z_ok (m := 29) (Nat.le_of_ble_eq_true rfl)) ?_
  refine wp_dup (k := 15) rfl rfl ?_
  refine w_Iv (k := 16) [] rfl rfl rfl (Nat.le_of_ble_eq_true rfl) (by first | assumption | rfl) (Or.inr ⟨(Nat.le_of_ble_eq_true rfl), z_ok (m := 30) (Nat.le_of_ble_eq_true rfl)⟩) ?_
  refine am_enter (ls := [some _]) (cs := am_c1) rfl rfl (Nat.le_of_ble_eq_true rfl) rfl ?_
  refine wp_aload (k := 0) rfl rfl ?_
  refine wp_objInit (k := 1) rfl (Nat.le_of_ble_eq_true rfl) ?_
  refine wp_aload (k := 2) rfl rfl ?_
  refine w_ic (k := 3) (x := nI 16) rfl (oi_nI 16) ?_
  refine k_newa (k := 4) (m := 34) rfl (Nat.le_of_ble_eq_true rfl) rfl rfl (by first | exact hI _ (by decide) | (rw [am_uR (by decide)]; exact hI _ (by decide))) (by first | rfl | exact hL _ (by decide)) rfl (Nat.le_of_ble_eq_true rfl) (z_ok (m := 30) (Nat.le_of_ble_eq_true rfl)) ?_
  refine w_pr (k := 5) (s := 8) rfl rfl (by first | assumption | rfl) ?_
  refine wp_aload (k := 6) rfl rfl ?_
  refine w_ic (k := 7) (x := nI 16) rfl (oi_nI 16) ?_
  refine k_newa (k := 8) (m := 35) rfl (Nat.le_of_ble_eq_true rfl) rfl rfl (by first | exact hI _ (by decide) | (rw [am_uR (by decide)]; exact hI _ (by decide))) (by first | rfl | exact hL _ (by decide)) rfl (Nat.le_of_ble_eq_true rfl) (z_ok (m := 31) (Nat.le_of_ble_eq_true rfl)) ?_
  refine w_pr (k := 9) (s := 9) rfl rfl (by first | assumption | rfl) ?_
  refine wp_aload (k := 10) rfl rfl ?_
  refine w_ic (k := 11) (x := nI 8) rfl (oi_nI 8) ?_
  refine k_newa (k := 12) (m := 36) rfl (Nat.le_of_ble_eq_true rfl) rfl rfl (by first | exact hI _ (by decide) | (rw [am_uR (by decide)]; exact hI _ (by decide))) (by first | rfl | exact hL _ (by decide)) rfl (Nat.le_of_ble_eq_true rfl) (z_ok (m := 32) (Nat.le_of_ble_eq_true rfl)) ?_
  refine w_pr (k := 13) (s := 11) rfl rfl (by first | assumption | rfl) ?_
  refine wp_aload (k := 14) rfl rfl ?_
  refine w_ic (k := 15) (x := nI 8) rfl (oi_nI 8) ?_
  refine k_newa (k := 16) (m := 37) rfl (Nat.le_of_ble_eq_true rfl) rfl rfl (by first | exact hI _ (by decide) | (rw [am_uR (by decide)]; exact hI _ (by decide))) (by first | rfl | exact hL _ (by decide)) rfl (Nat.le_of_ble_eq_true rfl) (z_ok (m := 33) (Nat.le_of_ble_eq_true rfl)) ?_
  refine w_pr (k := 17) (s := 12) rfl rfl (by first | assumption | rfl) ?_
  refine wp_aload (k := 18) rfl rfl ?_
  refine w_ic (k := 19) (x := nI 8) rfl (oi_nI 8) ?_
  refine k_newa (k := 20) (m := 38) rfl (Nat.le_of_ble_eq_true rfl) rfl rfl (by first | exact hI _ (by decide) | (rw [am_uR (by decide)]; exact hI _ (by decide))) (by first | rfl | exact hL _ (by decide)) rfl (Nat.le_of_ble_eq_true rfl) (z_ok (m := 34) (Nat.le_of_ble_eq_true rfl)) ?_
  refine w_pr (k := 21) (s := 13) rfl rfl (by first | assumption | rfl) ?_
  refine wp_aload (k := 22) rfl rfl ?_
  refine w_ic (k := 23) (x := nI 8) rfl (oi_nI 8) ?_
  refine k_newa (k := 24) (m := 39) rfl (Nat.le_of_ble_eq_true rfl) rfl rfl (by first | exact hI _ (by decide) | (rw [am_uR (by decide)]; exact hI _ (by decide))) (by first | rfl | exact hL _ (by decide)) rfl (Nat.le_of_ble_eq_true rfl) (z_ok (m := 35) (Nat.le_of_ble_eq_true rfl)) ?_
  refine w_pr (k := 25) (s := 14) rfl rfl (by first | assumption | rfl) ?_
  refine k_rv (k := 26) (m := 40) rfl rfl (z_eq (m := 36) rfl) rfl ?_
  refine ⟨rfl, ?_⟩
  refine w_aast (k := 17) rfl rfl (by first | assumption | rfl) (by first | assumption | rfl) (by omega) ?_
  refine w_incN (k := 18) (m := 1) rfl (oi_nI 1) rfl ?_
  refine w_ls (ls2 := [some _, some _]) rfl ?_
  refine w_goto (k := 19) (t' := 8) rfl rfl ?_
  refine wp_iload (k := 8) rfl rfl ?_
  refine w_ic (k := 9) (x := nI 8) rfl (oi_nI 8) ?_
  refine w_n_ge (k := 10) (t' := 20) rfl rfl (by omega) (fun zq => absurd zq (by omega)) (fun zq => ?_)
  refine wp_aload (k := 11) rfl rfl ?_
  refine w_gr (k := 12) (s := 0) rfl rfl (by first | assumption | rfl) (by first | assumption | rfl) ?_
  refine wp_iload (k := 13) rfl rfl ?_
  refine k_new (k := 14) (m := 40) rfl rfl rfl (by first | exact hI _ (by decide) | (rw [am_uR (by decide)]; exact hI _ (by decide))) (by first | rfl | exact hL _ (by decide)) rfl (Nat.le_of_ble_eq_true rfl) (z_ok (m := 36) (Nat.le_of_ble_eq_true rfl)) ?_
  refine wp_dup (k := 15) rfl rfl ?_
  refine w_Iv (k := 16) [] rfl rfl rfl (Nat.le_of_ble_eq_true rfl) (by first | assumption | rfl) (Or.inr ⟨(Nat.le_of_ble_eq_true rfl), z_ok (m := 37) (Nat.le_of_ble_eq_true rfl)⟩) ?_
  refine am_enter (ls := [some _]) (cs := am_c1) rfl rfl (Nat.le_of_ble_eq_true rfl) rfl ?_
  refine wp_aload (k := 0) rfl rfl ?_
  refine wp_objInit (k := 1) rfl (Nat.le_of_ble_eq_true rfl) ?_
  refine wp_aload (k := 2) rfl rfl ?_
  refine w_ic (k := 3) (x := nI 16) rfl (oi_nI 16) ?_
  refine k_newa (k := 4) (m := 41) rfl (Nat.le_of_ble_eq_true rfl) rfl rfl (by first | exact hI _ (by decide) | (rw [am_uR (by decide)]; exact hI _ (by decide))) (by first | rfl | exact hL _ (by decide)) rfl (Nat.le_of_ble_eq_true rfl) (z_ok (m := 37) (Nat.le_of_ble_eq_true rfl)) ?_
  refine w_pr (k := 5) (s := 8) rfl rfl (by first | assumption | rfl) ?_
  refine wp_aload (k := 6) rfl rfl ?_
  refine w_ic (k := 7) (x := nI 16) rfl (oi_nI 16) ?_
  refine k_newa (k := 8) (m := 42) rfl (Nat.le_of_ble_eq_true rfl) rfl rfl (by first | exact hI _ (by decide) | (rw [am_uR (by decide)]; exact hI _ (by decide))) (by first | rfl | exact hL _ (by decide)) rfl (Nat.le_of_ble_eq_true rfl) (z_ok (m := 38) (Nat.le_of_ble_eq_true rfl)) ?_
  refine w_pr (k := 9) (s := 9) rfl rfl (by first | assumption | rfl) ?_
  refine wp_aload (k := 10) rfl rfl ?_
  refine w_ic (k := 11) (x := nI 8) rfl (oi_nI 8) ?_
  refine k_newa (k := 12) (m := 43) rfl (Nat.le_of_ble_eq_true rfl) rfl rfl (by first | exact hI _ (by decide) | (rw [am_uR (by decide)]; exact hI _ (by decide))) (by first | rfl | exact hL _ (by decide)) rfl (Nat.le_of_ble_eq_true rfl) (z_ok (m := 39) (Nat.le_of_ble_eq_true rfl)) ?_
  refine w_pr (k := 13) (s := 11) rfl rfl (by first | assumption | rfl) ?_
  refine wp_aload (k := 14) rfl rfl ?_
  refine w_ic (k := 15) (x := nI 8) rfl (oi_nI 8) ?_
  refine k_newa (k := 16) (m := 44) rfl (Nat.le_of_ble_eq_true rfl) rfl rfl (by first | exact hI _ (by decide) | (rw [am_uR (by decide)]; exact hI _ (by decide))) (by first | rfl | exact hL _ (by decide)) rfl (Nat.le_of_ble_eq_true rfl) (z_ok (m := 40) (Nat.le_of_ble_eq_true rfl)) ?_
  refine w_pr (k := 17) (s := 12) rfl rfl (by first | assumption | rfl) ?_
  refine wp_aload (k := 18) rfl rfl ?_
  refine w_ic (k := 19) (x := nI 8) rfl (oi_nI 8) ?_
  refine k_newa (k := 20) (m := 45) rfl (Nat.le_of_ble_eq_true rfl) rfl rfl (by first | exact hI _ (by decide) | (rw [am_uR (by decide)]; exact hI _ (by decide))) (by first | rfl | exact hL _ (by decide)) rfl (Nat.le_of_ble_eq_true rfl) (z_ok (m := 41) (Nat.le_of_ble_eq_true rfl)) ?_
  refine w_pr (k := 21) (s := 13) rfl rfl (by first | assumption | rfl) ?_
  refine wp_aload (k := 22) rfl rfl ?_
  refine w_ic (k := 23) (x := nI 8) rfl (oi_nI 8) ?_
  refine k_newa (k := 24) (m := 46) rfl (Nat.le_of_ble_eq_true rfl) rfl rfl (by first | exact hI _ (by decide) | (rw [am_uR (by decide)]; exact hI _ (by decide))) (by first | rfl | exact hL _ (by decide)) rfl (Nat.le_of_ble_eq_true rfl) (z_ok (m := 42) (Nat.le_of_ble_eq_true rfl)) ?_
  refine w_pr (k := 25) (s := 14) rfl rfl (by first | assumption | rfl) ?_
  refine k_rv (k := 26) (m := 47) rfl rfl (z_eq (m := 43) rfl) rfl ?_
  refine ⟨rfl, ?_⟩
  refine w_aast (k := 17) rfl rfl (by first | assumption | rfl) (by first | assumption | rfl) (by omega) ?_
  refine w_incN (k := 18) (m := 1) rfl (oi_nI 1) rfl ?_
  refine w_ls (ls2 := [some _, some _]) rfl ?_
  refine w_goto (k := 19) (t' := 8) rfl rfl ?_
  refine wp_iload (k := 8) rfl rfl ?_
  refine w_ic (k := 9) (x := nI 8) rfl (oi_nI 8) ?_
  refine w_n_ge (k := 10) (t' := 20) rfl rfl (by omega) (fun zq => absurd zq (by omega)) (fun zq => ?_)
  refine wp_aload (k := 11) rfl rfl ?_
  refine w_gr (k := 12) (s := 0) rfl rfl (by first | assumption | rfl) (by first | assumption | rfl) ?_
  refine wp_iload (k := 13) rfl rfl ?_
  refine k_new (k := 14) (m := 47) rfl rfl rfl (by first | exact hI _ (by decide) | (rw [am_uR (by decide)]; exact hI _ (by decide))) (by first | rfl | exact hL _ (by decide)) rfl (Nat.le_of_ble_eq_true rfl) (z_ok (m := 43) (Nat.le_of_ble_eq_true rfl)) ?_
  refine wp_dup (k := 15) rfl rfl ?_
  refine w_Iv (k := 16) [] rfl rfl rfl (Nat.le_of_ble_eq_true rfl) (by first | assumption | rfl) (Or.inr ⟨(Nat.le_of_ble_eq_true rfl), z_ok (m := 44) (Nat.le_of_ble_eq_true rfl)⟩) ?_
  refine am_enter (ls := [some _]) (cs := am_c1) rfl rfl (Nat.le_of_ble_eq_true rfl) rfl ?_
  refine wp_aload (k := 0) rfl rfl ?_
  refine wp_objInit (k := 1) rfl (Nat.le_of_ble_eq_true rfl) ?_
  refine wp_aload (k := 2) rfl rfl ?_
  refine w_ic (k := 3) (x := nI 16) rfl (oi_nI 16) ?_
  refine k_newa (k := 4) (m := 48) rfl (Nat.le_of_ble_eq_true rfl) rfl rfl (by first | exact hI _ (by decide) | (rw [am_uR (by decide)]; exact hI _ (by decide))) (by first | rfl | exact hL _ (by decide)) rfl (Nat.le_of_ble_eq_true rfl) (z_ok (m := 44) (Nat.le_of_ble_eq_true rfl)) ?_
  refine w_pr (k := 5) (s := 8) rfl rfl (by first | assumption | rfl) ?_
  refine wp_aload (k := 6) rfl rfl ?_
  refine w_ic (k := 7) (x := nI 16) rfl (oi_nI 16) ?_
  refine k_newa (k := 8) (m := 49) rfl (Nat.le_of_ble_eq_true rfl) rfl rfl (by first | exact hI _ (by decide) | (rw [am_uR (by decide)]; exact hI _ (by decide))) (by first | rfl | exact hL _ (by decide)) rfl (Nat.le_of_ble_eq_true rfl) (z_ok (m := 45) (Nat.le_of_ble_eq_true rfl)) ?_
  refine w_pr (k := 9) (s := 9) rfl rfl (by first | assumption | rfl) ?_
  refine wp_aload (k := 10) rfl rfl ?_
  refine w_ic (k := 11) (x := nI 8) rfl (oi_nI 8) ?_
  refine k_newa (k := 12) (m := 50) rfl (Nat.le_of_ble_eq_true rfl) rfl rfl (by first | exact hI _ (by decide) | (rw [am_uR (by decide)]; exact hI _ (by decide))) (by first | rfl | exact hL _ (by decide)) rfl (Nat.le_of_ble_eq_true rfl) (z_ok (m := 46) (Nat.le_of_ble_eq_true rfl)) ?_
  refine w_pr (k := 13) (s := 11) rfl rfl (by first | assumption | rfl) ?_
  refine wp_aload (k := 14) rfl rfl ?_
  refine w_ic (k := 15) (x := nI 8) rfl (oi_nI 8) ?_
  refine k_newa (k := 16) (m := 51) rfl (Nat.le_of_ble_eq_true rfl) rfl rfl (by first | exact hI _ (by decide) | (rw [am_uR (by decide)]; exact hI _ (by decide))) (by first | rfl | exact hL _ (by decide)) rfl (Nat.le_of_ble_eq_true rfl) (z_ok (m := 47) (Nat.le_of_ble_eq_true rfl)) ?_
  refine w_pr (k := 17) (s := 12) rfl rfl (by first | assumption | rfl) ?_
  refine wp_aload (k := 18) rfl rfl ?_
  refine w_ic (k := 19) (x := nI 8) rfl (oi_nI 8) ?_
  refine k_newa (k := 20) (m := 52) rfl (Nat.le_of_ble_eq_true rfl) rfl rfl (by first | exact hI _ (by decide) | (rw [am_uR (by decide)]; exact hI _ (by decide))) (by first | rfl | exact hL _ (by decide)) rfl (Nat.le_of_ble_eq_true rfl) (z_ok (m := 48) (Nat.le_of_ble_eq_true rfl)) ?_
  refine w_pr (k := 21) (s := 13) rfl rfl (by first | assumption | rfl) ?_
  refine wp_aload (k := 22) rfl rfl ?_
  refine w_ic (k := 23) (x := nI 8) rfl (oi_nI 8) ?_
  refine k_newa (k := 24) (m := 53) rfl (Nat.le_of_ble_eq_true rfl) rfl rfl (by first | exact hI _ (by decide) | (rw [am_uR (by decide)]; exact hI _ (by decide))) (by first | rfl | exact hL _ (by decide)) rfl (Nat.le_of_ble_eq_true rfl) (z_ok (m := 49) (Nat.le_of_ble_eq_true rfl)) ?_
  refine w_pr (k := 25) (s := 14) rfl rfl (by first | assumption | rfl) ?_
  refine k_rv (k := 26) (m := 54) rfl rfl (z_eq (m := 50) rfl) rfl ?_
  refine ⟨rfl, ?_⟩
  refine w_aast (k := 17) rfl rfl (by first | assumption | rfl) (by first | assumption | rfl) (by omega) ?_
  refine w_incN (k := 18) (m := 1) rfl (oi_nI 1) rfl ?_
  refine w_ls (ls2 := [some _, some _]) rfl ?_
  refine w_goto (k := 19) (t' := 8) rfl rfl ?_
  refine wp_iload (k := 8) rfl rfl ?_
  refine w_ic (k := 9) (x := nI 8) rfl (oi_nI 8) ?_
  refine w_n_ge (k := 10) (t' := 20) rfl rfl (by omega) (fun zq => absurd zq (by omega)) (fun zq => ?_)
  refine wp_aload (k := 11) rfl rfl ?_
  refine w_gr (k := 12) (s := 0) rfl rfl (by first | assumption | rfl) (by first | assumption | rfl) ?_
  refine wp_iload (k := 13) rfl rfl ?_
  refine k_new (k := 14) (m := 54) rfl rfl rfl (by first | exact hI _ (by decide) | (rw [am_uR (by decide)]; exact hI _ (by decide))) (by first | rfl | exact hL _ (by decide)) rfl (Nat.le_of_ble_eq_true rfl) (z_ok (m := 50) (Nat.le_of_ble_eq_true rfl)) ?_
  refine wp_dup (k := 15) rfl rfl ?_
  refine w_Iv (k := 16) [] rfl rfl rfl (Nat.le_of_ble_eq_true rfl) (by first | assumption | rfl) (Or.inr ⟨(Nat.le_of_ble_eq_true rfl), z_ok (m := 51) (Nat.le_of_ble_eq_true rfl)⟩) ?_
  refine am_enter (ls := [some _]) (cs := am_c1) rfl rfl (Nat.le_of_ble_eq_true rfl) rfl ?_
  refine wp_aload (k := 0) rfl rfl ?_
  refine wp_objInit (k := 1) rfl (Nat.le_of_ble_eq_true rfl) ?_
  refine wp_aload (k := 2) rfl rfl ?_
  refine w_ic (k := 3) (x := nI 16) rfl (oi_nI 16) ?_
  refine k_newa (k := 4) (m := 55) rfl (Nat.le_of_ble_eq_true rfl) rfl rfl (by first | exact hI _ (by decide) | (rw [am_uR (by decide)]; exact hI _ (by decide))) (by first | rfl | exact hL _ (by decide)) rfl (Nat.le_of_ble_eq_true rfl) (z_ok (m := 51) (Nat.le_of_ble_eq_true rfl)) ?_
  refine w_pr (k := 5) (s := 8) rfl rfl (by first | assumption | rfl) ?_
  refine wp_aload (k := 6) rfl rfl ?_
  refine w_ic (k := 7) (x := nI 16) rfl (oi_nI 16) ?_
  refine k_newa (k := 8) (m := 56) rfl (Nat.le_of_ble_eq_true rfl) rfl rfl (by first | exact hI _ (by decide) | (rw [am_uR (by decide)]; exact hI _ (by decide))) (by first | rfl | exact hL _ (by decide)) rfl (Nat.le_of_ble_eq_true rfl) (z_ok (m := 52) (Nat.le_of_ble_eq_true rfl)) ?_
  refine w_pr (k := 9) (s := 9) rfl rfl (by first | assumption | rfl) ?_
  refine wp_aload (k := 10) rfl rfl ?_
  refine w_ic (k := 11) (x := nI 8) rfl (oi_nI 8) ?_
  refine k_newa (k := 12) (m := 57) rfl (Nat.le_of_ble_eq_true rfl) rfl rfl (by first | exact hI _ (by decide) | (rw [am_uR (by decide)]; exact hI _ (by decide))) (by first | rfl | exact hL _ (by decide)) rfl (Nat.le_of_ble_eq_true rfl) (z_ok (m := 53) (Nat.le_of_ble_eq_true rfl)) ?_
  refine w_pr (k := 13) (s := 11) rfl rfl (by first | assumption | rfl) ?_
  refine wp_aload (k := 14) rfl rfl ?_
  refine w_ic (k := 15) (x := nI 8) rfl (oi_nI 8) ?_
  refine k_newa (k := 16) (m := 58) rfl (Nat.le_of_ble_eq_true rfl) rfl rfl (by first | exact hI _ (by decide) | (rw [am_uR (by decide)]; exact hI _ (by decide))) (by first | rfl | exact hL _ (by decide)) rfl (Nat.le_of_ble_eq_true rfl) (z_ok (m := 54) (Nat.le_of_ble_eq_true rfl)) ?_
  refine w_pr (k := 17) (s := 12) rfl rfl (by first | assumption | rfl) ?_
  refine wp_aload (k := 18) rfl rfl ?_
  refine w_ic (k := 19) (x := nI 8) rfl (oi_nI 8) ?_
  refine k_newa (k := 20) (m := 59) rfl (Nat.le_of_ble_eq_true rfl) rfl rfl (by first | exact hI _ (by decide) | (rw [am_uR (by decide)]; exact hI _ (by decide))) (by first | rfl | exact hL _ (by decide)) rfl (Nat.le_of_ble_eq_true rfl) (z_ok (m := 55) (Nat.le_of_ble_eq_true rfl)) ?_
  refine w_pr (k := 21) (s := 13) rfl rfl (by first | assumption | rfl) ?_
  refine wp_aload (k := 22) rfl rfl ?_
  refine w_ic (k := 23) (x := nI 8) rfl (oi_nI 8) ?_
  refine k_newa (k := 24) (m := 60) rfl (Nat.le_of_ble_eq_true rfl) rfl rfl (by first | exact hI _ (by decide) | (rw [am_uR (by decide)]; exact hI _ (by decide))) (by first | rfl | exact hL _ (by decide)) rfl (Nat.le_of_ble_eq_true rfl) (z_ok (m := 56) (Nat.le_of_ble_eq_true rfl)) ?_
  refine w_pr (k := 25) (s := 14) rfl rfl (by first | assumption | rfl) ?_
  refine k_rv (k := 26) (m := 61) rfl rfl (z_eq (m := 57) rfl) rfl ?_
  refine ⟨rfl, ?_⟩
  refine w_aast (k := 17) rfl rfl (by first | assumption | rfl) (by first | assumption | rfl) (by omega) ?_
  refine w_incN (k := 18) (m := 1) rfl (oi_nI 1) rfl ?_
  refine w_ls (ls2 := [some _, some _]) rfl ?_
  refine w_goto (k := 19) (t' := 8) rfl rfl ?_
  refine wp_iload (k := 8) rfl rfl ?_
  refine w_ic (k := 9) (x := nI 8) rfl (oi_nI 8) ?_
  refine w_n_ge (k := 10) (t' := 20) rfl rfl (by omega) (fun zq => absurd zq (by omega)) (fun zq => ?_)
  refine wp_aload (k := 11) rfl rfl ?_
  refine w_gr (k := 12) (s := 0) rfl rfl (by first | assumption | rfl) (by first | assumption | rfl) ?_
  refine wp_iload (k := 13) rfl rfl ?_
  refine k_new (k := 14) (m := 61) rfl rfl rfl (by first | exact hI _ (by decide) | (rw [am_uR (by decide)]; exact hI _ (by decide))) (by first | rfl | exact hL _ (by decide)) rfl (Nat.le_of_ble_eq_true rfl) (z_ok (m := 57) (Nat.le_of_ble_eq_true rfl)) ?_
  refine wp_dup (k := 15) rfl rfl ?_
  refine w_Iv (k := 16) [] rfl rfl rfl (Nat.le_of_ble_eq_true rfl) (by first | assumption | rfl) (Or.inr ⟨(Nat.le_of_ble_eq_true rfl), z_ok (m := 58) (Nat.le_of_ble_eq_true rfl)⟩) ?_
  refine am_enter (ls := [some _]) (cs := am_c1) rfl rfl (Nat.le_of_ble_eq_true rfl) rfl ?_
  refine wp_aload (k := 0) rfl rfl ?_
  refine wp_objInit (k := 1) rfl (Nat.le_of_ble_eq_true rfl) ?_
  refine wp_aload (k := 2) rfl rfl ?_
  refine w_ic (k := 3) (x := nI 16) rfl (oi_nI 16) ?_
  refine k_newa (k := 4) (m := 62) rfl (Nat.le_of_ble_eq_true rfl) rfl rfl (by first | exact hI _ (by decide) | (rw [am_uR (by decide)]; exact hI _ (by decide))) (by first | rfl | exact hL _ (by decide)) rfl (Nat.le_of_ble_eq_true rfl) (z_ok (m := 58) (Nat.le_of_ble_eq_true rfl)) ?_
  refine w_pr (k := 5) (s := 8) rfl rfl (by first | assumption | rfl) ?_
  refine wp_aload (k := 6) rfl rfl ?_
  refine w_ic (k := 7) (x := nI 16) rfl (oi_nI 16) ?_
  refine k_newa (k := 8) (m := 63) rfl (Nat.le_of_ble_eq_true rfl) rfl rfl (by first | exact hI _ (by decide) | (rw [am_uR (by decide)]; exact hI _ (by decide))) (by first | rfl | exact hL _ (by decide)) rfl (Nat.le_of_ble_eq_true rfl) (z_ok (m := 59) (Nat.le_of_ble_eq_true rfl)) ?_
  refine w_pr (k := 9) (s := 9) rfl rfl (by first | assumption | rfl) ?_
  refine wp_aload (k := 10) rfl rfl ?_
  refine w_ic (k := 11) (x := nI 8) rfl (oi_nI 8) ?_
  refine k_newa (k := 12) (m := 64) rfl (Nat.le_of_ble_eq_true rfl) rfl rfl (by first | exact hI _ (by decide) | (rw [am_uR (by decide)]; exact hI _ (by decide))) (by first | rfl | exact hL _ (by decide)) rfl (Nat.le_of_ble_eq_true rfl) (z_ok (m := 60) (Nat.le_of_ble_eq_true rfl)) ?_
  refine w_pr (k := 13) (s := 11) rfl rfl (by first | assumption | rfl) ?_
  refine wp_aload (k := 14) rfl rfl ?_
  refine w_ic (k := 15) (x := nI 8) rfl (oi_nI 8) ?_
  refine k_newa (k := 16) (m := 65) rfl (Nat.le_of_ble_eq_true rfl) rfl rfl (by first | exact hI _ (by decide) | (rw [am_uR (by decide)]; exact hI _ (by decide))) (by first | rfl | exact hL _ (by decide)) rfl (Nat.le_of_ble_eq_true rfl) (z_ok (m := 61) (Nat.le_of_ble_eq_true rfl)) ?_
  refine w_pr (k := 17) (s := 12) rfl rfl (by first | assumption | rfl) ?_
  refine wp_aload (k := 18) rfl rfl ?_
  refine w_ic (k := 19) (x := nI 8) rfl (oi_nI 8) ?_
  refine k_newa (k := 20) (m := 66) rfl (Nat.le_of_ble_eq_true rfl) rfl rfl (by first | exact hI _ (by decide) | (rw [am_uR (by decide)]; exact hI _ (by decide))) (by first | rfl | exact hL _ (by decide)) rfl (Nat.le_of_ble_eq_true rfl) (z_ok (m := 62) (Nat.le_of_ble_eq_true rfl)) ?_
  refine w_pr (k := 21) (s := 13) rfl rfl (by first | assumption | rfl) ?_
  refine wp_aload (k := 22) rfl rfl ?_
  refine w_ic (k := 23) (x := nI 8) rfl (oi_nI 8) ?_
  refine k_newa (k := 24) (m := 67) rfl (Nat.le_of_ble_eq_true rfl) rfl rfl (by first | exact hI _ (by decide) | (rw [am_uR (by decide)]; exact hI _ (by decide))) (by first | rfl | exact hL _ (by decide)) rfl (Nat.le_of_ble_eq_true rfl) (z_ok (m := 63) (Nat.le_of_ble_eq_true rfl)) ?_
  refine w_pr (k := 25) (s := 14) rfl rfl (by first | assumption | rfl) ?_
  refine k_rv (k := 26) (m := 68) rfl rfl (z_eq (m := 64) rfl) rfl ?_
  refine ⟨rfl, ?_⟩
  refine w_aast (k := 17) rfl rfl (by first | assumption | rfl) (by first | assumption | rfl) (by omega) ?_
  refine w_incN (k := 18) (m := 1) rfl (oi_nI 1) rfl ?_
  refine w_ls (ls2 := [some _, some _]) rfl ?_
  refine w_goto (k := 19) (t' := 8) rfl rfl ?_
  refine wp_iload (k := 8) rfl rfl ?_
  refine w_ic (k := 9) (x := nI 8) rfl (oi_nI 8) ?_
  refine w_n_ge (k := 10) (t' := 20) rfl rfl (by omega) (fun zq => absurd zq (by omega)) (fun zq => ?_)
  refine wp_aload (k := 11) rfl rfl ?_
  refine w_gr (k := 12) (s := 0) rfl rfl (by first | assumption | rfl) (by first | assumption | rfl) ?_
  refine wp_iload (k := 13) rfl rfl ?_
  refine k_new (k := 14) (m := 68) rfl rfl rfl (by first | exact hI _ (by decide) | (rw [am_uR (by decide)]; exact hI _ (by decide))) (by first | rfl | exact hL _ (by decide)) rfl (Nat.le_of_ble_eq_true rfl) (z_ok (m := 64) (Nat.le_of_ble_eq_true rfl)) ?_
  refine wp_dup (k := 15) rfl rfl ?_
  refine w_Iv (k := 16) [] rfl rfl rfl (Nat.le_of_ble_eq_true rfl) (by first | assumption | rfl) (Or.inr ⟨(Nat.le_of_ble_eq_true rfl), z_ok (m := 65) (Nat.le_of_ble_eq_true rfl)⟩) ?_
  refine am_enter (ls := [some _]) (cs := am_c1) rfl rfl (Nat.le_of_ble_eq_true rfl) rfl ?_
  refine wp_aload (k := 0) rfl rfl ?_
  refine wp_objInit (k := 1) rfl (Nat.le_of_ble_eq_true rfl) ?_
  refine wp_aload (k := 2) rfl rfl ?_
  refine w_ic (k := 3) (x := nI 16) rfl (oi_nI 16) ?_
  refine k_newa (k := 4) (m := 69) rfl (Nat.le_of_ble_eq_true rfl) rfl rfl (by first | exact hI _ (by decide) | (rw [am_uR (by decide)]; exact hI _ (by decide))) (by first | rfl | exact hL _ (by decide)) rfl (Nat.le_of_ble_eq_true rfl) (z_ok (m := 65) (Nat.le_of_ble_eq_true rfl)) ?_
  refine w_pr (k := 5) (s := 8) rfl rfl (by first | assumption | rfl) ?_
  refine wp_aload (k := 6) rfl rfl ?_
  refine w_ic (k := 7) (x := nI 16) rfl (oi_nI 16) ?_
  refine k_newa (k := 8) (m := 70) rfl (Nat.le_of_ble_eq_true rfl) rfl rfl (by first | exact hI _ (by decide) | (rw [am_uR (by decide)]; exact hI _ (by decide))) (by first | rfl | exact hL _ (by decide)) rfl (Nat.le_of_ble_eq_true rfl) (z_ok (m := 66) (Nat.le_of_ble_eq_true rfl)) ?_
  refine w_pr (k := 9) (s := 9) rfl rfl (by first | assumption | rfl) ?_
  refine wp_aload (k := 10) rfl rfl ?_
  refine w_ic (k := 11) (x := nI 8) rfl (oi_nI 8) ?_
  refine k_newa (k := 12) (m := 71) rfl (Nat.le_of_ble_eq_true rfl) rfl rfl (by first | exact hI _ (by decide) | (rw [am_uR (by decide)]; exact hI _ (by decide))) (by first | rfl | exact hL _ (by decide)) rfl (Nat.le_of_ble_eq_true rfl) (z_ok (m := 67) (Nat.le_of_ble_eq_true rfl)) ?_
  refine w_pr (k := 13) (s := 11) rfl rfl (by first | assumption | rfl) ?_
  refine wp_aload (k := 14) rfl rfl ?_
  refine w_ic (k := 15) (x := nI 8) rfl (oi_nI 8) ?_
  refine k_newa (k := 16) (m := 72) rfl (Nat.le_of_ble_eq_true rfl) rfl rfl (by first | exact hI _ (by decide) | (rw [am_uR (by decide)]; exact hI _ (by decide))) (by first | rfl | exact hL _ (by decide)) rfl (Nat.le_of_ble_eq_true rfl) (z_ok (m := 68) (Nat.le_of_ble_eq_true rfl)) ?_
  refine w_pr (k := 17) (s := 12) rfl rfl (by first | assumption | rfl) ?_
  refine wp_aload (k := 18) rfl rfl ?_
  refine w_ic (k := 19) (x := nI 8) rfl (oi_nI 8) ?_
  refine k_newa (k := 20) (m := 73) rfl (Nat.le_of_ble_eq_true rfl) rfl rfl (by first | exact hI _ (by decide) | (rw [am_uR (by decide)]; exact hI _ (by decide))) (by first | rfl | exact hL _ (by decide)) rfl (Nat.le_of_ble_eq_true rfl) (z_ok (m := 69) (Nat.le_of_ble_eq_true rfl)) ?_
  refine w_pr (k := 21) (s := 13) rfl rfl (by first | assumption | rfl) ?_
  refine wp_aload (k := 22) rfl rfl ?_
  refine w_ic (k := 23) (x := nI 8) rfl (oi_nI 8) ?_
  refine k_newa (k := 24) (m := 74) rfl (Nat.le_of_ble_eq_true rfl) rfl rfl (by first | exact hI _ (by decide) | (rw [am_uR (by decide)]; exact hI _ (by decide))) (by first | rfl | exact hL _ (by decide)) rfl (Nat.le_of_ble_eq_true rfl) (z_ok (m := 70) (Nat.le_of_ble_eq_true rfl)) ?_
  refine w_pr (k := 25) (s := 14) rfl rfl (by first | assumption | rfl) ?_
  refine k_rv (k := 26) (m := 75) rfl rfl (z_eq (m := 71) rfl) rfl ?_
  refine ⟨rfl, ?_⟩
  refine w_aast (k := 17) rfl rfl (by first | assumption | rfl) (by first | assumption | rfl) (by omega) ?_
  refine w_incN (k := 18) (m := 1) rfl (oi_nI 1) rfl ?_
  refine w_ls (ls2 := [some _, some _]) rfl ?_
  refine w_goto (k := 19) (t' := 8) rfl rfl ?_
  refine wp_iload (k := 8) rfl rfl ?_
  refine w_ic (k := 9) (x := nI 8) rfl (oi_nI 8) ?_
  refine w_n_ge (k := 10) (t' := 20) rfl rfl (by omega) (fun zq => absurd zq (by omega)) (fun zq => ?_)
  refine wp_aload (k := 11) rfl rfl ?_
  refine w_gr (k := 12) (s := 0) rfl rfl (by first | assumption | rfl) (by first | assumption | rfl) ?_
  refine wp_iload (k := 13) rfl rfl ?_
  refine k_new (k := 14) (m := 75) rfl rfl rfl (by first | exact hI _ (by decide) | (rw [am_uR (by decide)]; exact hI _ (by decide))) (by first | rfl | exact hL _ (by decide)) rfl (Nat.le_of_ble_eq_true rfl) (z_ok (m := 71) (Nat.le_of_ble_eq_true rfl)) ?_
  refine wp_dup (k := 15) rfl rfl ?_
  refine w_Iv (k := 16) [] rfl rfl rfl (Nat.le_of_ble_eq_true rfl) (by first | assumption | rfl) (Or.inr ⟨(Nat.le_of_ble_eq_true rfl), z_ok (m := 72) (Nat.le_of_ble_eq_true rfl)⟩) ?_
  refine am_enter (ls := [some _]) (cs := am_c1) rfl rfl (Nat.le_of_ble_eq_true rfl) rfl ?_
  refine wp_aload (k := 0) rfl rfl ?_
  refine wp_objInit (k := 1) rfl (Nat.le_of_ble_eq_true rfl) ?_
  refine wp_aload (k := 2) rfl rfl ?_
  refine w_ic (k := 3) (x := nI 16) rfl (oi_nI 16) ?_
  refine k_newa (k := 4) (m := 76) rfl (Nat.le_of_ble_eq_true rfl) rfl rfl (by first | exact hI _ (by decide) | (rw [am_uR (by decide)]; exact hI _ (by decide))) (by first | rfl | exact hL _ (by decide)) rfl (Nat.le_of_ble_eq_true rfl) (z_ok (m := 72) (Nat.le_of_ble_eq_true rfl)) ?_
  refine w_pr (k := 5) (s := 8) rfl rfl (by first | assumption | rfl) ?_
  refine wp_aload (k := 6) rfl rfl ?_
  refine w_ic (k := 7) (x := nI 16) rfl (oi_nI 16) ?_
  refine k_newa (k := 8) (m := 77) rfl (Nat.le_of_ble_eq_true rfl) rfl rfl (by first | exact hI _ (by decide) | (rw [am_uR (by decide)]; exact hI _ (by decide))) (by first | rfl | exact hL _ (by decide)) rfl (Nat.le_of_ble_eq_true rfl) (z_ok (m := 73) (Nat.le_of_ble_eq_true rfl)) ?_
  refine w_pr (k := 9) (s := 9) rfl rfl (by first | assumption | rfl) ?_
  refine wp_aload (k := 10) rfl rfl ?_
  refine w_ic (k := 11) (x := nI 8) rfl (oi_nI 8) ?_
  refine k_newa (k := 12) (m := 78) rfl (Nat.le_of_ble_eq_true rfl) rfl rfl (by first | exact hI _ (by decide) | (rw [am_uR (by decide)]; exact hI _ (by decide))) (by first | rfl | exact hL _ (by decide)) rfl (Nat.le_of_ble_eq_true rfl) (z_ok (m := 74) (Nat.le_of_ble_eq_true rfl)) ?_
  refine w_pr (k := 13) (s := 11) rfl rfl (by first | assumption | rfl) ?_
  refine wp_aload (k := 14) rfl rfl ?_
  refine w_ic (k := 15) (x := nI 8) rfl (oi_nI 8) ?_
  refine k_newa (k := 16) (m := 79) rfl (Nat.le_of_ble_eq_true rfl) rfl rfl (by first | exact hI _ (by decide) | (rw [am_uR (by decide)]; exact hI _ (by decide))) (by first | rfl | exact hL _ (by decide)) rfl (Nat.le_of_ble_eq_true rfl) (z_ok (m := 75) (Nat.le_of_ble_eq_true rfl)) ?_
  refine w_pr (k := 17) (s := 12) rfl rfl (by first | assumption | rfl) ?_
  refine wp_aload (k := 18) rfl rfl ?_
  refine w_ic (k := 19) (x := nI 8) rfl (oi_nI 8) ?_
  refine k_newa (k := 20) (m := 80) rfl (Nat.le_of_ble_eq_true rfl) rfl rfl (by first | exact hI _ (by decide) | (rw [am_uR (by decide)]; exact hI _ (by decide))) (by first | rfl | exact hL _ (by decide)) rfl (Nat.le_of_ble_eq_true rfl) (z_ok (m := 76) (Nat.le_of_ble_eq_true rfl)) ?_
  refine w_pr (k := 21) (s := 13) rfl rfl (by first | assumption | rfl) ?_
  refine wp_aload (k := 22) rfl rfl ?_
  refine w_ic (k := 23) (x := nI 8) rfl (oi_nI 8) ?_
  refine k_newa (k := 24) (m := 81) rfl (Nat.le_of_ble_eq_true rfl) rfl rfl (by first | exact hI _ (by decide) | (rw [am_uR (by decide)]; exact hI _ (by decide))) (by first | rfl | exact hL _ (by decide)) rfl (Nat.le_of_ble_eq_true rfl) (z_ok (m := 77) (Nat.le_of_ble_eq_true rfl)) ?_
  refine w_pr (k := 25) (s := 14) rfl rfl (by first | assumption | rfl) ?_
  refine k_rv (k := 26) (m := 82) rfl rfl (z_eq (m := 78) rfl) rfl ?_
  refine ⟨rfl, ?_⟩
  refine w_aast (k := 17) rfl rfl (by first | assumption | rfl) (by first | assumption | rfl) (by omega) ?_
  refine w_incN (k := 18) (m := 1) rfl (oi_nI 1) rfl ?_
  refine w_ls (ls2 := [some _, some _]) rfl ?_
  refine w_goto (k := 19) (t' := 8) rfl rfl ?_
  refine wp_iload (k := 8) rfl rfl ?_
  refine w_ic (k := 9) (x := nI 8) rfl (oi_nI 8) ?_
  refine w_n_ge (k := 10) (t' := 20) rfl rfl (by omega) (fun zq => ?_) (fun zq => absurd zq (by omega))
  refine k_rv (k := 20) (m := 82) rfl rfl (z_eq (m := 78) rfl) rfl ?_
  refine ⟨rfl, ?_⟩
  refine w_pr (k := 36) (s := 5) rfl rfl (by first | assumption | rfl) ?_
  refine wp_aload (k := 37) rfl rfl ?_
  refine k_new (k := 38) (m := 82) rfl rfl rfl (by first | exact hI _ (by decide) | (rw [am_uR (by decide)]; exact hI _ (by decide))) (by first | rfl | exact hL _ (by decide)) rfl (Nat.le_of_ble_eq_true rfl) (z_ok (m := 78) (Nat.le_of_ble_eq_true rfl)) ?_
  refine wp_dup (k := 39) rfl rfl ?_
  refine w_Iv (k := 40) [] rfl rfl rfl (Nat.le_of_ble_eq_true rfl) (by first | assumption | rfl) (Or.inr ⟨(Nat.le_of_ble_eq_true rfl), z_ok (m := 79) (Nat.le_of_ble_eq_true rfl)⟩) ?_
  refine am_enter (ls := [some _]) (cs := am_c72) rfl rfl (Nat.le_of_ble_eq_true rfl) rfl ?_
  refine wp_aload (k := 0) rfl rfl ?_
  refine wp_objInit (k := 1) rfl (Nat.le_of_ble_eq_true rfl) ?_
  refine wp_aload (k := 2) rfl rfl ?_
  refine k_new (k := 3) (m := 83) rfl rfl rfl (by first | exact hI _ (by decide) | (rw [am_uR (by decide)]; exact hI _ (by decide))) (by first | rfl | exact hL _ (by decide)) rfl (Nat.le_of_ble_eq_true rfl) (z_ok (m := 79) (Nat.le_of_ble_eq_true rfl)) ?_
  refine wp_dup (k := 4) rfl rfl ?_
  refine w_ic (k := 5) (x := nI 436) rfl (oi_nI 436) ?_
  refine w_Iv (k := 6) [_] rfl rfl rfl (Nat.le_of_ble_eq_true rfl) (by first | assumption | rfl) (Or.inr ⟨(Nat.le_of_ble_eq_true rfl), z_ok (m := 80) (Nat.le_of_ble_eq_true rfl)⟩) ?_
  refine am_enter (ls := [some _, some _]) (cs := am_c267) rfl rfl (Nat.le_of_ble_eq_true rfl) rfl ?_
  refine wp_aload (k := 0) rfl rfl ?_
  refine wp_objInit (k := 1) rfl (Nat.le_of_ble_eq_true rfl) ?_
  refine wp_aload (k := 2) rfl rfl ?_
  refine w_ic (k := 3) (x := nI 0) rfl (oi_nI 0) ?_
  refine wp_iload (k := 4) rfl rfl ?_
  refine wp_mm0 (k := 5) rfl (Nat.le_of_ble_eq_true rfl) ?_
  rw [if_pos (show nI 0 < nI 436 by decide)]
  refine k_newa (k := 6) (m := 84) rfl (Nat.le_of_ble_eq_true rfl) rfl rfl (by first | exact hI _ (by decide) | (rw [am_uR (by decide)]; exact hI _ (by decide))) (by first | rfl | exact hL _ (by decide)) rfl (Nat.le_of_ble_eq_true rfl) (z_ok (m := 80) (Nat.le_of_ble_eq_true rfl)) ?_
  refine w_pr (k := 7) (s := 0) rfl rfl (by first | assumption | rfl) ?_
  refine k_rv (k := 8) (m := 85) rfl rfl (z_eq (m := 81) rfl) rfl ?_
  refine ⟨rfl, ?_⟩
  refine w_pr (k := 7) (s := 0) rfl rfl (by first | assumption | rfl) ?_
  refine wp_aload (k := 8) rfl rfl ?_
  refine k_new (k := 9) (m := 85) rfl rfl rfl (by first | exact hI _ (by decide) | (rw [am_uR (by decide)]; exact hI _ (by decide))) (by first | rfl | exact hL _ (by decide)) rfl (Nat.le_of_ble_eq_true rfl) (z_ok (m := 81) (Nat.le_of_ble_eq_true rfl)) ?_
  refine wp_dup (k := 10) rfl rfl ?_
  refine wp_aload (k := 11) rfl rfl ?_
  refine w_gr (k := 12) (s := 0) rfl rfl (by first | assumption | rfl) (by first | assumption | rfl) ?_
  refine w_Iv (k := 13) [_] rfl rfl rfl (Nat.le_of_ble_eq_true rfl) (by first | assumption | rfl) (Or.inr ⟨(Nat.le_of_ble_eq_true rfl), z_ok (m := 82) (Nat.le_of_ble_eq_true rfl)⟩) ?_
  refine am_enter (ls := [some _, some _]) (cs := am_c34) rfl rfl (Nat.le_of_ble_eq_true rfl) rfl ?_
  refine wp_aload (k := 0) rfl rfl ?_
  refine wp_objInit (k := 1) rfl (Nat.le_of_ble_eq_true rfl) ?_
  refine wp_aload (k := 2) rfl rfl ?_
  refine w_ic (k := 3) (x := nI 104) rfl (oi_nI 104) ?_
  refine k_newa (k := 4) (m := 86) rfl (Nat.le_of_ble_eq_true rfl) rfl rfl (by first | exact hI _ (by decide) | (rw [am_uR (by decide)]; exact hI _ (by decide))) (by first | rfl | exact hL _ (by decide)) rfl (Nat.le_of_ble_eq_true rfl) (z_ok (m := 82) (Nat.le_of_ble_eq_true rfl)) ?_
  refine w_pr (k := 5) (s := 1) rfl rfl (by first | assumption | rfl) ?_
  refine wp_aload (k := 6) rfl rfl ?_
  refine w_ic (k := 7) (x := nI 104) rfl (oi_nI 104) ?_
  refine k_newa (k := 8) (m := 87) rfl (Nat.le_of_ble_eq_true rfl) rfl rfl (by first | exact hI _ (by decide) | (rw [am_uR (by decide)]; exact hI _ (by decide))) (by first | rfl | exact hL _ (by decide)) rfl (Nat.le_of_ble_eq_true rfl) (z_ok (m := 83) (Nat.le_of_ble_eq_true rfl)) ?_
  refine w_pr (k := 9) (s := 2) rfl rfl (by first | assumption | rfl) ?_
  refine wp_aload (k := 10) rfl rfl ?_
  refine w_ic (k := 11) (x := nI 104) rfl (oi_nI 104) ?_
  refine k_newa (k := 12) (m := 88) rfl (Nat.le_of_ble_eq_true rfl) rfl rfl (by first | exact hI _ (by decide) | (rw [am_uR (by decide)]; exact hI _ (by decide))) (by first | rfl | exact hL _ (by decide)) rfl (Nat.le_of_ble_eq_true rfl) (z_ok (m := 84) (Nat.le_of_ble_eq_true rfl)) ?_
  refine w_pr (k := 13) (s := 3) rfl rfl (by first | assumption | rfl) ?_
  refine wp_aload (k := 14) rfl rfl ?_
  refine w_ic (k := 15) (x := nI 104) rfl (oi_nI 104) ?_
  refine k_newa (k := 16) (m := 89) rfl (Nat.le_of_ble_eq_true rfl) rfl rfl (by first | exact hI _ (by decide) | (rw [am_uR (by decide)]; exact hI _ (by decide))) (by first | rfl | exact hL _ (by decide)) rfl (Nat.le_of_ble_eq_true rfl) (z_ok (m := 85) (Nat.le_of_ble_eq_true rfl)) ?_
  refine w_pr (k := 17) (s := 4) rfl rfl (by first | assumption | rfl) ?_
  refine wp_aload (k := 18) rfl rfl ?_
  refine wp_aload (k := 19) rfl rfl ?_
  refine w_pr (k := 20) (s := 0) rfl rfl (by first | assumption | rfl) ?_
  refine k_rv (k := 21) (m := 90) rfl rfl (z_eq (m := 86) rfl) rfl ?_
  refine ⟨rfl, ?_⟩
  refine w_pr (k := 14) (s := 1) rfl rfl (by first | assumption | rfl) ?_
  refine wp_aload (k := 15) rfl rfl ?_
  refine w_ic (k := 16) (x := nI 10) rfl (oi_nI 10) ?_
  refine k_newa (k := 17) (m := 90) rfl (Nat.le_of_ble_eq_true rfl) rfl rfl (by first | exact hI _ (by decide) | (rw [am_uR (by decide)]; exact hI _ (by decide))) (by first | rfl | exact hL _ (by decide)) rfl (Nat.le_of_ble_eq_true rfl) (z_ok (m := 86) (Nat.le_of_ble_eq_true rfl)) ?_
  refine w_pr (k := 18) (s := 2) rfl rfl (by first | assumption | rfl) ?_
  refine k_rv (k := 19) (m := 91) rfl rfl (z_eq (m := 87) rfl) rfl ?_
  refine ⟨rfl, ?_⟩
  refine w_pr (k := 41) (s := 6) rfl rfl (by first | assumption | rfl) ?_
  refine wp_aload (k := 42) rfl rfl ?_
  refine k_new (k := 43) (m := 91) rfl rfl rfl (by first | exact hI _ (by decide) | (rw [am_uR (by decide)]; exact hI _ (by decide))) (by first | rfl | exact hL _ (by decide)) rfl (Nat.le_of_ble_eq_true rfl) (z_ok (m := 87) (Nat.le_of_ble_eq_true rfl)) ?_
  refine wp_dup (k := 44) rfl rfl ?_
  refine wp_aload (k := 45) rfl rfl ?_
  refine w_gr (k := 46) (s := 0) rfl rfl (by first | assumption | rfl) (by first | assumption | rfl) ?_
  refine wp_aload (k := 47) rfl rfl ?_
  refine w_gr (k := 48) (s := 3) rfl rfl (by first | assumption | rfl) (by first | assumption | rfl) ?_
  refine wp_aload (k := 49) rfl rfl ?_
  refine w_gr (k := 50) (s := 4) rfl rfl (by first | assumption | rfl) (by first | assumption | rfl) ?_
  refine wp_aload (k := 51) rfl rfl ?_
  refine w_gr (k := 52) (s := 5) rfl rfl (by first | assumption | rfl) (by first | assumption | rfl) ?_
  refine wp_aload (k := 53) rfl rfl ?_
  refine w_gr (k := 54) (s := 6) rfl rfl (by first | assumption | rfl) (by first | assumption | rfl) ?_
  refine wp_aload (k := 55) rfl rfl ?_
  refine w_gr (k := 56) (s := 1) rfl rfl (by first | assumption | rfl) (by first | assumption | rfl) ?_
  refine w_Iv (k := 57) [_, _, _, _, _, _] rfl rfl rfl (Nat.le_of_ble_eq_true rfl) (by first | assumption | rfl) (Or.inr ⟨(Nat.le_of_ble_eq_true rfl), z_ok (m := 88) (Nat.le_of_ble_eq_true rfl)⟩) ?_
  refine am_enter (ls := [some _, some _, some _, some _, some _, some _, some _]) (cs := am_c97) rfl rfl (Nat.le_of_ble_eq_true rfl) rfl ?_
  refine wp_aload (k := 0) rfl rfl ?_
  refine wp_objInit (k := 1) rfl (Nat.le_of_ble_eq_true rfl) ?_
  refine wp_aload (k := 2) rfl rfl ?_
  refine w_ic (k := 3) (x := nI 8) rfl (oi_nI 8) ?_
  refine k_newa (k := 4) (m := 92) rfl (Nat.le_of_ble_eq_true rfl) rfl rfl (by first | exact hI _ (by decide) | (rw [am_uR (by decide)]; exact hI _ (by decide))) (by first | rfl | exact hL _ (by decide)) rfl (Nat.le_of_ble_eq_true rfl) (z_ok (m := 88) (Nat.le_of_ble_eq_true rfl)) ?_
  refine w_pr (k := 5) (s := 8) rfl rfl (by first | assumption | rfl) ?_
  refine wp_aload (k := 6) rfl rfl ?_
  refine w_ic (k := 7) (x := nI 31) rfl (oi_nI 31) ?_
  refine k_newa (k := 8) (m := 93) rfl (Nat.le_of_ble_eq_true rfl) rfl rfl (by first | exact hI _ (by decide) | (rw [am_uR (by decide)]; exact hI _ (by decide))) (by first | rfl | exact hL _ (by decide)) rfl (Nat.le_of_ble_eq_true rfl) (z_ok (m := 89) (Nat.le_of_ble_eq_true rfl)) ?_
  refine w_pr (k := 9) (s := 9) rfl rfl (by first | assumption | rfl) ?_
  refine wp_aload (k := 10) rfl rfl ?_
  refine wp_aload (k := 11) rfl rfl ?_
  refine w_pr (k := 12) (s := 0) rfl rfl (by first | assumption | rfl) ?_
  refine wp_aload (k := 13) rfl rfl ?_
  refine wp_aload (k := 14) rfl rfl ?_
  refine w_pr (k := 15) (s := 1) rfl rfl (by first | assumption | rfl) ?_
  refine wp_aload (k := 16) rfl rfl ?_
  refine wp_aload (k := 17) rfl rfl ?_
  refine w_pr (k := 18) (s := 2) rfl rfl (by first | assumption | rfl) ?_
  refine wp_aload (k := 19) rfl rfl ?_
  refine wp_aload (k := 20) rfl rfl ?_
  refine w_pr (k := 21) (s := 3) rfl rfl (by first | assumption | rfl) ?_
  refine wp_aload (k := 22) rfl rfl ?_
  refine wp_aload (k := 23) rfl rfl ?_
  refine w_pr (k := 24) (s := 4) rfl rfl (by first | assumption | rfl) ?_
  refine wp_aload (k := 25) rfl rfl ?_
  refine wp_aload (k := 26) rfl rfl ?_
  refine w_pr (k := 27) (s := 5) rfl rfl (by first | assumption | rfl) ?_
  refine wp_aload (k := 28) rfl rfl ?_
  refine k_new (k := 29) (m := 94) rfl rfl rfl (by first | exact hI _ (by decide) | (rw [am_uR (by decide)]; exact hI _ (by decide))) (by first | rfl | exact hL _ (by decide)) rfl (Nat.le_of_ble_eq_true rfl) (z_ok (m := 90) (Nat.le_of_ble_eq_true rfl)) ?_
  refine wp_dup (k := 30) rfl rfl ?_
  refine wp_aload (k := 31) rfl rfl ?_
  refine w_Iv (k := 32) [_] rfl rfl rfl (Nat.le_of_ble_eq_true rfl) (by first | assumption | rfl) (Or.inr ⟨(Nat.le_of_ble_eq_true rfl), z_ok (m := 91) (Nat.le_of_ble_eq_true rfl)⟩) ?_
  refine am_enter (ls := [some _, some _]) (cs := am_c34) rfl rfl (Nat.le_of_ble_eq_true rfl) rfl ?_
  refine wp_aload (k := 0) rfl rfl ?_
  refine wp_objInit (k := 1) rfl (Nat.le_of_ble_eq_true rfl) ?_
  refine wp_aload (k := 2) rfl rfl ?_
  refine w_ic (k := 3) (x := nI 104) rfl (oi_nI 104) ?_
  refine k_newa (k := 4) (m := 95) rfl (Nat.le_of_ble_eq_true rfl) rfl rfl (by first | exact hI _ (by decide) | (rw [am_uR (by decide)]; exact hI _ (by decide))) (by first | rfl | exact hL _ (by decide)) rfl (Nat.le_of_ble_eq_true rfl) (z_ok (m := 91) (Nat.le_of_ble_eq_true rfl)) ?_
  refine w_pr (k := 5) (s := 1) rfl rfl (by first | assumption | rfl) ?_
  refine wp_aload (k := 6) rfl rfl ?_
  refine w_ic (k := 7) (x := nI 104) rfl (oi_nI 104) ?_
  refine k_newa (k := 8) (m := 96) rfl (Nat.le_of_ble_eq_true rfl) rfl rfl (by first | exact hI _ (by decide) | (rw [am_uR (by decide)]; exact hI _ (by decide))) (by first | rfl | exact hL _ (by decide)) rfl (Nat.le_of_ble_eq_true rfl) (z_ok (m := 92) (Nat.le_of_ble_eq_true rfl)) ?_
  refine w_pr (k := 9) (s := 2) rfl rfl (by first | assumption | rfl) ?_
  refine wp_aload (k := 10) rfl rfl ?_
  refine w_ic (k := 11) (x := nI 104) rfl (oi_nI 104) ?_
  refine k_newa (k := 12) (m := 97) rfl (Nat.le_of_ble_eq_true rfl) rfl rfl (by first | exact hI _ (by decide) | (rw [am_uR (by decide)]; exact hI _ (by decide))) (by first | rfl | exact hL _ (by decide)) rfl (Nat.le_of_ble_eq_true rfl) (z_ok (m := 93) (Nat.le_of_ble_eq_true rfl)) ?_
  refine w_pr (k := 13) (s := 3) rfl rfl (by first | assumption | rfl) ?_
  refine wp_aload (k := 14) rfl rfl ?_
  refine w_ic (k := 15) (x := nI 104) rfl (oi_nI 104) ?_
  refine k_newa (k := 16) (m := 98) rfl (Nat.le_of_ble_eq_true rfl) rfl rfl (by first | exact hI _ (by decide) | (rw [am_uR (by decide)]; exact hI _ (by decide))) (by first | rfl | exact hL _ (by decide)) rfl (Nat.le_of_ble_eq_true rfl) (z_ok (m := 94) (Nat.le_of_ble_eq_true rfl)) ?_
  refine w_pr (k := 17) (s := 4) rfl rfl (by first | assumption | rfl) ?_
  refine wp_aload (k := 18) rfl rfl ?_
  refine wp_aload (k := 19) rfl rfl ?_
  refine w_pr (k := 20) (s := 0) rfl rfl (by first | assumption | rfl) ?_
  refine k_rv (k := 21) (m := 99) rfl rfl (z_eq (m := 95) rfl) rfl ?_
  refine ⟨rfl, ?_⟩
  refine w_pr (k := 33) (s := 6) rfl rfl (by first | assumption | rfl) ?_
  refine wp_aload (k := 34) rfl rfl ?_
  refine k_new (k := 35) (m := 99) rfl rfl rfl (by first | exact hI _ (by decide) | (rw [am_uR (by decide)]; exact hI _ (by decide))) (by first | rfl | exact hL _ (by decide)) rfl (Nat.le_of_ble_eq_true rfl) (z_ok (m := 95) (Nat.le_of_ble_eq_true rfl)) ?_
  refine wp_dup (k := 36) rfl rfl ?_
  refine wp_aload (k := 37) rfl rfl ?_
  refine w_Va (k := 38) [] rfl rfl rfl (Nat.le_of_ble_eq_true rfl) (by first | assumption | rfl) (Or.inl ⟨rfl, rfl⟩) ?_
  refine am_enter (ls := [some _]) (cs := am_c73) rfl rfl (Nat.le_of_ble_eq_true rfl) rfl ?_
  refine wp_aload (k := 0) rfl rfl ?_
  refine w_gr (k := 1) (s := 0) rfl rfl (by first | assumption | rfl) (by first | assumption | rfl) ?_
  refine w_ra (k := 2) rfl rfl rfl rfl ?_
  refine ⟨_, rfl, ?_⟩
  refine wp_aload (k := 39) rfl rfl ?_
  refine w_Iv (k := 40) [_, _] rfl rfl rfl (Nat.le_of_ble_eq_true rfl) (by first | assumption | rfl) (Or.inl ⟨rfl, rfl⟩) ?_
  refine am_enter (ls := [some _, some _, some _]) (cs := am_c57) rfl rfl (Nat.le_of_ble_eq_true rfl) rfl ?_
  refine wp_aload (k := 0) rfl rfl ?_
  refine wp_objInit (k := 1) rfl (Nat.le_of_ble_eq_true rfl) ?_
  refine wp_aload (k := 2) rfl rfl ?_
  refine wp_aload (k := 3) rfl rfl ?_
  refine w_pr (k := 4) (s := 0) rfl rfl (by first | assumption | rfl) ?_
  refine wp_aload (k := 5) rfl rfl ?_
  refine wp_aload (k := 6) rfl rfl ?_
  refine w_pr (k := 7) (s := 1) rfl rfl (by first | assumption | rfl) ?_
  refine w_rv (k := 8) rfl rfl rfl rfl ?_
  refine ⟨rfl, ?_⟩
  refine w_pr (k := 41) (s := 7) rfl rfl (by first | assumption | rfl) ?_
  refine k_rv (k := 42) (m := 100) rfl rfl (z_eq (m := 96) rfl) rfl ?_
  refine ⟨rfl, ?_⟩
  refine w_pr (k := 58) (s := 7) rfl rfl (by first | assumption | rfl) ?_
  refine k_rv (k := 59) (m := 100) rfl rfl (z_eq (m := 96) rfl) rfl ?_
  refine (congrArg (fun R => Q none (sT N 100, am_u I 18 5 (nI 2), am_u (fun _ _ => 0) 18 3 (lN 114), R)) (RRc_eq ?_ ?_)).mpr hq
  · repeat (first | exact Rb'_0 | refine Rb'_u (by decide) (by decide) ?_)
  · decide +kernel
end CC
