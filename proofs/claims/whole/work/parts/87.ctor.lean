/-! ===== the constructors: the heap grows to am_SH ===== -/
def sT (N m : Nat) : List (Nat × Nat) := (am_SH N).take m
theorem nI_cl {n : Nat} (h : n ≤ 1000000) : (nI n).toNatClampNeg = n ∧ ¬ nI n < 0 := ⟨nI_clamp (by omega), nI_pos (by omega)⟩
theorem vu_id {α : Type} {f : Nat → Nat → α} {m : Nat} {g : Nat → α} (h : f m = g) : va_up f m g = f := by
  funext x
  unfold va_up
  by_cases c : x = m
  · rw [if_pos c, c, h]
  · rw [if_neg c]
theorem sl_app (a b : List (Nat × Nat)) : am_sl (a ++ b) = am_sl a + am_sl b := by unfold am_sl; rw [List.map_append, List.sum_append]
theorem slN (N m : Nat) : am_sl (sT N (m + 4)) = N + am_sl (sT 0 (m + 4)) := by
  have e : ∀ M, sT M (m + 4) = [(50, 8), (50, 64), (50, 16), (50, M)] ++ ((am_SH 0).drop 4).take m := fun M => rfl
  rw [e N, e 0, sl_app, sl_app]
  show 8 + (64 + (16 + (N + 0))) + _ = N + (8 + (64 + (16 + (0 + 0))) + _)
  omega
theorem z_ok {N m n m0 q : Nat} (h : am_sl (sT 0 (m + 4)) + n ≤ am_sl (sT 0 (m0 + 4)) + am_ms q) : am_sl (sT N (m + 4)) + n ≤ am_sl (sT N (m0 + 4)) + am_ms q := by rw [slN, slN N m0]; omega
theorem z_eq {N m m0 q : Nat} (h : am_sl (sT 0 (m + 4)) = am_sl (sT 0 (m0 + 4)) + am_ms q) : am_sl (sT N (m + 4)) = am_sl (sT N (m0 + 4)) + am_ms q := by rw [slN, slN N m0]; omega
section CT
variable {cN cZ : Nat} {cs : List Instr} {C : am_C} {Z : am_Q} {k : Nat} {ls : List (Option Value)} {st : List Value} {N m : Nat} {I : Nat → Nat → Int32} {L : Nat → Nat → Int64} {R : Nat → Nat → Option Nat}
theorem k_new {q : Nat} (hc : am_nth cs k = .new q) (hl : (sT N m).length = m) (hs : sT N m ++ [(q / 100, q % 100)] = sT N (m + 1)) (hI : I m = fun _ => 0) (hL : L m = fun _ => 0) (hR : R m = fun _ => none) (h1 : m + 1 ≤ cN) (h2 : am_sl (sT N m) + q % 100 ≤ cZ) (hn : am_WP am_rc am_na am_mc am_ms cN cZ cs C Z (k + 1) ls (.ref m :: st) (sT N (m + 1), I, L, R)) : am_WP am_rc am_na am_mc am_ms cN cZ cs C Z k ls st (sT N m, I, L, R) := by
  refine wp_new hc (by show (sT N m).length + 1 ≤ cN; rw [hl]; exact h1) h2 ?_
  have e : am_nh (sT N m, I, L, R) (q / 100, q % 100) = (sT N (m + 1), I, L, R) := by
    unfold am_nh
    simp only
    rw [hs, hl, vu_id hI, vu_id hL, vu_id hR]
  rw [e]
  show am_WP am_rc am_na am_mc am_ms cN cZ cs C Z (k + 1) ls (.ref (sT N m).length :: st) _
  rw [hl]
  exact hn
theorem k_newa {t n : Nat} (hc : am_nth cs k = .anewarray t) (hn6 : n ≤ 1000000) (hl : (sT N m).length = m) (hs : sT N m ++ [(t, n)] = sT N (m + 1)) (hI : I m = fun _ => 0) (hL : L m = fun _ => 0) (hR : R m = fun _ => none) (h1 : m + 1 ≤ cN) (h2 : am_sl (sT N m) + n ≤ cZ) (hn : am_WP am_rc am_na am_mc am_ms cN cZ cs C Z (k + 1) ls (.ref m :: st) (sT N (m + 1), I, L, R)) : am_WP am_rc am_na am_mc am_ms cN cZ cs C Z k ls (.int (nI n) :: st) (sT N m, I, L, R) := by
  obtain ⟨e1, e2⟩ := nI_cl hn6
  refine wp_newa hc e2 (by rw [e1]; exact hn6) (by show (sT N m).length + 1 ≤ cN; rw [hl]; exact h1) (by rw [e1]; exact h2) ?_
  rw [e1]
  have e : am_nh (sT N m, I, L, R) (t, n) = (sT N (m + 1), I, L, R) := by
    unfold am_nh
    simp only
    rw [hs, hl, vu_id hI, vu_id hL, vu_id hR]
  rw [e]
  show am_WP am_rc am_na am_mc am_ms cN cZ cs C Z (k + 1) ls (.ref (sT N m).length :: st) _
  rw [hl]
  exact hn
/-- a constructor's end -/
theorem k_rv {q m0 : Nat} {Q : am_Q} (hc : am_nth cs k = .return_) (hm : (sT N m).length = (sT N m0).length + am_mc q) (hz : am_sl (sT N m) = am_sl (sT N m0) + am_ms q) (hrt : am_rt q = none) (hq : Q none (sT N m, I, L, R)) : am_WP am_rc am_na am_mc am_ms cN cZ cs C (am_Z (am_rt q) (am_mc q) (am_ms q) (sT N m0).length (am_sl (sT N m0)) Q) k ls [] (sT N m, I, L, R) := wp_return hc ⟨⟨hm, hz⟩, (fun e => by rw [hrt] at e; cases e), hq⟩
end CT
def Rb (R : Nat → Nat → Option Nat) : Prop := ∀ p k, 139 ≤ p ∨ 68 ≤ k → R p k = none
theorem Rb_0 : Rb (fun _ _ => none) := fun _ _ _ => rfl
theorem Rb_u {R : Nat → Nat → Option Nat} {p k : Nat} {v : Option Nat} (hp : p < 139) (hk : k < 68) (h : Rb R) : Rb (am_u R p k v) := fun x y hxy => by rw [am_u_app, if_neg (by omega)]; exact h x y hxy
theorem RR_eq {R : Nat → Nat → Option Nat} (hb : Rb R) (hd : ∀ p, p < 139 → ∀ k, k < 68 → R p k = am_RR none p k) : R = am_RR none := by
  have hb2 : Rb (am_RR none) := by
    intro p k h
    unfold am_RR
    by_cases c : p = 91 ∧ k = 13
    · rw [if_pos c]
    · rw [if_neg c]
      have hr : ∀ r ∈ am_Rt, r.length ≤ 68 := by decide +kernel
      have hl : am_Rt.length ≤ 139 := by decide +kernel
      rcases h with h | h
      · have : am_Rt.getD p [] = [] := by rw [List.getD_eq_getElem?_getD, List.getElem?_eq_none (by omega)]; rfl
        rw [this]; rfl
      · by_cases c2 : p < am_Rt.length
        · have := hr _ (gD_mem (d := []) c2)
          rw [List.getD_eq_getElem?_getD, List.getElem?_eq_none (by omega)]; rfl
        · have : am_Rt.getD p [] = [] := by rw [List.getD_eq_getElem?_getD, List.getElem?_eq_none (by omega)]; rfl
          rw [this]; rfl
  funext p k
  by_cases c : p < 139 ∧ k < 68
  · exact hd p c.1 k c.2
  · rw [hb p k (by omega), hb2 p k (by omega)]
