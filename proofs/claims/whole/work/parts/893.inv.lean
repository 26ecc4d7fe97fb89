/-! ===== what holds between two calls ===== -/
def INVc (I : Nat → Nat → Int32) (L : Nat → Nat → Int64) (A : List Nat) (U : UR) (rl : List Nat) (fr : Int64) (n : Int32) (F : FR) (al : Nat → Option AL) (t : Int64) (s : SN) (T : Nat → Int32) : Prop :=
  (cT I A ∧ stc I ∧ sl I) ∧ (L 18 3 = lN (vb 0 rl) ∧ L 18 4 = fr ∧ I 18 5 = n ∧ us_c I L U ∧ fn_c I F) ∧ (tbc I L al ∧ L 24 1 = t) ∧ (po_c I s ∧ lr_ I 85 s.2.2.2.2 ∧ tl_c I T)
def INVm (I : Nat → Nat → Int32) (L : Nat → Nat → Int64) (A : List Nat) (U : UR) (rl : List Nat) (fr : Int64) (n : Int32) (F : FR) (al : Nat → Option AL) (t : Int64) (s : SN) (T : Nat → Int32) : Prop :=
  (mT I A ∧ mk I ∧ mr I rl) ∧ (L 100 29 = fr ∧ I 100 30 = n ∧ us_m I L U ∧ fn_m I F) ∧ (tbm I L al ∧ L 100 34 = t) ∧ (po_m I s ∧ tl_m I T)
def OKs (U : UR) (rl : List Nat) (F : FR) (al : Nat → Option AL) (s : SN) : Prop := wd rl ∧ us_ok U ∧ fn_ok F ∧ tok al ∧ sn_ok s
def fC {α : Type} (f f' : Nat → Nat → α) : Prop := ∀ x, x = 3 ∨ 100 ≤ x → f' x = f x
def fM {α : Type} (f f' : Nat → Nat → α) : Prop := ∀ x, x < 100 → f' x = f x
theorem fC_rf {α : Type} {f : Nat → Nat → α} : fC f f := fun _ _ => rfl
theorem fM_rf {α : Type} {f : Nat → Nat → α} : fM f f := fun _ _ => rfl
section IV
variable {N : Nat} {I I' : Nat → Nat → Int32} {L L' : Nat → Nat → Int64} {w : Option Nat} {Q : am_Q} {A A' : List Nat} {U U' : UR} {rl rl' : List Nat} {fr fr' : Int64} {n n' : Int32} {F F' : FR} {al al' : Nat → Option AL} {t t' : Int64} {s s' : SN} {T T' : Nat → Int32}
theorem po_e (h : po_c I s) (h2 : I' 82 = I 82) (h3 : I' 83 = I 83) (h4 : I' 84 = I 84) : po_c I' s := ⟨by rw [h2]; exact h.1, by rw [h2]; exact h.2.1, by rw [h2]; exact h.2.2.1, by rw [h2]; exact h.2.2.2.1, rw_keep h.2.2.2.2 h3 h4⟩
theorem sl_e (h : sl I) (f : ∀ x, 11 ≤ x → x ≤ 16 → I' x = I x) : sl I' := by
  obtain ⟨⟨X1, x1⟩, ⟨X2, x2⟩, ⟨X3, x3⟩⟩ := h
  exact ⟨⟨X1, rw_keep x1 (f _ (by decide) (by decide)) (f _ (by decide) (by decide))⟩, ⟨X2, rw_keep x2 (f _ (by decide) (by decide)) (f _ (by decide) (by decide))⟩, ⟨X3, rw_keep x3 (f _ (by decide) (by decide)) (f _ (by decide) (by decide))⟩⟩
theorem us_e (h : us_c I L U) (h1 : I' 18 2 = I 18 2) (h2 : L' 19 = L 19) (h3 : L' 20 = L 20) : us_c I' L' U := ⟨by rw [h1]; exact h.1, fun i hi => by rw [h2, h3]; exact h.2 i hi⟩
theorem fn_e (h : fn_c I F) (h1 : I' 21 = I 21) (h2 : I' 22 = I 22) (h3 : I' 23 = I 23) : fn_c I' F := ⟨by rw [h1]; exact h.1, fun i hi => by rw [h2, h3]; exact h.2 i hi⟩
theorem invc_k (h : INVc I L A U rl fr n F al t s T) (f : ∀ x, x < 100 → I' x = I x) (g : ∀ x, x < 100 → L' x = L x) : INVc I' L' A U rl fr n F al t s T := by
  obtain ⟨⟨a1, a2, a3⟩, ⟨b1, b2, b3, b4, b5⟩, ⟨c1, c2⟩, ⟨d1, d2, d3⟩⟩ := h
  exact ⟨⟨rw_keep a1 (f 5 (by decide)) (f 6 (by decide)), stc_k a2 (f 0 (by decide)) (f 1 (by decide)) (f 2 (by decide)), sl_e a3 (fun x _ _ => f x (by omega))⟩, ⟨by rw [g 18 (by decide)]; exact b1, by rw [g 18 (by decide)]; exact b2, by rw [f 18 (by decide)]; exact b3, us_e b4 (by rw [f 18 (by decide)]) (g 19 (by decide)) (g 20 (by decide)), fn_e b5 (f 21 (by decide)) (f 22 (by decide)) (f 23 (by decide))⟩, ⟨tbc_k c1 (fun x _ _ => f x (by omega)) (fun x _ _ => g x (by omega)), by rw [g 24 (by decide)]; exact c2⟩, ⟨po_e d1 (f 82 (by decide)) (f 83 (by decide)) (f 84 (by decide)), lr_k d2 (fun j hj => f _ (by omega)), fun j hj => by rw [f 90 (by decide)]; exact d3 j hj⟩⟩
theorem invm_k (h : INVm I L A U rl fr n F al t s T) (f : ∀ x, 100 ≤ x → I' x = I x) (g : ∀ x, 100 ≤ x → L' x = L x) : INVm I' L' A U rl fr n F al t s T := by
  obtain ⟨⟨a1, a2, a3⟩, ⟨b1, b2, b3, b4⟩, ⟨c1, c2⟩, ⟨d1, d2⟩⟩ := h
  have e : I' 100 = I 100 := f 100 (by decide)
  have e' : L' 100 = L 100 := g 100 (by decide)
  obtain ⟨p1, p2, p3, p4, p5⟩ := d1
  exact ⟨⟨⟨by rw [e]; exact a1.1, av_keep a1.2.1 (f 112 (by decide)), a1.2.2⟩, mk_k a2 (f 101 (by decide)) (f 102 (by decide)), ⟨by rw [e]; exact a3.1, av_keep a3.2 (f 117 (by decide))⟩⟩, ⟨by rw [e']; exact b1, by rw [e]; exact b2, ⟨by rw [e]; exact b3.1, fun i hi => by rw [g 115 (by decide), g 116 (by decide)]; exact b3.2 i hi⟩, ⟨by rw [e]; exact b4.1, fun i hi => by rw [f 118 (by decide), f 119 (by decide)]; exact b4.2 i hi⟩⟩, ⟨tbm_k c1 (fun x _ _ => f x (by omega)) (fun x _ _ => g x (by omega)), by rw [e']; exact c2⟩, ⟨⟨by rw [e]; exact p1, by rw [e]; exact p2, by rw [e]; exact p3, by rw [e]; exact p4, ⟨by rw [e]; exact p5.1, av_keep p5.2.1 (f 113 (by decide)), p5.2.2⟩⟩, fun j hj => by rw [e]; exact d2 j hj⟩⟩
/-- the tape anew -/
theorem invc_A (h : INVc I L A U rl fr n F al t s T) (hA : cT I' A') (f : ∀ x, x ∉ [5, 6, 9, 10, 11, 12, 13, 14, 15, 16] → I' x = I x) (hs : sl I') : INVc I' L A' U rl fr n F al t s T := by
  obtain ⟨⟨a1, a2, a3⟩, ⟨b1, b2, b3, b4, b5⟩, ⟨c1, c2⟩, ⟨d1, d2, d3⟩⟩ := h
  exact ⟨⟨hA, stc_k a2 (f 0 (by decide)) (f 1 (by decide)) (f 2 (by decide)), hs⟩, ⟨b1, b2, by rw [f 18 (by decide)]; exact b3, us_e b4 (by rw [f 18 (by decide)]) rfl rfl, fn_e b5 (f 21 (by decide)) (f 22 (by decide)) (f 23 (by decide))⟩, ⟨tbc_k c1 (fun x _ _ => f x (by simp; omega)) (fun _ _ _ => rfl), c2⟩, ⟨po_e d1 (f 82 (by decide)) (f 83 (by decide)) (f 84 (by decide)), lr_k d2 (fun j hj => f _ (by simp; omega)), fun j hj => by rw [f 90 (by decide)]; exact d3 j hj⟩⟩
theorem invc_A2 (h : INVc I L A U rl fr n F al t s T) (hA : cT I' A') (f : fc [5, 6] I I') : INVc I' L A' U rl fr n F al t s T := invc_A h hA (fun x hx => f x (fun q => hx (by simp at q ⊢; omega))) (sl_k h.1.2.2 f (by decide))
theorem fC_fc {P : List Nat} (f : fc P I I') (hp : ∀ x ∈ P, x ≠ 3 ∧ x < 100) : fC I I' := fun x hx => f x (fun q => by have := hp x q; omega)
/-- the reference's tape anew -/
theorem invm_A (h : INVm I L A U rl fr n F al t s T) {P S : List Nat} (hA : mT I' A') (hk : mk I') (f : fx P S I I') (g : fl [7] L L') (hp : ∀ x, x = 113 ∨ x = 117 ∨ x = 118 ∨ x = 119 ∨ (120 ≤ x ∧ x ≤ 134) → x ∉ P) (hs : ∀ x, (17 ≤ x ∧ x ≤ 21) ∨ (26 ≤ x ∧ x ≤ 34) ∨ (59 ≤ x ∧ x ≤ 64) → x ∉ S) : INVm I' L' A' U rl fr n F al t s T := by
  obtain ⟨⟨a1, a2, a3⟩, ⟨b1, b2, b3, b4⟩, ⟨c1, c2⟩, ⟨d1, d2⟩⟩ := h
  obtain ⟨p1, p2, p3, p4, p5⟩ := d1
  exact ⟨⟨hA, hk, ⟨by rw [f.2 28 (hs _ (by omega))]; exact a3.1, av_keep a3.2 (f.1 117 (by decide) (hp _ (by omega)))⟩⟩, ⟨by rw [g.2 29 (by decide)]; exact b1, by rw [f.2 30 (hs _ (by omega))]; exact b2, us_m_k b3 f (hs _ (by omega)) (g.1 115 (by decide)) (g.1 116 (by decide)), fn_m_k b4 f (hs _ (by omega)) (hp _ (by omega)) (hp _ (by omega))⟩, ⟨tbm_x c1 f g (fun x h1 h2 => hp x (by omega)), by rw [g.2 34 (by decide)]; exact c2⟩, ⟨⟨by rw [f.2 18 (hs _ (by omega))]; exact p1, by rw [f.2 19 (hs _ (by omega))]; exact p2, by rw [f.2 20 (hs _ (by omega))]; exact p3, by rw [f.2 21 (hs _ (by omega))]; exact p4, mS_k p5 f (hp _ (by omega)) (hs _ (by omega))⟩, tl_k d2 f (fun j hj => hs _ (by omega))⟩⟩
theorem invm_A2 (h : INVm I L A U rl fr n F al t s T) (hA : mT I' A') (f : fx [112, 114] [0, 15, 23] I I') : INVm I' L A' U rl fr n F al t s T := invm_A h hA (mk_k h.1.2.1 (f.1 101 (by decide) (by decide)) (f.1 102 (by decide) (by decide))) f fl_rf (fun x hx => by simp; omega) (fun x hx => by simp; omega)
theorem fM_fx {P S : List Nat} (f : fx P S I I') (hp : ∀ x ∈ P, 100 ≤ x) : fM I I' := fun x hx => f.1 x (by omega) (fun q => by have := hp x q; omega)
theorem invm_0 (h : INVm I L A U rl fr n F al t s T) {v : Int32} : INVm (am_u I 100 0 v) L A U rl fr n F al t s T := invm_A h (mT_0 h.1.1) (mk_k h.1.2.1 (am_uR (by decide)) (am_uR (by decide))) (fx_s (P := []) (S := [0]) (by decide)) fl_rf (fun x hx => by simp) (fun x hx => by simp; omega)
theorem invm_q (h : INVm I L A U rl fr n F al t s T) (f : fx [135, 136, 137] [0] I I') : INVm I' L A U rl fr n F al t s T := invm_A h (mT_k h.1.1 f (by decide) (by decide)) (mk_k h.1.2.1 (f.1 101 (by decide) (by decide)) (f.1 102 (by decide) (by decide))) f fl_rf (fun x hx => by simp; omega) (fun x hx => by simp; omega)
end IV
