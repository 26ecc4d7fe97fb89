/-! ===== from the check to the law of every instruction ===== -/
theorem am_clok0 : ∀ w ∈ u_ws RX0 TX0 16, w ∈ am_tbl := by decide +kernel
theorem am_clok1 : ∀ w ∈ u_ws RX1 TX1 2, w ∈ am_tbl := by decide +kernel
theorem am_clok2 : ∀ w ∈ u_ws RX2 TX2 3, w ∈ am_tbl := by decide +kernel
theorem am_clok3 : ∀ w ∈ u_ws RX3 TX3 10, w ∈ am_tbl := by decide +kernel
theorem am_clok4 : ∀ w ∈ u_ws RX4 TX4 2, w ∈ am_tbl := by decide +kernel
theorem am_clok5 : ∀ w ∈ u_ws RX5 TX5 7, w ∈ am_tbl := by decide +kernel
theorem am_clok6 : ∀ w ∈ u_ws RX6 TX6 2, w ∈ am_tbl := by decide +kernel
theorem am_clok7 : ∀ w ∈ u_ws RX7 TX7 4, w ∈ am_tbl := by decide +kernel
theorem am_clok8 : ∀ w ∈ u_ws RX8 TX8 15, w ∈ am_tbl := by decide +kernel
theorem am_clok9 : ∀ w ∈ u_ws RX9 TX9 2, w ∈ am_tbl := by decide +kernel
theorem am_clok10 : ∀ w ∈ u_ws RX10 TX10 6, w ∈ am_tbl := by decide +kernel
theorem am_clok11 : ∀ w ∈ u_ws RX11 TX11 8, w ∈ am_tbl := by decide +kernel
theorem am_clok12 : ∀ w ∈ u_ws RX12 TX12 68, w ∈ am_tbl := by decide +kernel
/-- what the tables say of a class of the worlds -/
def am_kls (ci : Nat) (Cn : String) (T : u_T) (N : Nat) : Prop := (∀ w ∈ u_ws Cn T N, w ∈ am_tbl) ∧ ∃ ty : Nat → FieldType, (∀ k, k < N → parseFieldDescriptor (T k).2.2.1 = some (ty k)) ∧ (∀ a, a < N → ∀ b, b < N → a ≠ b → (T a).2.1 ≠ (T b).2.1) ∧ (∀ k, k < N → defaultValue (ty k) = am_dv ((am_fk.getD ci []).getD k 0)) ∧ Cond.instantiable Cn N ∈ am_tbl ∧ Cond.initialized Cn ∈ am_tbl
set_option maxRecDepth 20000 in
theorem am_kls_ok {ci : Nat} {Cn : String} {T : u_T} {N : Nat} (h : am_cl[ci]? = some (Cn, T, N)) : am_kls ci Cn T N := by
  match ci, h with
  | 0, h =>
    cases h
    exact ⟨am_clok0, tyX0, tyX0_ok, nmX0, by decide +kernel, by decide +kernel, by decide +kernel⟩
  | 1, h =>
    cases h
    exact ⟨am_clok1, tyX1, tyX1_ok, nmX1, by decide +kernel, by decide +kernel, by decide +kernel⟩
  | 2, h =>
    cases h
    exact ⟨am_clok2, tyX2, tyX2_ok, nmX2, by decide +kernel, by decide +kernel, by decide +kernel⟩
  | 3, h =>
    cases h
    exact ⟨am_clok3, tyX3, tyX3_ok, nmX3, by decide +kernel, by decide +kernel, by decide +kernel⟩
  | 4, h =>
    cases h
    exact ⟨am_clok4, tyX4, tyX4_ok, nmX4, by decide +kernel, by decide +kernel, by decide +kernel⟩
  | 5, h =>
    cases h
    exact ⟨am_clok5, tyX5, tyX5_ok, nmX5, by decide +kernel, by decide +kernel, by decide +kernel⟩
  | 6, h =>
    cases h
    exact ⟨am_clok6, tyX6, tyX6_ok, nmX6, by decide +kernel, by decide +kernel, by decide +kernel⟩
  | 7, h =>
    cases h
    exact ⟨am_clok7, tyX7, tyX7_ok, nmX7, by decide +kernel, by decide +kernel, by decide +kernel⟩
  | 8, h =>
    cases h
    exact ⟨am_clok8, tyX8, tyX8_ok, nmX8, by decide +kernel, by decide +kernel, by decide +kernel⟩
  | 9, h =>
    cases h
    exact ⟨am_clok9, tyX9, tyX9_ok, nmX9, by decide +kernel, by decide +kernel, by decide +kernel⟩
  | 10, h =>
    cases h
    exact ⟨am_clok10, tyX10, tyX10_ok, nmX10, by decide +kernel, by decide +kernel, by decide +kernel⟩
  | 11, h =>
    cases h
    exact ⟨am_clok11, tyX11, tyX11_ok, nmX11, by decide +kernel, by decide +kernel, by decide +kernel⟩
  | 12, h =>
    cases h
    exact ⟨am_clok12, tyX12, tyX12_ok, nmX12, by decide +kernel, by decide +kernel, by decide +kernel⟩
  | n + 13, h => simp [am_cl] at h
def am_words : List Cond := [.instanceMethod Lib.objectInit, .code Lib.objectInit ⟨#[0xb1]⟩ 1 none, .initialized "java/lang/Math", .static Lib.Math.max.name, .code Lib.Math.max.name Lib.Math.max.code 2 (some .int), .static Lib.Math.min.name, .code Lib.Math.min.name Lib.Math.min.code 2 (some .int), .static Lib.MathLoose.max_long.x, .code Lib.MathLoose.max_long.x Lib.MathLoose.max_long.code 4 (some .long), .static Lib.MathLoose.min_long.x, .code Lib.MathLoose.min_long.x Lib.MathLoose.min_long.code 4 (some .long), .native arraycopyName, .static arraycopyName, .initialized "java/lang/System", .arrayClass .int, .arrayClass .long, .arrayClass .byte, .arrayClass .boolean]
theorem am_words_in : ∀ w ∈ am_words, w ∈ am_tbl := by decide +kernel
theorem am_words_good : am_tbl.all goodWord = true := List.all_eq_true.mpr (fun w hw => (List.mem_filter.mp hw).2)
theorem am_wi (i : Nat) {w : Cond} (h : am_words[i]? = some w) : w ∈ am_tbl := am_words_in w (List.mem_of_getElem? h)
/-- what the tables say of a method that is called -/
def am_ok2 (q : Nat) : Prop := Cond.code (am_y q) (am_cc q) (am_nl q) (am_rt q) ∈ am_tbl ∧ Cond.initialized (am_y q).cls ∈ am_tbl ∧ ((am_y q).cls ≠ "java/lang/invoke/MethodHandle" ∧ (am_y q).cls ≠ "java/lang/invoke/VarHandle") ∧ plainName (am_y q).cls = true ∧ ∃ n, (parseMethodDescriptor (am_y q).desc).map (fun d => d.parameters.length) = some n ∧
  (am_rc q < 50 → am_na q = n + 1 ∧ Cond.instanceMethod (am_y q) ∈ am_tbl ∧ (am_vi q = true → Cond.selects (am_y q).cls (am_y q) (am_y q) ∈ am_tbl) ∧ ∃ T N, am_cl[am_rc q]? = some ((am_y q).cls, T, N)) ∧ (am_rc q = 99 → am_na q = n ∧ Cond.static (am_y q) ∈ am_tbl)
theorem am_fok_ok {q : Nat} {own : String} {idx hint : Nat} {kd : Nat → Bool} {fd : FieldType → Bool} {fin : Bool → Bool} (h : am_fok q own idx hint kd fd fin = true) : ∃ Cn T N, am_cl[q / 100]? = some (Cn, T, N) ∧ q / 100 < 50 ∧ q % 100 < N ∧ (T (q % 100)).1 = Cn ∧ kd ((am_fk.getD (q / 100) []).getD (q % 100) 0) = true ∧ Cond.fieldLink own idx Cn (T (q % 100)).2.1 (T (q % 100)).2.2.1 ∈ am_tbl ∧ (∃ ty, parseFieldDescriptor (T (q % 100)).2.2.1 = some ty ∧ fd ty = true) ∧ fin (T (q % 100)).2.2.2 = true ∧ ((T (q % 100)).2.2.2 = true → Cn = own) := by
  unfold am_fok at h
  split at h
  · rename_i Cn T N hcl
    simp only [Bool.and_eq_true, decide_eq_true_eq] at h
    obtain ⟨h1, h2, h3, h4, h5, h6, h7, h8⟩ := h
    refine ⟨Cn, T, N, hcl, h1, h2, h3, h4, am_wd_ok h5, ?_, h7, fun z => ?_⟩
    · split at h6
      · rename_i ty hty
        exact ⟨ty, hty, h6⟩
      · cases h6
    · rw [z] at h8
      simpa using h8
  · cases h
theorem am_refn {ty : FieldType} (h : am_isref ty = true) : (∀ r : Option Nat, narrow ty (va_rf r) = va_rf r) ∧ ∀ r : Option Nat, fits ty (va_rf r) = true := by
  cases ty <;> first | (simp [am_isref] at h; done) | exact ⟨fun r => by cases r <;> rfl, fun r => by cases r <;> rfl⟩
theorem am_fit_ok {fr lo q : Nat} (h : am_fit fr lo q = true) : (0 < q ∧ q < am_NM) ∧ am_fr q + 1 ≤ fr ∧ 8 + (am_nl q + 11) + am_lo q ≤ lo := by
  rw [am_fit, Bool.and_eq_true, Bool.and_eq_true, decide_eq_true_eq, decide_eq_true_eq, decide_eq_true_eq] at h
  exact h
section AMX
variable {p : Program} {l : Launch} {e : Env} {R : Room} {s : State} {m : MethodId} {args : Array Value} {below : List Frame} {meth : Method} {c : Code} {Qm : State → Prop} {cc : ByteArray} {nL : Nat} {own : String} {Ts : List Cond} {D : va_G} {a0 : Nat → Nat} {cA : Nat → ClassId} {base : Nat} {L0 : Nat → Nat} {X0 : Nat → Nat → Int32} {n0 z0 : Nat} {pcs : Nat → Nat} {rc na mcT msT : Nat → Nat} {cN cZ : Nat} {C : am_C} {Z : am_Q} {k : Nat} {ls : List (Option Value)} {st : List Value} {h : am_H}
variable {fr lo : Nat} {ini : Bool} {rt : Option FieldType} {ri : Instr} {len hint : Nat}
set_option maxHeartbeats 4000000 in
theorem am_close (F : am_F p s m args c cc nL own Ts D a0 cA base L0 X0) (h4n : 4 ≤ n0) (hcN : cN = n0 + R.cells) (hcZ : cZ = z0 + R.slots) (hfr : R.frames = fr) (hlo : R.locals = lo) (hini : ini = true → meth.name = "<init>")
    (hC : ∀ q as h Q, (0 < q ∧ q < am_NM) → C q as h Q → am_Met l D cA base L0 X0 (am_y q) (am_cc q) (am_nl q) (am_rt q) (am_fr q) (am_lo q) (am_mc q) (am_ms q) as h Q) (hK2 : ∀ q, (0 < q ∧ q < am_NM) → am_ok2 q)
    (ai : Instr) (hret : (ai = .ireturn ∨ ai = .lreturn ∨ ai = .areturn ∨ ai = .return_) → am_step am_rc am_na am_mc am_ms cN cZ C Z (am_J p l e R s m args below meth c Qm nL D a0 cA base L0 X0 n0 z0 pcs) k ls st h ai → (am_J p l e R s m args below meth c Qm nL D a0 cA base L0 X0 n0 z0 pcs) k ls st h)
    (hd : decode cc (pcs k) = .ok (ri, len)) (hb : am_ck own nL fr lo ini rt pcs k ri len hint ai = true) (hs : am_step am_rc am_na am_mc am_ms cN cZ C Z (am_J p l e R s m args below meth c Qm nL D a0 cA base L0 X0 n0 z0 pcs) k ls st h ai) : (am_J p l e R s m args below meth c Qm nL D a0 cA base L0 X0 n0 z0 pcs) k ls st h := by
  subst hfr hlo
  cases ai with
  | aaload =>
    obtain ⟨rfl, rfl, hn⟩ := am_p_ok hb
    exact aj_aaload F hd hn hs
  | aastore =>
    obtain ⟨rfl, rfl, hn⟩ := am_p_ok hb
    exact aj_aastore F hd hn hs
  | aconst_null =>
    obtain ⟨rfl, rfl, hn⟩ := am_p_ok hb
    exact aj_null F hd hn hs
  | aload j =>
    simp only [am_ck, Bool.or_eq_true, Bool.and_eq_true, decide_eq_true_eq] at hb
    rcases hb with hb | hb
    · obtain ⟨rfl, rfl, hn⟩ := am_p_ok hb
      exact aj_aload F hd hn hs
    · split at hb
      · simp only [Bool.and_eq_true, decide_eq_true_eq] at hb
        obtain ⟨-, rfl, hn⟩ := am_p_ok hb.1
        exact aj_aloadn F hb.2 hd hn hs
      · cases hb
  | aload_n _ => cases hb
  | anewarray t =>
    simp only [am_ck] at hb
    split at hb
    · simp only [Bool.and_eq_true, Bool.or_eq_true, decide_eq_true_eq] at hb
      obtain ⟨h1, h2⟩ := hb
      obtain ⟨-, rfl, hn⟩ := am_p_ok h1
      rcases h2 with ⟨rfl, rfl⟩ | ⟨rfl, rfl⟩ | ⟨rfl, rfl⟩ | ⟨rfl, rfl⟩
      · exact aj_newa (ty := .int) (j := 0) F rfl (by decide) rfl (Or.inl ⟨rfl, rfl⟩) (am_wi 14 rfl) hcN hcZ hd hn hs
      · exact aj_newa (ty := .long) (j := 1) F rfl (by decide) rfl (Or.inr (Or.inl ⟨rfl, rfl⟩)) (am_wi 15 rfl) hcN hcZ hd hn hs
      · exact aj_newa (ty := .byte) (j := 2) F rfl (by decide) rfl (Or.inr (Or.inr (Or.inl ⟨rfl, rfl⟩))) (am_wi 16 rfl) hcN hcZ hd hn hs
      · exact aj_newa (ty := .boolean) (j := 3) F rfl (by decide) rfl (Or.inr (Or.inr (Or.inr ⟨rfl, rfl⟩))) (am_wi 17 rfl) hcN hcZ hd hn hs
    · simp only [Bool.and_eq_true, decide_eq_true_eq] at hb
      obtain ⟨h1, rfl, h3⟩ := hb
      obtain ⟨-, rfl, hn⟩ := am_p_ok h1
      exact aj_newq F (am_wd_ok h3) hcN hcZ hd hn hs
    · cases hb
  | areturn =>
    exact hret (Or.inr (Or.inr (Or.inl rfl))) hs
  | arraylength =>
    obtain ⟨rfl, rfl, hn⟩ := am_p_ok hb
    exact aj_arraylength F h4n hd hn hs
  | astore j =>
    simp only [am_ck, Bool.or_eq_true, Bool.and_eq_true, decide_eq_true_eq] at hb
    obtain ⟨hj, hb⟩ := hb
    rcases hb with hb | hb
    · obtain ⟨rfl, rfl, hn⟩ := am_p_ok hb
      exact aj_astore F hj hd hn hs
    · split at hb
      · simp only [Bool.and_eq_true, decide_eq_true_eq] at hb
        obtain ⟨-, rfl, hn⟩ := am_p_ok hb.1
        exact aj_astoren F hb.2 hj hd hn hs
      · cases hb
  | astore_n _ => cases hb
  | athrow => cases hb
  | baload =>
    obtain ⟨rfl, rfl, hn⟩ := am_p_ok hb
    exact aj_baload F hd hn hs
  | bastore =>
    obtain ⟨rfl, rfl, hn⟩ := am_p_ok hb
    exact aj_bastore F hd hn hs
  | bipush _ => cases hb
  | caload =>
    obtain ⟨rfl, rfl, hn⟩ := am_p_ok hb
    exact aj_caload F hd hn hs
  | castore =>
    obtain ⟨rfl, rfl, hn⟩ := am_p_ok hb
    exact aj_castore F hd hn hs
  | checkcast _ => cases hb
  | d2f => cases hb
  | d2i => cases hb
  | d2l => cases hb
  | dadd => cases hb
  | daload => cases hb
  | dastore => cases hb
  | dcmp _ => cases hb
  | dconst _ => cases hb
  | ddiv => cases hb
  | dload q =>
    simp only [am_ck] at hb
    split at hb
    · rw [Bool.and_eq_true] at hb
      obtain ⟨-, rfl, hn⟩ := am_p_ok hb.1
      obtain ⟨Cn, T, N, h1, h2, h3, h4, h5, h6, -, -, -⟩ := am_fok_ok hb.2
      exact aj_getR F h1 h2 h3 h4 (am_kls_ok h1).1 (by simpa using h5) h6 hd hn hs
    · cases hb
  | dload_n _ => cases hb
  | dmul => cases hb
  | dneg => cases hb
  | drem => cases hb
  | dreturn => cases hb
  | dstore q =>
    simp only [am_ck] at hb
    split at hb
    · rw [Bool.and_eq_true] at hb
      obtain ⟨-, rfl, hn⟩ := am_p_ok hb.1
      obtain ⟨Cn, T, N, h1, h2, h3, h4, h5, h6, ⟨ty, h7, h8⟩, h9, h10⟩ := am_fok_ok hb.2
      obtain ⟨k1, ty0, k2, k3, -⟩ := am_kls_ok h1
      have hty : ty0 (q % 100) = ty := Option.some.inj ((k2 _ h3).symm.trans h7)
      cases hf : (T (q % 100)).2.2.2
      · exact aj_putR F h1 h2 h3 h4 k1 (am_refn h8).1 (am_refn h8).2 ty0 k2 k3 hty hf (by simpa using h5) h6 hd hn hs
      · exact aj_putRF F h1 h2 h3 h4 k1 (am_refn h8).1 (am_refn h8).2 ty0 k2 k3 hty hf (hini (by rw [hf] at h9; simpa using h9)) (h10 hf) (by simpa using h5) h6 hd hn hs
    · cases hb
  | dstore_n _ => cases hb
  | dsub => cases hb
  | dup =>
    obtain ⟨rfl, rfl, hn⟩ := am_p_ok hb
    exact aj_dup F hd hn hs
  | dup_x1 => cases hb
  | dup_x2 => cases hb
  | dup2 =>
    obtain ⟨rfl, rfl, hn⟩ := am_p_ok hb
    exact aj_dup2 F hd hn hs
  | dup2_x1 => cases hb
  | dup2_x2 => cases hb
  | f2d => cases hb
  | f2i => cases hb
  | f2l => cases hb
  | fadd => cases hb
  | faload => cases hb
  | fastore => cases hb
  | fcmp _ => cases hb
  | fconst _ => cases hb
  | fdiv => cases hb
  | fload q =>
    simp only [am_ck] at hb
    split at hb
    · rw [Bool.and_eq_true] at hb
      obtain ⟨-, rfl, hn⟩ := am_p_ok hb.1
      obtain ⟨Cn, T, N, h1, h2, h3, h4, h5, h6, -, -, -⟩ := am_fok_ok hb.2
      exact aj_getL F h1 h2 h3 h4 (am_kls_ok h1).1 (by simpa using h5) h6 hd hn hs
    · cases hb
  | fload_n _ => cases hb
  | fmul => cases hb
  | fneg => cases hb
  | frem => cases hb
  | freturn => cases hb
  | fstore q =>
    simp only [am_ck] at hb
    split at hb
    · rw [Bool.and_eq_true] at hb
      obtain ⟨-, rfl, hn⟩ := am_p_ok hb.1
      obtain ⟨Cn, T, N, h1, h2, h3, h4, h5, h6, ⟨ty, h7, h8⟩, h9, h10⟩ := am_fok_ok hb.2
      obtain ⟨k1, ty0, k2, k3, -⟩ := am_kls_ok h1
      have hty : ty0 (q % 100) = ty := Option.some.inj ((k2 _ h3).symm.trans h7)
      have h8 : ty = .long := by simpa using h8
      subst h8
      cases hf : (T (q % 100)).2.2.2
      · exact aj_putL F h1 h2 h3 h4 k1 ty0 k2 k3 hty hf (by simpa using h5) h6 hd hn hs
      · exact aj_putLF F h1 h2 h3 h4 k1 ty0 k2 k3 hty hf (hini (by rw [hf] at h9; simpa using h9)) (h10 hf) (by simpa using h5) h6 hd hn hs
    · cases hb
  | fstore_n _ => cases hb
  | fsub => cases hb
  | getfield q =>
    simp only [am_ck] at hb
    split at hb
    · rw [Bool.and_eq_true] at hb
      obtain ⟨-, rfl, hn⟩ := am_p_ok hb.1
      obtain ⟨Cn, T, N, h1, h2, h3, h4, h5, h6, -, -, -⟩ := am_fok_ok hb.2
      rw [Bool.and_eq_true] at h5
      exact aj_getI F h1 h2 h3 h4 (am_kls_ok h1).1 (by simpa using h5.1) (by simpa using h5.2) h6 hd hn hs
    · cases hb
  | getstatic j =>
    simp only [am_ck] at hb
    split at hb
    · simp only [Bool.and_eq_true, decide_eq_true_eq] at hb
      obtain ⟨h1, h2, h3⟩ := hb
      obtain ⟨-, rfl, hn⟩ := am_p_ok h1
      exact aj_gets F h4n h2 (am_wd_ok h3) hd hn hs
    · cases hb
  | goto t =>
    simp only [am_ck] at hb
    split at hb
    · simp only [am_jt, Bool.and_eq_true, decide_eq_true_eq] at hb
      obtain ⟨rfl, h2⟩ := hb
      exact aj_goto F hd h2 hs
    · cases hb
  | goto_w n =>
    simp only [am_ck] at hb
    split at hb
    · simp only [Bool.and_eq_true, decide_eq_true_eq] at hb
      obtain ⟨-, rfl, hn⟩ := am_p_ok hb.1
      exact aj_lconst F hb.2 hd hn hs
    · rw [Bool.and_eq_true] at hb
      obtain ⟨-, rfl, hn⟩ := am_p_ok hb.1
      exact aj_ldc2 F (am_wd_ok hb.2) hd hn hs
    · cases hb
  | i2b =>
    obtain ⟨rfl, rfl, hn⟩ := am_p_ok hb
    exact aj_i2b F hd hn hs
  | i2c => cases hb
  | i2d => cases hb
  | i2f => cases hb
  | i2l =>
    obtain ⟨rfl, rfl, hn⟩ := am_p_ok hb
    exact aj_i2l F hd hn hs
  | i2s => cases hb
  | iadd =>
    obtain ⟨rfl, rfl, hn⟩ := am_p_ok hb
    exact aj_iadd F hd hn hs
  | iaload =>
    obtain ⟨rfl, rfl, hn⟩ := am_p_ok hb
    exact aj_iaload F h4n hd hn hs
  | iand =>
    obtain ⟨rfl, rfl, hn⟩ := am_p_ok hb
    exact aj_iand F hd hn hs
  | iastore =>
    obtain ⟨rfl, rfl, hn⟩ := am_p_ok hb
    exact aj_iastore F hd hn hs
  | iconst n =>
    simp only [am_ck, Bool.or_eq_true, Bool.and_eq_true, decide_eq_true_eq] at hb
    rcases hb with hb | ⟨hb, h2⟩ | ⟨hb, h2⟩ | hb
    · obtain ⟨rfl, rfl, hn⟩ := am_p_ok hb
      exact aj_iconst F hd hn hs
    · obtain ⟨rfl, rfl, hn⟩ := am_p_ok hb
      exact aj_bipush F h2 hd hn hs
    · obtain ⟨rfl, rfl, hn⟩ := am_p_ok hb
      exact aj_sipush F h2 hd hn hs
    · split at hb
      · rw [Bool.and_eq_true] at hb
        obtain ⟨-, rfl, hn⟩ := am_p_ok hb.1
        exact aj_ldc F (am_wd_ok hb.2) hd hn hs
      · rw [Bool.and_eq_true] at hb
        obtain ⟨-, rfl, hn⟩ := am_p_ok hb.1
        exact aj_ldcw F (am_wd_ok hb.2) hd hn hs
      · cases hb
  | idiv =>
    obtain ⟨rfl, rfl, hn⟩ := am_p_ok hb
    exact aj_idiv F hd hn hs
  | if_acmp _ _ => cases hb
  | if_icmp c9 t =>
    simp only [am_ck] at hb
    split at hb
    · simp only [am_jt, Bool.and_eq_true, decide_eq_true_eq] at hb
      obtain ⟨rfl, h1, h2⟩ := hb
      obtain ⟨-, rfl, hn⟩ := am_p_ok h1
      rename_i c8 off
      cases c8
      · exact aj_icmp_eq F hd hn h2 hs
      · exact aj_icmp_ne F hd hn h2 hs
      · exact aj_icmp_lt F hd hn h2 hs
      · exact aj_icmp_ge F hd hn h2 hs
      · exact aj_icmp_gt F hd hn h2 hs
      · exact aj_icmp_le F hd hn h2 hs
    · cases hb
  | ifCond c9 t =>
    simp only [am_ck] at hb
    split at hb
    · simp only [am_jt, Bool.and_eq_true, decide_eq_true_eq] at hb
      obtain ⟨rfl, h1, h2⟩ := hb
      obtain ⟨-, rfl, hn⟩ := am_p_ok h1
      rename_i c8 off
      cases c8
      · exact aj_if_eq F hd hn h2 hs
      · exact aj_if_ne F hd hn h2 hs
      · exact aj_if_lt F hd hn h2 hs
      · exact aj_if_ge F hd hn h2 hs
      · exact aj_if_gt F hd hn h2 hs
      · exact aj_if_le F hd hn h2 hs
    · cases hb
  | ifnonnull t =>
    simp only [am_ck] at hb
    split at hb
    · simp only [am_jt, Bool.and_eq_true, decide_eq_true_eq] at hb
      obtain ⟨-, rfl, hn⟩ := am_p_ok hb.1
      exact aj_ifnonnull F hd hn hb.2 hs
    · cases hb
  | ifnull t =>
    simp only [am_ck] at hb
    split at hb
    · simp only [am_jt, Bool.and_eq_true, decide_eq_true_eq] at hb
      obtain ⟨-, rfl, hn⟩ := am_p_ok hb.1
      exact aj_ifnull F hd hn hb.2 hs
    · cases hb
  | iinc j n =>
    simp only [am_ck, Bool.or_eq_true, Bool.and_eq_true, decide_eq_true_eq] at hb
    obtain ⟨rfl, rfl, hn⟩ := am_p_ok hb.2
    exact aj_iinc F hb.1 hd hn hs
  | iload j =>
    simp only [am_ck, Bool.or_eq_true, Bool.and_eq_true, decide_eq_true_eq] at hb
    rcases hb with hb | hb
    · obtain ⟨rfl, rfl, hn⟩ := am_p_ok hb
      exact aj_iload F hd hn hs
    · split at hb
      · simp only [Bool.and_eq_true, decide_eq_true_eq] at hb
        obtain ⟨-, rfl, hn⟩ := am_p_ok hb.1
        exact aj_iloadn F hb.2 hd hn hs
      · cases hb
  | iload_n _ => cases hb
  | imul =>
    obtain ⟨rfl, rfl, hn⟩ := am_p_ok hb
    exact aj_imul F hd hn hs
  | ineg => cases hb
  | instanceof _ => cases hb
  | invokedynamic a =>
    simp only [am_ck] at hb
    split at hb
    · simp only [Bool.and_eq_true, Bool.or_eq_true, decide_eq_true_eq] at hb
      obtain ⟨h1, h2, h3, h4, h5⟩ := hb
      obtain ⟨-, rfl, hn⟩ := am_p_ok h1
      rcases h5 with rfl | rfl
      · exact aj_copyb F h2 h3 (am_wd_ok h4) (am_wi 11 rfl) (am_wi 12 rfl) (am_wi 13 rfl) hd hn hs
      · exact aj_copyi F h4n h2 h3 (am_wd_ok h4) (am_wi 11 rfl) (am_wi 12 rfl) (am_wi 13 rfl) hd hn hs
    · cases hb
  | invokeinterface a b =>
    simp only [am_ck] at hb
    split at hb
    · simp only [Bool.and_eq_true, Bool.or_eq_true, decide_eq_true_eq] at hb
      obtain ⟨h1, h2, h3, h4⟩ := hb
      obtain ⟨-, rfl, hn⟩ := am_p_ok h1
      rcases h4 with ⟨rfl, h4⟩ | ⟨rfl, h4⟩ | ⟨rfl, h4⟩ | ⟨rfl, h4⟩
      · exact aj_mm0 F h2 h3 (am_wd_ok h4) (am_wi 3 rfl) (am_wi 2 rfl) (am_wi 4 rfl) hd hn hs
      · exact aj_mm1 F h2 h3 (am_wd_ok h4) (am_wi 5 rfl) (am_wi 2 rfl) (am_wi 6 rfl) hd hn hs
      · exact aj_mm2 F h2 h3 (am_wd_ok h4) (am_wi 7 rfl) (am_wi 2 rfl) (am_wi 8 rfl) hd hn hs
      · exact aj_mm3 F h2 h3 (am_wd_ok h4) (am_wi 9 rfl) (am_wi 2 rfl) (am_wi 10 rfl) hd hn hs
    · cases hb
  | invokespecial q =>
    simp only [am_ck] at hb
    split at hb
    · simp only [Bool.and_eq_true, Bool.or_eq_true, decide_eq_true_eq] at hb
      obtain ⟨h1, h2, h3, h4, h5, h6⟩ := hb
      obtain ⟨-, rfl, hn⟩ := am_p_ok h1
      obtain ⟨g1, g2, g3⟩ := am_fit_ok h2
      obtain ⟨c1, c2, c3, -, n, c4, c5, -⟩ := hK2 q g1
      obtain ⟨d1, d2, -, -⟩ := c5 h4
      rw [h6] at c1
      have hC2 : ∀ as h Q, C q as h Q → am_Met l D cA base L0 X0 (am_y q) (am_cc q) (am_nl q) none (am_fr q) (am_lo q) (am_mc q) (am_ms q) as h Q := fun as h Q hq => by have := hC q as h Q g1 hq; rw [h6] at this; exact this
      rcases h3 with h3 | h3
      · exact aj_callI F h4n hC2 am_words_good c1 c2 ⟨c3.1, c3.2, c4⟩ hcN hcZ rfl rfl ⟨g2, g3⟩ d1 h5 (am_wd_ok h3) d2 hd hn hs
      · exact aj_callIN F h4n hC2 am_words_good c1 c2 ⟨c3.1, c3.2, c4⟩ hcN hcZ rfl rfl ⟨g2, g3⟩ d1 h5 (am_wn_ok h3) d2 hd hn hs
    · cases hb
  | invokestatic q =>
    simp only [am_ck] at hb
    split at hb
    · simp only [Bool.and_eq_true, decide_eq_true_eq] at hb
      obtain ⟨h1, h2, h3, h4⟩ := hb
      obtain ⟨-, rfl, hn⟩ := am_p_ok h1
      obtain ⟨g1, g2, g3⟩ := am_fit_ok h2
      obtain ⟨c1, c2, c3, -, n, c4, -, c5⟩ := hK2 q g1
      obtain ⟨d1, d2⟩ := c5 h4
      exact aj_callS F h4n (fun as h Q hq => hC q as h Q g1 hq) am_words_good c1 c2 ⟨c3.1, c3.2, c4⟩ hcN hcZ rfl rfl ⟨g2, g3⟩ d1 (am_wd_ok h3) d2 hd hn hs
    · cases hb
  | invokevirtual q =>
    simp only [am_ck] at hb
    split at hb
    · simp only [Bool.and_eq_true, decide_eq_true_eq] at hb
      obtain ⟨h1, h2, h3, h4, hv⟩ := hb
      obtain ⟨-, rfl, hn⟩ := am_p_ok h1
      obtain ⟨g1, g2, g3⟩ := am_fit_ok h2
      obtain ⟨c1, c2, c3, -, n, c4, c5, -⟩ := hK2 q g1
      obtain ⟨d1, d2, d3, T, N, d4⟩ := c5 h4
      have d3 := d3 hv
      exact aj_callV F h4n (fun as h Q hq => hC q as h Q g1 hq) am_words_good c1 c2 ⟨c3.1, c3.2, c4⟩ hcN hcZ rfl rfl ⟨g2, g3⟩ d1 h4 d4 (am_wd_ok h3) d2 d3 hd hn hs
    · cases hb
  | ior =>
    obtain ⟨rfl, rfl, hn⟩ := am_p_ok hb
    exact aj_ior F hd hn hs
  | irem =>
    obtain ⟨rfl, rfl, hn⟩ := am_p_ok hb
    exact aj_irem F hd hn hs
  | ireturn =>
    exact hret (Or.inl rfl) hs
  | ishl =>
    obtain ⟨rfl, rfl, hn⟩ := am_p_ok hb
    exact aj_ishl F hd hn hs
  | ishr =>
    obtain ⟨rfl, rfl, hn⟩ := am_p_ok hb
    exact aj_ishr F hd hn hs
  | istore j =>
    simp only [am_ck, Bool.or_eq_true, Bool.and_eq_true, decide_eq_true_eq] at hb
    obtain ⟨hj, hb⟩ := hb
    rcases hb with hb | hb
    · obtain ⟨rfl, rfl, hn⟩ := am_p_ok hb
      exact aj_istore F hj hd hn hs
    · split at hb
      · simp only [Bool.and_eq_true, decide_eq_true_eq] at hb
        obtain ⟨-, rfl, hn⟩ := am_p_ok hb.1
        exact aj_istoren F hb.2 hj hd hn hs
      · cases hb
  | istore_n _ => cases hb
  | isub =>
    obtain ⟨rfl, rfl, hn⟩ := am_p_ok hb
    exact aj_isub F hd hn hs
  | iushr =>
    obtain ⟨rfl, rfl, hn⟩ := am_p_ok hb
    exact aj_iushr F hd hn hs
  | ixor =>
    obtain ⟨rfl, rfl, hn⟩ := am_p_ok hb
    exact aj_ixor F hd hn hs
  | jsr _ => cases hb
  | jsr_w _ => cases hb
  | l2d => cases hb
  | l2f => cases hb
  | l2i =>
    obtain ⟨rfl, rfl, hn⟩ := am_p_ok hb
    exact aj_l2i F hd hn hs
  | ladd =>
    obtain ⟨rfl, rfl, hn⟩ := am_p_ok hb
    exact aj_ladd F hd hn hs
  | laload =>
    obtain ⟨rfl, rfl, hn⟩ := am_p_ok hb
    exact aj_laload F hd hn hs
  | land =>
    obtain ⟨rfl, rfl, hn⟩ := am_p_ok hb
    exact aj_land F hd hn hs
  | lastore =>
    obtain ⟨rfl, rfl, hn⟩ := am_p_ok hb
    exact aj_lastore F hd hn hs
  | lcmp =>
    obtain ⟨rfl, rfl, hn⟩ := am_p_ok hb
    exact aj_lcmp F hd hn hs
  | lconst _ => cases hb
  | ldc _ => cases hb
  | ldc_w _ => cases hb
  | ldc2_w _ => cases hb
  | ldiv =>
    obtain ⟨rfl, rfl, hn⟩ := am_p_ok hb
    exact aj_ldiv F hd hn hs
  | lload j =>
    simp only [am_ck, Bool.or_eq_true, Bool.and_eq_true, decide_eq_true_eq] at hb
    rcases hb with hb | hb
    · obtain ⟨rfl, rfl, hn⟩ := am_p_ok hb
      exact aj_lload F hd hn hs
    · split at hb
      · simp only [Bool.and_eq_true, decide_eq_true_eq] at hb
        obtain ⟨-, rfl, hn⟩ := am_p_ok hb.1
        exact aj_lloadn F hb.2 hd hn hs
      · cases hb
  | lload_n _ => cases hb
  | lmul =>
    obtain ⟨rfl, rfl, hn⟩ := am_p_ok hb
    exact aj_lmul F hd hn hs
  | lneg => cases hb
  | lookupswitch d ps =>
    simp only [am_ck] at hb
    split at hb
    · simp only [am_jt, Bool.and_eq_true, decide_eq_true_eq] at hb
      obtain ⟨h1, h2, h3, h4, h5⟩ := hb
      exact aj_tsw F h1 h2 h3 (am_tswb_ok _ _ _ h4) h5 hd hs
    · rw [Bool.and_eq_true, Bool.and_eq_true] at hb
      obtain ⟨h1, h4, h5⟩ := hb
      exact aj_lsw F h1 (am_lswb_ok _ _ h4) (of_decide_eq_true h5) hd hs
    · cases hb
  | lor =>
    obtain ⟨rfl, rfl, hn⟩ := am_p_ok hb
    exact aj_lor F hd hn hs
  | lrem => cases hb
  | lreturn =>
    exact hret (Or.inr (Or.inl rfl)) hs
  | lshl =>
    obtain ⟨rfl, rfl, hn⟩ := am_p_ok hb
    exact aj_lshl F hd hn hs
  | lshr =>
    obtain ⟨rfl, rfl, hn⟩ := am_p_ok hb
    exact aj_lshr F hd hn hs
  | lstore j =>
    simp only [am_ck, Bool.or_eq_true, Bool.and_eq_true, decide_eq_true_eq] at hb
    obtain ⟨hj, hb⟩ := hb
    rcases hb with hb | hb
    · obtain ⟨rfl, rfl, hn⟩ := am_p_ok hb
      exact aj_lstore F hj hd hn hs
    · split at hb
      · simp only [Bool.and_eq_true, decide_eq_true_eq] at hb
        obtain ⟨-, rfl, hn⟩ := am_p_ok hb.1
        exact aj_lstoren F hb.2 hj hd hn hs
      · cases hb
  | lstore_n _ => cases hb
  | lsub =>
    obtain ⟨rfl, rfl, hn⟩ := am_p_ok hb
    exact aj_lsub F hd hn hs
  | lushr =>
    obtain ⟨rfl, rfl, hn⟩ := am_p_ok hb
    exact aj_lushr F hd hn hs
  | lxor => cases hb
  | monitorenter => cases hb
  | monitorexit =>
    simp only [am_ck] at hb
    split at hb
    · simp only [Bool.and_eq_true, decide_eq_true_eq] at hb
      obtain ⟨h1, h2, h3, h4⟩ := hb
      obtain ⟨-, rfl, hn⟩ := am_p_ok h1
      exact aj_objInit F h2 h3 (am_wd_ok h4) (am_wi 0 rfl) (am_wi 1 rfl) hd hn hs
    · cases hb
  | multianewarray _ _ => cases hb
  | new q =>
    simp only [am_ck] at hb
    split at hb
    · simp only [Bool.and_eq_true, decide_eq_true_eq] at hb
      obtain ⟨h1, h2, h3⟩ := hb
      obtain ⟨-, rfl, hn⟩ := am_p_ok h1
      split at h3
      · rename_i Cn T N hcl
        simp only [Bool.and_eq_true, decide_eq_true_eq] at h3
        obtain ⟨rfl, h4⟩ := h3
        obtain ⟨k1, ty0, k2, k3, k4, k5, k6⟩ := am_kls_ok hcl
        exact aj_new F h2 hcl ty0 k2 k4 k1 (am_wd_ok h4) k5 k6 hcN hcZ hd hn hs
      · cases h3
    · cases hb
  | newarray _ => cases hb
  | nop => cases hb
  | pop =>
    obtain ⟨rfl, rfl, hn⟩ := am_p_ok hb
    exact aj_pop F hd hn hs
  | pop2 => cases hb
  | putfield q =>
    simp only [am_ck] at hb
    split at hb
    · rw [Bool.and_eq_true] at hb
      obtain ⟨-, rfl, hn⟩ := am_p_ok hb.1
      obtain ⟨Cn, T, N, h1, h2, h3, h4, h5, h6, ⟨ty, h7, h8⟩, h9, h10⟩ := am_fok_ok hb.2
      obtain ⟨k1, ty0, k2, k3, -⟩ := am_kls_ok h1
      have hty : ty0 (q % 100) = ty := Option.some.inj ((k2 _ h3).symm.trans h7)
      rw [Bool.and_eq_true] at h5
      have h8 : ty = .int := by simpa using h8
      subst h8
      cases hf : (T (q % 100)).2.2.2
      · exact aj_putI F h1 h2 h3 h4 k1 ty0 k2 k3 hty hf (by simpa using h5.1) (by simpa using h5.2) h6 hd hn hs
      · exact aj_putIF F h1 h2 h3 h4 k1 ty0 k2 k3 hty hf (hini (by rw [hf] at h9; simpa using h9)) (h10 hf) (by simpa using h5.1) (by simpa using h5.2) h6 hd hn hs
    · cases hb
  | putstatic q =>
    simp only [am_ck] at hb
    split at hb
    · rw [Bool.and_eq_true] at hb
      obtain ⟨-, rfl, hn⟩ := am_p_ok hb.1
      obtain ⟨Cn, T, N, h1, h2, h3, h4, h5, h6, ⟨ty, h7, h8⟩, h9, h10⟩ := am_fok_ok hb.2
      obtain ⟨k1, ty0, k2, k3, -⟩ := am_kls_ok h1
      have hty : ty0 (q % 100) = ty := Option.some.inj ((k2 _ h3).symm.trans h7)
      rw [Bool.and_eq_true] at h5
      have h8 : ty = .boolean := by simpa using h8
      subst h8
      cases hf : (T (q % 100)).2.2.2
      · exact aj_putZ F h1 h2 h3 h4 k1 ty0 k2 k3 hty hf (by simpa using h5.1) (by simpa using h5.2) h6 hd hn hs
      · exact aj_putZF F h1 h2 h3 h4 k1 ty0 k2 k3 hty hf (hini (by rw [hf] at h9; simpa using h9)) (h10 hf) (by simpa using h5.1) (by simpa using h5.2) h6 hd hn hs
    · cases hb
  | ret _ => cases hb
  | return_ =>
    exact hret (Or.inr (Or.inr (Or.inr rfl))) hs
  | saload => cases hb
  | sastore => cases hb
  | sipush _ => cases hb
  | swap => cases hb
  | tableswitch _ _ _ _ => cases hb
end AMX
