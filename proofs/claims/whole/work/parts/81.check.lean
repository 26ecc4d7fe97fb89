/-! ===== the check of the tables' rows ===== -/
def am_p (pcs : Nat → Nat) (k : Nat) (ri rr : Instr) (len n : Nat) : Bool := decide (ri = rr) && (decide (len = n) && decide (pcs (k + 1) = pcs k + n))
theorem am_p_ok {pcs : Nat → Nat} {k : Nat} {ri rr : Instr} {len n : Nat} (h : am_p pcs k ri rr len n = true) : ri = rr ∧ len = n ∧ pcs (k + 1) = pcs k + n := by simpa [am_p] using h
def am_wd (i : Nat) (w : Cond) : Bool := decide (lw_tbl[i]? = some w) && goodWord w
theorem am_wd_ok {i : Nat} {w : Cond} (h : am_wd i w = true) : w ∈ am_tbl := by
  rw [am_wd, Bool.and_eq_true, decide_eq_true_eq] at h
  exact List.mem_filter.mpr ⟨List.mem_of_getElem? h.1, h.2⟩
def am_wn (i : Nat) (w : Cond) : Bool := decide (lw_tbl[i]? = some w)
theorem am_wn_ok {i : Nat} {w : Cond} (h : am_wn i w = true) : w ∈ lw_tbl := List.mem_of_getElem? (of_decide_eq_true h)
def am_fok (q : Nat) (own : String) (idx hint : Nat) (kd : Nat → Bool) (fd : FieldType → Bool) (fin : Bool → Bool) : Bool := match am_cl[q / 100]? with
  | some (Cn, T, N) => decide (q / 100 < 50) && (decide (q % 100 < N) && (decide ((T (q % 100)).1 = Cn) && (kd ((am_fk.getD (q / 100) []).getD (q % 100) 0) && (am_wd hint (.fieldLink own idx Cn (T (q % 100)).2.1 (T (q % 100)).2.2.1) && ((match parseFieldDescriptor (T (q % 100)).2.2.1 with
    | some ty => fd ty
    | none => false) && (fin (T (q % 100)).2.2.2 && (!(T (q % 100)).2.2.2 || decide (Cn = own))))))))
  | none => false
def am_jt (pcs : Nat → Nat) (k : Nat) (off t : Int) : Bool := decide ((pcs k : Int) + off = (pcs t.toNat : Nat))
def am_tswb (pcs : Nat → Nat) (k : Nat) : Int → List Int → List (Int × Int) → Bool
  | _, [], [] => true
  | v, o :: os, (a, t) :: ps => decide (a = v) && (am_jt pcs k o t && am_tswb pcs k (v + 1) os ps)
  | _, _, _ => false
theorem am_tswb_ok {pcs : Nat → Nat} {k : Nat} : ∀ (v : Int) (os : List Int) (ps : List (Int × Int)), am_tswb pcs k v os ps = true → am_tsw pcs k v os ps
  | _, [], [], _ => trivial
  | _, [], _ :: _, h => by simp [am_tswb] at h
  | _, _ :: _, [], h => by simp [am_tswb] at h
  | v, o :: os, (a, t) :: ps, h => by
    simp only [am_tswb, am_jt, Bool.and_eq_true, decide_eq_true_eq] at h
    exact ⟨h.1, h.2.1, am_tswb_ok (v + 1) os ps h.2.2⟩
def am_lswb (pcs : Nat → Nat) (k : Nat) : List (Int × Int) → List (Int × Int) → Bool
  | [], [] => true
  | (b, o) :: os, (a, t) :: ps => decide (a = b) && (decide (-2147483648 ≤ a) && (decide (a < 2147483648) && (am_jt pcs k o t && am_lswb pcs k os ps)))
  | _, _ => false
theorem am_lswb_ok {pcs : Nat → Nat} {k : Nat} : ∀ (os ps : List (Int × Int)), am_lswb pcs k os ps = true → am_lsw pcs k os ps
  | [], [], _ => trivial
  | [], _ :: _, h => by simp [am_lswb] at h
  | _ :: _, [], h => by simp [am_lswb] at h
  | (b, o) :: os, (a, t) :: ps, h => by
    simp only [am_lswb, am_jt, Bool.and_eq_true, decide_eq_true_eq] at h
    exact ⟨h.1, h.2.1, h.2.2.1, h.2.2.2.1, am_lswb_ok os ps h.2.2.2.2⟩
def am_isref (ty : FieldType) : Bool := match ty with
  | .object _ => true
  | .array _ => true
  | _ => false
def am_NM : Nat := 271
/-- it is no constructor -/
noncomputable def am_vi (q : Nat) : Bool := decide (¬ (am_y q).name = "<init>")
/-- a call of the method q: its depth and its locals fit -/
noncomputable def am_fit (fr lo q : Nat) : Bool := decide (0 < q ∧ q < am_NM) && (decide (am_fr q + 1 ≤ fr) && decide (8 + (am_nl q + 11) + am_lo q ≤ lo))
noncomputable def am_ck (own : String) (nL fr lo : Nat) (ini : Bool) (rt : Option FieldType) (pcs : Nat → Nat) (k : Nat) (ri : Instr) (len hint : Nat) (ai : Instr) : Bool := match ai with
  | .iadd => am_p pcs k ri (.iadd) len 1
  | .isub => am_p pcs k ri (.isub) len 1
  | .imul => am_p pcs k ri (.imul) len 1
  | .idiv => am_p pcs k ri (.idiv) len 1
  | .irem => am_p pcs k ri (.irem) len 1
  | .iand => am_p pcs k ri (.iand) len 1
  | .ior => am_p pcs k ri (.ior) len 1
  | .ixor => am_p pcs k ri (.ixor) len 1
  | .ishl => am_p pcs k ri (.ishl) len 1
  | .ishr => am_p pcs k ri (.ishr) len 1
  | .iushr => am_p pcs k ri (.iushr) len 1
  | .ladd => am_p pcs k ri (.ladd) len 1
  | .lsub => am_p pcs k ri (.lsub) len 1
  | .lmul => am_p pcs k ri (.lmul) len 1
  | .ldiv => am_p pcs k ri (.ldiv) len 1
  | .land => am_p pcs k ri (.land) len 1
  | .lor => am_p pcs k ri (.lor) len 1
  | .lshl => am_p pcs k ri (.lshl) len 1
  | .lshr => am_p pcs k ri (.lshr) len 1
  | .lushr => am_p pcs k ri (.lushr) len 1
  | .lcmp => am_p pcs k ri (.lcmp) len 1
  | .i2l => am_p pcs k ri (.i2l) len 1
  | .i2b => am_p pcs k ri (.i2b) len 1
  | .l2i => am_p pcs k ri (.l2i) len 1
  | .dup => am_p pcs k ri (.dup) len 1
  | .dup2 => am_p pcs k ri (.dup2) len 1
  | .pop => am_p pcs k ri (.pop) len 1
  | .iaload => am_p pcs k ri (.iaload) len 1
  | .baload => am_p pcs k ri (.baload) len 1
  | .laload => am_p pcs k ri (.laload) len 1
  | .aaload => am_p pcs k ri (.aaload) len 1
  | .iastore => am_p pcs k ri (.iastore) len 1
  | .bastore => am_p pcs k ri (.bastore) len 1
  | .lastore => am_p pcs k ri (.lastore) len 1
  | .aastore => am_p pcs k ri (.aastore) len 1
  | .arraylength => am_p pcs k ri (.arraylength) len 1
  | .aconst_null => am_p pcs k ri (.aconst_null) len 1
  | .caload => am_p pcs k ri (.baload) len 1
  | .castore => am_p pcs k ri (.bastore) len 1
  | .iconst n => (am_p pcs k ri (.iconst n) len 1 || ((am_p pcs k ri (.bipush n) len 2 && decide ((Int8.ofInt n).toInt32 = Int32.ofInt n)) || ((am_p pcs k ri (.sipush n) len 3 && decide ((Int16.ofInt n).toInt32 = Int32.ofInt n)) || (match ri with
    | .ldc idx => am_p pcs k ri (.ldc idx) len 2 && am_wd hint (.constant own idx (Int32.ofInt n))
    | .ldc_w idx => am_p pcs k ri (.ldc_w idx) len 3 && am_wd hint (.constant own idx (Int32.ofInt n))
    | _ => false))))
  | .goto_w n => (match ri with
    | .lconst a => am_p pcs k ri (.lconst a) len 1 && decide (Int64.ofNat (a : Nat) = Int64.ofInt n)
    | .ldc2_w idx => am_p pcs k ri (.ldc2_w idx) len 3 && am_wd hint (.constantLong own idx (Int64.ofInt n))
    | _ => false)
  | .iload j => (am_p pcs k ri (.iload j) len 2 || (match ri with
    | .iload_n a => am_p pcs k ri (.iload_n a) len 1 && decide ((a : Nat) = j)
    | _ => false))
  | .istore j => (decide (j < nL) && (am_p pcs k ri (.istore j) len 2 || (match ri with
    | .istore_n a => am_p pcs k ri (.istore_n a) len 1 && decide ((a : Nat) = j)
    | _ => false)))
  | .lload j => (am_p pcs k ri (.lload j) len 2 || (match ri with
    | .lload_n a => am_p pcs k ri (.lload_n a) len 1 && decide ((a : Nat) = j)
    | _ => false))
  | .lstore j => (decide (j + 1 < nL) && (am_p pcs k ri (.lstore j) len 2 || (match ri with
    | .lstore_n a => am_p pcs k ri (.lstore_n a) len 1 && decide ((a : Nat) = j)
    | _ => false)))
  | .aload j => (am_p pcs k ri (.aload j) len 2 || (match ri with
    | .aload_n a => am_p pcs k ri (.aload_n a) len 1 && decide ((a : Nat) = j)
    | _ => false))
  | .astore j => (decide (j < nL) && (am_p pcs k ri (.astore j) len 2 || (match ri with
    | .astore_n a => am_p pcs k ri (.astore_n a) len 1 && decide ((a : Nat) = j)
    | _ => false)))
  | .iinc j n => (decide (j < nL) && am_p pcs k ri (.iinc j n) len 3)
  | .goto t => (match ri with
    | .goto off => decide (len = 3) && am_jt pcs k off t
    | _ => false)
  | .ifnull t => (match ri with
    | .ifnull off => am_p pcs k ri (.ifnull off) len 3 && am_jt pcs k off t
    | _ => false)
  | .ifnonnull t => (match ri with
    | .ifnonnull off => am_p pcs k ri (.ifnonnull off) len 3 && am_jt pcs k off t
    | _ => false)
  | .ifCond c t => (match ri with
    | .ifCond c2 off => decide (c2 = c) && (am_p pcs k ri (.ifCond c2 off) len 3 && am_jt pcs k off t)
    | _ => false)
  | .if_icmp c t => (match ri with
    | .if_icmp c2 off => decide (c2 = c) && (am_p pcs k ri (.if_icmp c2 off) len 3 && am_jt pcs k off t)
    | _ => false)
  | .lookupswitch d ps => (match ri with
    | .tableswitch dd lo hi offs => decide (-2147483648 ≤ lo) && (decide (hi + 1 = lo + offs.toList.length) && (decide (hi < 2147483648) && (am_tswb pcs k lo offs.toList ps.toList && am_jt pcs k dd d)))
    | .lookupswitch dd qs => (qs.toList.zip (qs.toList.drop 1)).all (fun (a, next) => a.1 < next.1) && (am_lswb pcs k qs.toList ps.toList && am_jt pcs k dd d)
    | _ => false)
  | .getfield q => (match ri with
    | .getfield idx => am_p pcs k ri (.getfield idx) len 3 && am_fok q own idx hint (fun a => decide (¬ a = 1) && decide (¬ a = 2)) (fun _ => true) (fun _ => true)
    | _ => false)
  | .fload q => (match ri with
    | .getfield idx => am_p pcs k ri (.getfield idx) len 3 && am_fok q own idx hint (fun a => decide (a = 1)) (fun _ => true) (fun _ => true)
    | _ => false)
  | .dload q => (match ri with
    | .getfield idx => am_p pcs k ri (.getfield idx) len 3 && am_fok q own idx hint (fun a => decide (a = 2)) (fun _ => true) (fun _ => true)
    | _ => false)
  | .putfield q => (match ri with
    | .putfield idx => am_p pcs k ri (.putfield idx) len 3 && am_fok q own idx hint (fun a => decide (¬ a = 1) && decide (¬ a = 2)) (fun ty => decide (ty = .int)) (fun f => !f || ini)
    | _ => false)
  | .putstatic q => (match ri with
    | .putfield idx => am_p pcs k ri (.putfield idx) len 3 && am_fok q own idx hint (fun a => decide (¬ a = 1) && decide (¬ a = 2)) (fun ty => decide (ty = .boolean)) (fun f => !f || ini)
    | _ => false)
  | .fstore q => (match ri with
    | .putfield idx => am_p pcs k ri (.putfield idx) len 3 && am_fok q own idx hint (fun a => decide (a = 1)) (fun ty => decide (ty = .long)) (fun f => !f || ini)
    | _ => false)
  | .dstore q => (match ri with
    | .putfield idx => am_p pcs k ri (.putfield idx) len 3 && am_fok q own idx hint (fun a => decide (a = 2)) am_isref (fun f => !f || ini)
    | _ => false)
  | .getstatic j => (match ri with
    | .getstatic idx => am_p pcs k ri (.getstatic idx) len 3 && (decide (j < 3) && am_wd hint (.fieldLink own idx (am_sf j).1 (am_sf j).2 "[I"))
    | _ => false)
  | .new q => (match ri with
    | .new idx => am_p pcs k ri (.new idx) len 3 && (decide (q / 100 < 50) && (match am_cl[q / 100]? with
      | some (Cn, _, N) => decide (N = q % 100) && am_wd hint (.classLink own idx Cn)
      | none => false))
    | _ => false)
  | .anewarray t => (match ri with
    | .newarray at0 => am_p pcs k ri (.newarray at0) len 2 && (decide (at0 = .int) && decide (t = 50) || (decide (at0 = .long) && decide (t = 51) || (decide (at0 = .byte) && decide (t = 52) || decide (at0 = .boolean) && decide (t = 53))))
    | .anewarray idx => am_p pcs k ri (.anewarray idx) len 3 && (decide (t = 54) && am_wd hint (.classLink own idx RX0))
    | _ => false)
  | .invokevirtual q => (match ri with
    | .invokevirtual idx => am_p pcs k ri (.invokevirtual idx) len 3 && (am_fit fr lo q && (am_wd hint (.methodLink own idx (am_y q)) && (decide (am_rc q < 50) && am_vi q)))
    | _ => false)
  | .invokestatic q => (match ri with
    | .invokestatic idx => am_p pcs k ri (.invokestatic idx) len 3 && (am_fit fr lo q && (am_wd hint (.methodLink own idx (am_y q)) && decide (am_rc q = 99)))
    | _ => false)
  | .invokespecial q => (match ri with
    | .invokespecial idx => am_p pcs k ri (.invokespecial idx) len 3 && (am_fit fr lo q && ((am_wd hint (.methodLink own idx (am_y q)) || am_wn hint (.methodLinkNest own idx (am_y q) "RelayHouse")) && (decide (am_rc q < 50) && (decide ((am_y q).name = "<init>") && decide (am_rt q = none)))))
    | _ => false)
  | .monitorexit => (match ri with
    | .invokespecial idx => am_p pcs k ri (.invokespecial idx) len 3 && (decide (1 ≤ fr) && (decide (20 ≤ lo) && am_wd hint (.methodLink own idx Lib.objectInit)))
    | _ => false)
  | .invokeinterface a b => (match ri with
    | .invokestatic idx => am_p pcs k ri (.invokestatic idx) len 3 && (decide (1 ≤ fr) && (decide (23 ≤ lo) && (decide (a = 0) && am_wd hint (.methodLink own idx Lib.Math.max.name) || (decide (a = 1) && am_wd hint (.methodLink own idx Lib.Math.min.name) || (decide (a = 2) && am_wd hint (.methodLink own idx Lib.MathLoose.max_long.x) || decide (a = 3) && am_wd hint (.methodLink own idx Lib.MathLoose.min_long.x))))))
    | _ => false)
  | .invokedynamic a => (match ri with
    | .invokestatic idx => am_p pcs k ri (.invokestatic idx) len 3 && (decide (1 ≤ fr) && (decide (8 + (nativeFrameWords "java/lang/System" "arraycopy" 5 + 11) ≤ lo) && (am_wd hint (.methodLink own idx arraycopyName) && (decide (a = 0) || decide (a = 1)))))
    | _ => false)
  | .ireturn => (decide (ri = .ireturn) && (decide (len = 1) && (decide (rt = some .int) || decide (rt = some .boolean))))
  | .lreturn => (decide (ri = .lreturn) && (decide (len = 1) && decide (rt = some .long)))
  | .areturn => (decide (ri = .areturn) && (decide (len = 1) && (match rt with
    | some (.object _) => true
    | _ => false)))
  | .return_ => (decide (ri = .return_) && (decide (len = 1) && decide (rt = none)))
  | _ => false
