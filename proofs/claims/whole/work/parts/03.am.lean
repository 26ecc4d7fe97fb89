/-! ===== THE SMALL MACHINE: cells have places 0, 1, 2 ..; what is held lies in three tables (ints, longs, references by place), by place and slot; a shape list says what a place is: (class, fields) or (50 int[], 51 long[], 52 byte[], 53 boolean[], 54 references; length). The places 0 .. 3 are arrays that nobody writes (three static ones, the script). Instructions are carried by Instr, with operands of my own. ===== -/
abbrev am_H : Type := List (Nat × Nat) × (Nat → Nat → Int32) × (Nat → Nat → Int64) × (Nat → Nat → Option Nat)
def am_u {α : Type} (f : Nat → Nat → α) (p k : Nat) (v : α) : Nat → Nat → α := va_up f p (va_up (f p) k v)
def am_sl (sh : List (Nat × Nat)) : Nat := (sh.map (fun q => q.2)).sum
/-- a local's store: a long ahead of it is broken -/
def am_k (ls : List (Option Value)) (i : Nat) : List (Option Value) := match i with
  | 0 => ls
  | j + 1 => match ls[j]? with
    | some (some v) => if v.category = 2 then ls.set j none else ls
    | _ => ls
def am_set1 (ls : List (Option Value)) (i : Nat) (v : Value) : List (Option Value) := (am_k ls i).set i (some v)
def am_set2 (ls : List (Option Value)) (i : Nat) (v : Value) : List (Option Value) := ((am_k ls i).set i (some v)).set (i + 1) none
def am_slots : List Value → List (Option Value)
  | [] => []
  | v :: l => if v.category = 2 then some v :: none :: am_slots l else some v :: am_slots l
def am_ent (as : List Value) (n : Nat) : List (Option Value) := am_slots as ++ List.replicate (n - (am_slots as).length) none
def am_nth : List Instr → Nat → Instr
  | [], _ => .nop
  | a :: _, 0 => a
  | _ :: l, k + 1 => am_nth l k
def am_cat (st : List Value) : Nat := (st.map fun v => v.category).sum
/-- a switch's target -/
def am_sw (d : Int) (x : Int32) : List (Int × Int) → Int
  | [] => d
  | (a, t) :: l => if x = Int32.ofInt a then t else am_sw d x l
def am_cond (c : Jvm.ClassFile.Cond) (x y : Int32) : Prop := match c with
  | .eq => x = y
  | .ne => ¬ x = y
  | .lt => x < y
  | .ge => y ≤ x
  | .gt => y < x
  | .le => x ≤ y
abbrev am_X : Type := Nat → List (Option Value) → List Value → am_H → Prop
abbrev am_Q : Type := Option Value → am_H → Prop
abbrev am_C : Type := Nat → List Value → am_H → am_Q → Prop
/-- the receiver's class (99: none), how many arguments (the receiver with them) -/
def am_step (rc na mcT msT : Nat → Nat) (cN cZ : Nat) (C : am_C) (Z : am_Q) (X : am_X) (k : Nat) (ls : List (Option Value)) (st : List Value) (h : am_H) : Instr → Prop
  | .iconst n => X (k + 1) ls (.int (Int32.ofInt n) :: st) h
  | .goto_w n => X (k + 1) ls (.long (Int64.ofInt n) :: st) h
  | .aconst_null => X (k + 1) ls (.null :: st) h
  | .iload j => ∃ x, ls[j]? = some (some (.int x)) ∧ X (k + 1) ls (.int x :: st) h
  | .lload j => ∃ x, ls[j]? = some (some (.long x)) ∧ X (k + 1) ls (.long x :: st) h
  | .aload j => (∃ x, ls[j]? = some (some (.ref x)) ∧ X (k + 1) ls (.ref x :: st) h) ∨ (ls[j]? = some (some .null) ∧ X (k + 1) ls (.null :: st) h)
  | .istore j => ∃ x st', st = .int x :: st' ∧ X (k + 1) (am_set1 ls j (.int x)) st' h
  | .lstore j => ∃ x st', st = .long x :: st' ∧ X (k + 1) (am_set2 ls j (.long x)) st' h
  | .astore j => (∃ x st', st = .ref x :: st' ∧ X (k + 1) (am_set1 ls j (.ref x)) st' h) ∨ ∃ st', st = .null :: st' ∧ X (k + 1) (am_set1 ls j .null) st' h
  | .iinc j n => ∃ x, ls[j]? = some (some (.int x)) ∧ X (k + 1) (am_set1 ls j (.int (x + Int32.ofInt n))) st h
  | .iadd => ∃ x y st', st = .int y :: .int x :: st' ∧ X (k + 1) ls (.int (x + y) :: st') h
  | .isub => ∃ x y st', st = .int y :: .int x :: st' ∧ X (k + 1) ls (.int (x - y) :: st') h
  | .imul => ∃ x y st', st = .int y :: .int x :: st' ∧ X (k + 1) ls (.int (x * y) :: st') h
  | .idiv => ∃ x y st', st = .int y :: .int x :: st' ∧ ¬ y = 0 ∧ X (k + 1) ls (.int (x / y) :: st') h
  | .irem => ∃ x y st', st = .int y :: .int x :: st' ∧ ¬ y = 0 ∧ X (k + 1) ls (.int (x - x / y * y) :: st') h
  | .iand => ∃ x y st', st = .int y :: .int x :: st' ∧ X (k + 1) ls (.int (x &&& y) :: st') h
  | .ior => ∃ x y st', st = .int y :: .int x :: st' ∧ X (k + 1) ls (.int (x ||| y) :: st') h
  | .ixor => ∃ x y st', st = .int y :: .int x :: st' ∧ X (k + 1) ls (.int (x ^^^ y) :: st') h
  | .ishl => ∃ x y st', st = .int y :: .int x :: st' ∧ X (k + 1) ls (.int (x <<< (y &&& 31)) :: st') h
  | .ishr => ∃ x y st', st = .int y :: .int x :: st' ∧ X (k + 1) ls (.int (x >>> (y &&& 31)) :: st') h
  | .iushr => ∃ x y st', st = .int y :: .int x :: st' ∧ X (k + 1) ls (.int (x.toUInt32 >>> (y.toUInt32 &&& Int32.toUInt32 31)).toInt32 :: st') h
  | .ladd => ∃ x y st', st = .long y :: .long x :: st' ∧ X (k + 1) ls (.long (x + y) :: st') h
  | .lsub => ∃ x y st', st = .long y :: .long x :: st' ∧ X (k + 1) ls (.long (x - y) :: st') h
  | .lmul => ∃ x y st', st = .long y :: .long x :: st' ∧ X (k + 1) ls (.long (x * y) :: st') h
  | .ldiv => ∃ x y st', st = .long y :: .long x :: st' ∧ ¬ y = 0 ∧ X (k + 1) ls (.long (x / y) :: st') h
  | .land => ∃ x y st', st = .long y :: .long x :: st' ∧ X (k + 1) ls (.long (x &&& y) :: st') h
  | .lor => ∃ x y st', st = .long y :: .long x :: st' ∧ X (k + 1) ls (.long (x ||| y) :: st') h
  | .lshl => ∃ x y st', st = .int y :: .long x :: st' ∧ X (k + 1) ls (.long (x <<< (y.toInt64 &&& 63)) :: st') h
  | .lshr => ∃ x y st', st = .int y :: .long x :: st' ∧ X (k + 1) ls (.long (x >>> (y.toInt64 &&& 63)) :: st') h
  | .lushr => ∃ x y st', st = .int y :: .long x :: st' ∧ X (k + 1) ls (.long (x.toUInt64 >>> (y.toInt64.toUInt64 &&& Int64.toUInt64 63)).toInt64 :: st') h
  | .lcmp => ∃ x y st', st = .long y :: .long x :: st' ∧ X (k + 1) ls (.int (lg_cmp x y) :: st') h
  | .i2l => ∃ x st', st = .int x :: st' ∧ X (k + 1) ls (.long x.toInt64 :: st') h
  | .i2b => ∃ x st', st = .int x :: st' ∧ X (k + 1) ls (.int x.toInt8.toInt32 :: st') h
  | .l2i => ∃ x st', st = .long x :: st' ∧ X (k + 1) ls (.int x.toInt32 :: st') h
  | .dup => ∃ v st', st = v :: st' ∧ v.category = 1 ∧ X (k + 1) ls (v :: v :: st') h
  | .dup2 => ∃ v w st', st = v :: w :: st' ∧ v.category = 1 ∧ w.category = 1 ∧ X (k + 1) ls (v :: w :: v :: w :: st') h
  | .pop => ∃ v st', st = v :: st' ∧ v.category = 1 ∧ X (k + 1) ls st' h
  | .goto t => X t.toNat ls st h
  | .ifCond c t => ∃ x st', st = .int x :: st' ∧ (am_cond c x 0 → X t.toNat ls st' h) ∧ (¬ am_cond c x 0 → X (k + 1) ls st' h)
  | .if_icmp c t => ∃ x y st', st = .int y :: .int x :: st' ∧ (am_cond c x y → X t.toNat ls st' h) ∧ (¬ am_cond c x y → X (k + 1) ls st' h)
  | .ifnull t => (∃ x st', st = .ref x :: st' ∧ X (k + 1) ls st' h) ∨ ∃ st', st = .null :: st' ∧ X t.toNat ls st' h
  | .ifnonnull t => (∃ x st', st = .ref x :: st' ∧ X t.toNat ls st' h) ∨ ∃ st', st = .null :: st' ∧ X (k + 1) ls st' h
  | .lookupswitch d ps => ∃ x st', st = .int x :: st' ∧ X (am_sw d x ps.toList).toNat ls st' h
  -- fields: 100 * class + slot; ints (booleans too), longs, references
  | .getfield q => ∃ p n st', st = .ref p :: st' ∧ h.1[p]? = some (q / 100, n) ∧ X (k + 1) ls (.int (h.2.1 p (q % 100)) :: st') h
  | .fload q => ∃ p n st', st = .ref p :: st' ∧ h.1[p]? = some (q / 100, n) ∧ X (k + 1) ls (.long (h.2.2.1 p (q % 100)) :: st') h
  | .dload q => ∃ p n st', st = .ref p :: st' ∧ h.1[p]? = some (q / 100, n) ∧ X (k + 1) ls (va_rf (h.2.2.2 p (q % 100)) :: st') h
  | .putfield q => ∃ p n x st', st = .int x :: .ref p :: st' ∧ h.1[p]? = some (q / 100, n) ∧ X (k + 1) ls st' (h.1, am_u h.2.1 p (q % 100) x, h.2.2)
  | .putstatic q => ∃ p n x st', st = .int x :: .ref p :: st' ∧ (x = 0 ∨ x = 1) ∧ h.1[p]? = some (q / 100, n) ∧ X (k + 1) ls st' (h.1, am_u h.2.1 p (q % 100) x, h.2.2)
  | .fstore q => ∃ p n x st', st = .long x :: .ref p :: st' ∧ h.1[p]? = some (q / 100, n) ∧ X (k + 1) ls st' (h.1, h.2.1, am_u h.2.2.1 p (q % 100) x, h.2.2.2)
  | .dstore q => ∃ p n r st', st = va_rf r :: .ref p :: st' ∧ h.1[p]? = some (q / 100, n) ∧ X (k + 1) ls st' (h.1, h.2.1, h.2.2.1, am_u h.2.2.2 p (q % 100) r)
  | .iaload => ∃ p n i st', st = .int i :: .ref p :: st' ∧ h.1[p]? = some (50, n) ∧ vp_in i n ∧ X (k + 1) ls (.int (h.2.1 p i.toNatClampNeg) :: st') h
  | .baload => ∃ p n i st', st = .int i :: .ref p :: st' ∧ h.1[p]? = some (52, n) ∧ vp_in i n ∧ X (k + 1) ls (.int (h.2.1 p i.toNatClampNeg) :: st') h
  | .caload => ∃ p n i st', st = .int i :: .ref p :: st' ∧ h.1[p]? = some (53, n) ∧ vp_in i n ∧ X (k + 1) ls (.int (h.2.1 p i.toNatClampNeg) :: st') h
  | .laload => ∃ p n i st', st = .int i :: .ref p :: st' ∧ h.1[p]? = some (51, n) ∧ vp_in i n ∧ X (k + 1) ls (.long (h.2.2.1 p i.toNatClampNeg) :: st') h
  | .aaload => ∃ p n i st', st = .int i :: .ref p :: st' ∧ h.1[p]? = some (54, n) ∧ vp_in i n ∧ X (k + 1) ls (va_rf (h.2.2.2 p i.toNatClampNeg) :: st') h
  | .iastore => ∃ p n i x st', st = .int x :: .int i :: .ref p :: st' ∧ 4 ≤ p ∧ h.1[p]? = some (50, n) ∧ vp_in i n ∧ X (k + 1) ls st' (h.1, am_u h.2.1 p i.toNatClampNeg x, h.2.2)
  | .bastore => ∃ p n i x st', st = .int x :: .int i :: .ref p :: st' ∧ h.1[p]? = some (52, n) ∧ vp_in i n ∧ X (k + 1) ls st' (h.1, am_u h.2.1 p i.toNatClampNeg (vp_nar .byte x), h.2.2)
  | .castore => ∃ p n i x st', st = .int x :: .int i :: .ref p :: st' ∧ h.1[p]? = some (53, n) ∧ vp_in i n ∧ X (k + 1) ls st' (h.1, am_u h.2.1 p i.toNatClampNeg (vp_nar .boolean x), h.2.2)
  | .lastore => ∃ p n i x st', st = .long x :: .int i :: .ref p :: st' ∧ h.1[p]? = some (51, n) ∧ vp_in i n ∧ X (k + 1) ls st' (h.1, h.2.1, am_u h.2.2.1 p i.toNatClampNeg x, h.2.2.2)
  | .aastore => ∃ p n i r m st', st = .ref r :: .int i :: .ref p :: st' ∧ h.1[p]? = some (54, n) ∧ h.1[r]? = some (0, m) ∧ vp_in i n ∧ X (k + 1) ls st' (h.1, h.2.1, h.2.2.1, am_u h.2.2.2 p i.toNatClampNeg (some r))
  | .arraylength => ∃ p t n st', st = .ref p :: st' ∧ h.1[p]? = some (t, n) ∧ 50 ≤ t ∧ t ≤ 54 ∧ X (k + 1) ls (.int (Int32.ofNat n) :: st') h
  | .getstatic j => X (k + 1) ls (.ref j :: st) h
  -- new cells: 100 * class + fields
  | .new q => h.1.length + 1 ≤ cN ∧ am_sl h.1 + q % 100 ≤ cZ ∧ X (k + 1) ls (.ref h.1.length :: st) (h.1 ++ [(q / 100, q % 100)], va_up h.2.1 h.1.length (fun _ => 0), va_up h.2.2.1 h.1.length (fun _ => 0), va_up h.2.2.2 h.1.length (fun _ => none))
  | .anewarray t => ∃ i st', st = .int i :: st' ∧ ¬ i < 0 ∧ i.toNatClampNeg ≤ 1000000 ∧ h.1.length + 1 ≤ cN ∧ am_sl h.1 + i.toNatClampNeg ≤ cZ ∧ X (k + 1) ls (.ref h.1.length :: st') (h.1 ++ [(t, i.toNatClampNeg)], va_up h.2.1 h.1.length (fun _ => 0), va_up h.2.2.1 h.1.length (fun _ => 0), va_up h.2.2.2 h.1.length (fun _ => none))
  -- calls
  | .invokevirtual q => ∃ as p n st', st = as.reverse ++ .ref p :: st' ∧ as.length + 1 = na q ∧ am_cat st' ≤ 8 ∧ h.1[p]? = some (rc q, n) ∧ (mcT q = 0 ∧ msT q = 0 ∨ h.1.length + mcT q ≤ cN ∧ am_sl h.1 + msT q ≤ cZ) ∧ C q (.ref p :: as) h (fun r h' => X (k + 1) ls (r.toList ++ st') h')
  | .invokestatic q => ∃ as st', st = as.reverse ++ st' ∧ as.length = na q ∧ am_cat st' ≤ 8 ∧ (mcT q = 0 ∧ msT q = 0 ∨ h.1.length + mcT q ≤ cN ∧ am_sl h.1 + msT q ≤ cZ) ∧ C q as h (fun r h' => X (k + 1) ls (r.toList ++ st') h')
  | .invokespecial q => ∃ as p n st', st = as.reverse ++ .ref p :: st' ∧ as.length + 1 = na q ∧ am_cat st' ≤ 8 ∧ h.1[p]? = some (rc q, n) ∧ (mcT q = 0 ∧ msT q = 0 ∨ h.1.length + mcT q ≤ cN ∧ am_sl h.1 + msT q ≤ cZ) ∧ C q (.ref p :: as) h (fun r h' => X (k + 1) ls (r.toList ++ st') h')
  | .monitorexit => ∃ p st', st = .ref p :: st' ∧ am_cat st' ≤ 8 ∧ X (k + 1) ls st' h
  | .invokeinterface 0 _ => ∃ x y st', st = .int y :: .int x :: st' ∧ am_cat st' ≤ 8 ∧ X (k + 1) ls (.int (if x < y then y else x) :: st') h
  | .invokeinterface 1 _ => ∃ x y st', st = .int y :: .int x :: st' ∧ am_cat st' ≤ 8 ∧ X (k + 1) ls (.int (if y < x then y else x) :: st') h
  | .invokeinterface 2 _ => ∃ x y st', st = .long y :: .long x :: st' ∧ am_cat st' ≤ 8 ∧ X (k + 1) ls (.long (if y < x then x else y) :: st') h
  | .invokeinterface 3 _ => ∃ x y st', st = .long y :: .long x :: st' ∧ am_cat st' ≤ 8 ∧ X (k + 1) ls (.long (if y < x then y else x) :: st') h
  -- System.arraycopy, of bytes, of ints out of one of the places 0 .. 3
  | .invokedynamic 0 => ∃ a b n0 n1 sp dp n st', st = .int n :: .int dp :: .ref b :: .int sp :: .ref a :: st' ∧ am_cat st' ≤ 8 ∧ h.1[a]? = some (52, n0) ∧ h.1[b]? = some (52, n1) ∧ ¬ sp < 0 ∧ ¬ dp < 0 ∧ ¬ n < 0 ∧ sp.toNatClampNeg + n.toNatClampNeg ≤ n0 ∧ dp.toNatClampNeg + n.toNatClampNeg ≤ n1 ∧ (∀ i, i < n.toNatClampNeg → fits .byte (.int (h.2.1 a (sp.toNatClampNeg + i))) = true) ∧ X (k + 1) ls st' (h.1, va_up h.2.1 b (va_cpy (h.2.1 a) (h.2.1 b) sp.toNatClampNeg dp.toNatClampNeg n.toNatClampNeg), h.2.2)
  | .invokedynamic 1 => ∃ a b n0 n1 sp dp n st', st = .int n :: .int dp :: .ref b :: .int sp :: .ref a :: st' ∧ am_cat st' ≤ 8 ∧ a < 4 ∧ 4 ≤ b ∧ h.1[a]? = some (50, n0) ∧ h.1[b]? = some (50, n1) ∧ ¬ sp < 0 ∧ ¬ dp < 0 ∧ ¬ n < 0 ∧ sp.toNatClampNeg + n.toNatClampNeg ≤ n0 ∧ dp.toNatClampNeg + n.toNatClampNeg ≤ n1 ∧ X (k + 1) ls st' (h.1, va_up h.2.1 b (va_cpy (h.2.1 a) (h.2.1 b) sp.toNatClampNeg dp.toNatClampNeg n.toNatClampNeg), h.2.2)
  | .ireturn => ∃ x, st = [.int x] ∧ Z (some (.int x)) h
  | .lreturn => ∃ x, st = [.long x] ∧ Z (some (.long x)) h
  | .areturn => ∃ r, st = [va_rf r] ∧ Z (some (va_rf r)) h
  | .return_ => st = [] ∧ Z none h
  | _ => False
/-- from here the method comes to its end, with Z: the least such -/
def am_WP (rc na mcT msT : Nat → Nat) (cN cZ : Nat) (cs : List Instr) (C : am_C) (Z : am_Q) (k : Nat) (ls : List (Option Value)) (st : List Value) (h : am_H) : Prop :=
  ∀ X : am_X, (∀ k ls st h, am_step rc na mcT msT cN cZ C Z X k ls st h (am_nth cs k) → X k ls st h) → X k ls st h
