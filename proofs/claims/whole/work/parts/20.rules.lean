/-! ===== the small machine's rules ===== -/
section WPR
variable {cN cZ : Nat} {cs : List Instr} {C : am_C} {Z : am_Q} {k : Nat} {ls : List (Option Value)} {st : List Value} {h : am_H}
theorem wp_iadd {x y : Int32} (hc : am_nth cs k = .iadd)  (hn : am_WP am_rc am_na am_mc am_ms cN cZ cs C Z (k + 1) ls (.int (x + y) :: st) h) : am_WP am_rc am_na am_mc am_ms cN cZ cs C Z k ls (.int y :: .int x :: st) h :=
  fun X hX => hX _ _ _ _ (by rw [hc]; exact ⟨x, y, st, rfl, hn X hX⟩)
theorem wp_isub {x y : Int32} (hc : am_nth cs k = .isub)  (hn : am_WP am_rc am_na am_mc am_ms cN cZ cs C Z (k + 1) ls (.int (x - y) :: st) h) : am_WP am_rc am_na am_mc am_ms cN cZ cs C Z k ls (.int y :: .int x :: st) h :=
  fun X hX => hX _ _ _ _ (by rw [hc]; exact ⟨x, y, st, rfl, hn X hX⟩)
theorem wp_imul {x y : Int32} (hc : am_nth cs k = .imul)  (hn : am_WP am_rc am_na am_mc am_ms cN cZ cs C Z (k + 1) ls (.int (x * y) :: st) h) : am_WP am_rc am_na am_mc am_ms cN cZ cs C Z k ls (.int y :: .int x :: st) h :=
  fun X hX => hX _ _ _ _ (by rw [hc]; exact ⟨x, y, st, rfl, hn X hX⟩)
theorem wp_iand {x y : Int32} (hc : am_nth cs k = .iand)  (hn : am_WP am_rc am_na am_mc am_ms cN cZ cs C Z (k + 1) ls (.int (x &&& y) :: st) h) : am_WP am_rc am_na am_mc am_ms cN cZ cs C Z k ls (.int y :: .int x :: st) h :=
  fun X hX => hX _ _ _ _ (by rw [hc]; exact ⟨x, y, st, rfl, hn X hX⟩)
theorem wp_ior {x y : Int32} (hc : am_nth cs k = .ior)  (hn : am_WP am_rc am_na am_mc am_ms cN cZ cs C Z (k + 1) ls (.int (x ||| y) :: st) h) : am_WP am_rc am_na am_mc am_ms cN cZ cs C Z k ls (.int y :: .int x :: st) h :=
  fun X hX => hX _ _ _ _ (by rw [hc]; exact ⟨x, y, st, rfl, hn X hX⟩)
theorem wp_ixor {x y : Int32} (hc : am_nth cs k = .ixor)  (hn : am_WP am_rc am_na am_mc am_ms cN cZ cs C Z (k + 1) ls (.int (x ^^^ y) :: st) h) : am_WP am_rc am_na am_mc am_ms cN cZ cs C Z k ls (.int y :: .int x :: st) h :=
  fun X hX => hX _ _ _ _ (by rw [hc]; exact ⟨x, y, st, rfl, hn X hX⟩)
theorem wp_ishl {x y : Int32} (hc : am_nth cs k = .ishl)  (hn : am_WP am_rc am_na am_mc am_ms cN cZ cs C Z (k + 1) ls (.int (x <<< (y &&& 31)) :: st) h) : am_WP am_rc am_na am_mc am_ms cN cZ cs C Z k ls (.int y :: .int x :: st) h :=
  fun X hX => hX _ _ _ _ (by rw [hc]; exact ⟨x, y, st, rfl, hn X hX⟩)
theorem wp_ishr {x y : Int32} (hc : am_nth cs k = .ishr)  (hn : am_WP am_rc am_na am_mc am_ms cN cZ cs C Z (k + 1) ls (.int (x >>> (y &&& 31)) :: st) h) : am_WP am_rc am_na am_mc am_ms cN cZ cs C Z k ls (.int y :: .int x :: st) h :=
  fun X hX => hX _ _ _ _ (by rw [hc]; exact ⟨x, y, st, rfl, hn X hX⟩)
theorem wp_iushr {x y : Int32} (hc : am_nth cs k = .iushr)  (hn : am_WP am_rc am_na am_mc am_ms cN cZ cs C Z (k + 1) ls (.int ((x.toUInt32 >>> (y.toUInt32 &&& Int32.toUInt32 31)).toInt32) :: st) h) : am_WP am_rc am_na am_mc am_ms cN cZ cs C Z k ls (.int y :: .int x :: st) h :=
  fun X hX => hX _ _ _ _ (by rw [hc]; exact ⟨x, y, st, rfl, hn X hX⟩)
theorem wp_idiv {x y : Int32} (hc : am_nth cs k = .idiv) (h0 : ¬ y = 0) (hn : am_WP am_rc am_na am_mc am_ms cN cZ cs C Z (k + 1) ls (.int (x / y) :: st) h) : am_WP am_rc am_na am_mc am_ms cN cZ cs C Z k ls (.int y :: .int x :: st) h :=
  fun X hX => hX _ _ _ _ (by rw [hc]; exact ⟨x, y, st, rfl, h0, hn X hX⟩)
theorem wp_irem {x y : Int32} (hc : am_nth cs k = .irem) (h0 : ¬ y = 0) (hn : am_WP am_rc am_na am_mc am_ms cN cZ cs C Z (k + 1) ls (.int (x - x / y * y) :: st) h) : am_WP am_rc am_na am_mc am_ms cN cZ cs C Z k ls (.int y :: .int x :: st) h :=
  fun X hX => hX _ _ _ _ (by rw [hc]; exact ⟨x, y, st, rfl, h0, hn X hX⟩)
theorem wp_ladd {x y : Int64} (hc : am_nth cs k = .ladd)  (hn : am_WP am_rc am_na am_mc am_ms cN cZ cs C Z (k + 1) ls (.long (x + y) :: st) h) : am_WP am_rc am_na am_mc am_ms cN cZ cs C Z k ls (.long y :: .long x :: st) h :=
  fun X hX => hX _ _ _ _ (by rw [hc]; exact ⟨x, y, st, rfl, hn X hX⟩)
theorem wp_lsub {x y : Int64} (hc : am_nth cs k = .lsub)  (hn : am_WP am_rc am_na am_mc am_ms cN cZ cs C Z (k + 1) ls (.long (x - y) :: st) h) : am_WP am_rc am_na am_mc am_ms cN cZ cs C Z k ls (.long y :: .long x :: st) h :=
  fun X hX => hX _ _ _ _ (by rw [hc]; exact ⟨x, y, st, rfl, hn X hX⟩)
theorem wp_lmul {x y : Int64} (hc : am_nth cs k = .lmul)  (hn : am_WP am_rc am_na am_mc am_ms cN cZ cs C Z (k + 1) ls (.long (x * y) :: st) h) : am_WP am_rc am_na am_mc am_ms cN cZ cs C Z k ls (.long y :: .long x :: st) h :=
  fun X hX => hX _ _ _ _ (by rw [hc]; exact ⟨x, y, st, rfl, hn X hX⟩)
theorem wp_land {x y : Int64} (hc : am_nth cs k = .land)  (hn : am_WP am_rc am_na am_mc am_ms cN cZ cs C Z (k + 1) ls (.long (x &&& y) :: st) h) : am_WP am_rc am_na am_mc am_ms cN cZ cs C Z k ls (.long y :: .long x :: st) h :=
  fun X hX => hX _ _ _ _ (by rw [hc]; exact ⟨x, y, st, rfl, hn X hX⟩)
theorem wp_lor {x y : Int64} (hc : am_nth cs k = .lor)  (hn : am_WP am_rc am_na am_mc am_ms cN cZ cs C Z (k + 1) ls (.long (x ||| y) :: st) h) : am_WP am_rc am_na am_mc am_ms cN cZ cs C Z k ls (.long y :: .long x :: st) h :=
  fun X hX => hX _ _ _ _ (by rw [hc]; exact ⟨x, y, st, rfl, hn X hX⟩)
theorem wp_ldiv {x y : Int64} (hc : am_nth cs k = .ldiv) (h0 : ¬ y = 0) (hn : am_WP am_rc am_na am_mc am_ms cN cZ cs C Z (k + 1) ls (.long (x / y) :: st) h) : am_WP am_rc am_na am_mc am_ms cN cZ cs C Z k ls (.long y :: .long x :: st) h :=
  fun X hX => hX _ _ _ _ (by rw [hc]; exact ⟨x, y, st, rfl, h0, hn X hX⟩)
theorem wp_lshl {x : Int64} {y : Int32} (hc : am_nth cs k = .lshl)  (hn : am_WP am_rc am_na am_mc am_ms cN cZ cs C Z (k + 1) ls (.long (x <<< (y.toInt64 &&& 63)) :: st) h) : am_WP am_rc am_na am_mc am_ms cN cZ cs C Z k ls (.int y :: .long x :: st) h :=
  fun X hX => hX _ _ _ _ (by rw [hc]; exact ⟨x, y, st, rfl, hn X hX⟩)
theorem wp_lshr {x : Int64} {y : Int32} (hc : am_nth cs k = .lshr)  (hn : am_WP am_rc am_na am_mc am_ms cN cZ cs C Z (k + 1) ls (.long (x >>> (y.toInt64 &&& 63)) :: st) h) : am_WP am_rc am_na am_mc am_ms cN cZ cs C Z k ls (.int y :: .long x :: st) h :=
  fun X hX => hX _ _ _ _ (by rw [hc]; exact ⟨x, y, st, rfl, hn X hX⟩)
theorem wp_lushr {x : Int64} {y : Int32} (hc : am_nth cs k = .lushr)  (hn : am_WP am_rc am_na am_mc am_ms cN cZ cs C Z (k + 1) ls (.long ((x.toUInt64 >>> (y.toInt64.toUInt64 &&& Int64.toUInt64 63)).toInt64) :: st) h) : am_WP am_rc am_na am_mc am_ms cN cZ cs C Z k ls (.int y :: .long x :: st) h :=
  fun X hX => hX _ _ _ _ (by rw [hc]; exact ⟨x, y, st, rfl, hn X hX⟩)
theorem wp_lcmp {x y : Int64} (hc : am_nth cs k = .lcmp)  (hn : am_WP am_rc am_na am_mc am_ms cN cZ cs C Z (k + 1) ls (.int (lg_cmp x y) :: st) h) : am_WP am_rc am_na am_mc am_ms cN cZ cs C Z k ls (.long y :: .long x :: st) h :=
  fun X hX => hX _ _ _ _ (by rw [hc]; exact ⟨x, y, st, rfl, hn X hX⟩)
theorem wp_i2l {x : Int32} (hc : am_nth cs k = .i2l)  (hn : am_WP am_rc am_na am_mc am_ms cN cZ cs C Z (k + 1) ls (.long x.toInt64 :: st) h) : am_WP am_rc am_na am_mc am_ms cN cZ cs C Z k ls (.int x :: st) h :=
  fun X hX => hX _ _ _ _ (by rw [hc]; exact ⟨x, st, rfl, hn X hX⟩)
theorem wp_i2b {x : Int32} (hc : am_nth cs k = .i2b)  (hn : am_WP am_rc am_na am_mc am_ms cN cZ cs C Z (k + 1) ls (.int x.toInt8.toInt32 :: st) h) : am_WP am_rc am_na am_mc am_ms cN cZ cs C Z k ls (.int x :: st) h :=
  fun X hX => hX _ _ _ _ (by rw [hc]; exact ⟨x, st, rfl, hn X hX⟩)
theorem wp_l2i {x : Int64} (hc : am_nth cs k = .l2i)  (hn : am_WP am_rc am_na am_mc am_ms cN cZ cs C Z (k + 1) ls (.int x.toInt32 :: st) h) : am_WP am_rc am_na am_mc am_ms cN cZ cs C Z k ls (.long x :: st) h :=
  fun X hX => hX _ _ _ _ (by rw [hc]; exact ⟨x, st, rfl, hn X hX⟩)
theorem wp_iconst {n : Int} (hc : am_nth cs k = .iconst n)  (hn : am_WP am_rc am_na am_mc am_ms cN cZ cs C Z (k + 1) ls (.int (Int32.ofInt n) :: st) h) : am_WP am_rc am_na am_mc am_ms cN cZ cs C Z k ls st h :=
  fun X hX => hX _ _ _ _ (by rw [hc]; exact hn X hX)
theorem wp_lconst {n : Int} (hc : am_nth cs k = .goto_w n)  (hn : am_WP am_rc am_na am_mc am_ms cN cZ cs C Z (k + 1) ls (.long (Int64.ofInt n) :: st) h) : am_WP am_rc am_na am_mc am_ms cN cZ cs C Z k ls st h :=
  fun X hX => hX _ _ _ _ (by rw [hc]; exact hn X hX)
theorem wp_null (hc : am_nth cs k = .aconst_null)  (hn : am_WP am_rc am_na am_mc am_ms cN cZ cs C Z (k + 1) ls (.null :: st) h) : am_WP am_rc am_na am_mc am_ms cN cZ cs C Z k ls st h :=
  fun X hX => hX _ _ _ _ (by rw [hc]; exact hn X hX)
theorem wp_iload {j : Nat} {x : Int32} (hc : am_nth cs k = .iload j) (hj : ls[j]? = some (some (.int x))) (hn : am_WP am_rc am_na am_mc am_ms cN cZ cs C Z (k + 1) ls (.int x :: st) h) : am_WP am_rc am_na am_mc am_ms cN cZ cs C Z k ls st h :=
  fun X hX => hX _ _ _ _ (by rw [hc]; exact ⟨x, hj, hn X hX⟩)
theorem wp_lload {j : Nat} {x : Int64} (hc : am_nth cs k = .lload j) (hj : ls[j]? = some (some (.long x))) (hn : am_WP am_rc am_na am_mc am_ms cN cZ cs C Z (k + 1) ls (.long x :: st) h) : am_WP am_rc am_na am_mc am_ms cN cZ cs C Z k ls st h :=
  fun X hX => hX _ _ _ _ (by rw [hc]; exact ⟨x, hj, hn X hX⟩)
theorem wp_aload {j x : Nat} (hc : am_nth cs k = .aload j) (hj : ls[j]? = some (some (.ref x))) (hn : am_WP am_rc am_na am_mc am_ms cN cZ cs C Z (k + 1) ls (.ref x :: st) h) : am_WP am_rc am_na am_mc am_ms cN cZ cs C Z k ls st h :=
  fun X hX => hX _ _ _ _ (by rw [hc]; exact Or.inl ⟨x, hj, hn X hX⟩)
theorem wp_aloadN {j : Nat} (hc : am_nth cs k = .aload j) (hj : ls[j]? = some (some .null)) (hn : am_WP am_rc am_na am_mc am_ms cN cZ cs C Z (k + 1) ls (.null :: st) h) : am_WP am_rc am_na am_mc am_ms cN cZ cs C Z k ls st h :=
  fun X hX => hX _ _ _ _ (by rw [hc]; exact Or.inr ⟨hj, hn X hX⟩)
theorem wp_istore {j : Nat} {x : Int32} {ls2 : List (Option Value)} (hc : am_nth cs k = .istore j) (hl : am_set1 ls j (.int x) = ls2) (hn : am_WP am_rc am_na am_mc am_ms cN cZ cs C Z (k + 1) ls2 st h) : am_WP am_rc am_na am_mc am_ms cN cZ cs C Z k ls (.int x :: st) h :=
  fun X hX => hX _ _ _ _ (by rw [hc]; exact ⟨x, st, rfl, by rw [hl]; exact hn X hX⟩)
theorem wp_lstore {j : Nat} {x : Int64} {ls2 : List (Option Value)} (hc : am_nth cs k = .lstore j) (hl : am_set2 ls j (.long x) = ls2) (hn : am_WP am_rc am_na am_mc am_ms cN cZ cs C Z (k + 1) ls2 st h) : am_WP am_rc am_na am_mc am_ms cN cZ cs C Z k ls (.long x :: st) h :=
  fun X hX => hX _ _ _ _ (by rw [hc]; exact ⟨x, st, rfl, by rw [hl]; exact hn X hX⟩)
theorem wp_astore {j x : Nat} {ls2 : List (Option Value)} (hc : am_nth cs k = .astore j) (hl : am_set1 ls j (.ref x) = ls2) (hn : am_WP am_rc am_na am_mc am_ms cN cZ cs C Z (k + 1) ls2 st h) : am_WP am_rc am_na am_mc am_ms cN cZ cs C Z k ls (.ref x :: st) h :=
  fun X hX => hX _ _ _ _ (by rw [hc]; exact Or.inl ⟨x, st, rfl, by rw [hl]; exact hn X hX⟩)
theorem wp_astoreN {j : Nat} {ls2 : List (Option Value)} (hc : am_nth cs k = .astore j) (hl : am_set1 ls j .null = ls2) (hn : am_WP am_rc am_na am_mc am_ms cN cZ cs C Z (k + 1) ls2 st h) : am_WP am_rc am_na am_mc am_ms cN cZ cs C Z k ls (.null :: st) h :=
  fun X hX => hX _ _ _ _ (by rw [hc]; exact Or.inr ⟨st, rfl, by rw [hl]; exact hn X hX⟩)
theorem wp_iinc {j : Nat} {n : Int} {x : Int32} {ls2 : List (Option Value)} (hc : am_nth cs k = .iinc j n) (hj : ls[j]? = some (some (.int x))) (hl : am_set1 ls j (.int (x + Int32.ofInt n)) = ls2) (hn : am_WP am_rc am_na am_mc am_ms cN cZ cs C Z (k + 1) ls2 st h) : am_WP am_rc am_na am_mc am_ms cN cZ cs C Z k ls st h :=
  fun X hX => hX _ _ _ _ (by rw [hc]; exact ⟨x, hj, by rw [hl]; exact hn X hX⟩)
theorem wp_dup {v : Value} (hc : am_nth cs k = .dup) (hv : v.category = 1) (hn : am_WP am_rc am_na am_mc am_ms cN cZ cs C Z (k + 1) ls (v :: v :: st) h) : am_WP am_rc am_na am_mc am_ms cN cZ cs C Z k ls (v :: st) h :=
  fun X hX => hX _ _ _ _ (by rw [hc]; exact ⟨v, st, rfl, hv, hn X hX⟩)
theorem wp_dup2 {v w : Value} (hc : am_nth cs k = .dup2) (hv : v.category = 1) (hw : w.category = 1) (hn : am_WP am_rc am_na am_mc am_ms cN cZ cs C Z (k + 1) ls (v :: w :: v :: w :: st) h) : am_WP am_rc am_na am_mc am_ms cN cZ cs C Z k ls (v :: w :: st) h :=
  fun X hX => hX _ _ _ _ (by rw [hc]; exact ⟨v, w, st, rfl, hv, hw, hn X hX⟩)
theorem wp_pop {v : Value} (hc : am_nth cs k = .pop) (hv : v.category = 1) (hn : am_WP am_rc am_na am_mc am_ms cN cZ cs C Z (k + 1) ls st h) : am_WP am_rc am_na am_mc am_ms cN cZ cs C Z k ls (v :: st) h :=
  fun X hX => hX _ _ _ _ (by rw [hc]; exact ⟨v, st, rfl, hv, hn X hX⟩)
theorem wp_goto {t : Int} (hc : am_nth cs k = .goto t)  (hn : am_WP am_rc am_na am_mc am_ms cN cZ cs C Z t.toNat ls st h) : am_WP am_rc am_na am_mc am_ms cN cZ cs C Z k ls st h :=
  fun X hX => hX _ _ _ _ (by rw [hc]; exact hn X hX)
theorem wp_if {c : Jvm.ClassFile.Cond} {t : Int} {x : Int32} (hc : am_nth cs k = .ifCond c t)  (ht : am_cond c x 0 → am_WP am_rc am_na am_mc am_ms cN cZ cs C Z t.toNat ls st h) (hf : ¬ am_cond c x 0 → am_WP am_rc am_na am_mc am_ms cN cZ cs C Z (k + 1) ls st h) : am_WP am_rc am_na am_mc am_ms cN cZ cs C Z k ls (.int x :: st) h :=
  fun X hX => hX _ _ _ _ (by rw [hc]; exact ⟨x, st, rfl, fun q => ht q X hX, fun q => hf q X hX⟩)
theorem wp_icmp {c : Jvm.ClassFile.Cond} {t : Int} {x y : Int32} (hc : am_nth cs k = .if_icmp c t)  (ht : am_cond c x y → am_WP am_rc am_na am_mc am_ms cN cZ cs C Z t.toNat ls st h) (hf : ¬ am_cond c x y → am_WP am_rc am_na am_mc am_ms cN cZ cs C Z (k + 1) ls st h) : am_WP am_rc am_na am_mc am_ms cN cZ cs C Z k ls (.int y :: .int x :: st) h :=
  fun X hX => hX _ _ _ _ (by rw [hc]; exact ⟨x, y, st, rfl, fun q => ht q X hX, fun q => hf q X hX⟩)
theorem wp_ifnull {t : Int} {x : Nat} (hc : am_nth cs k = .ifnull t)  (hn : am_WP am_rc am_na am_mc am_ms cN cZ cs C Z (k + 1) ls st h) : am_WP am_rc am_na am_mc am_ms cN cZ cs C Z k ls (.ref x :: st) h :=
  fun X hX => hX _ _ _ _ (by rw [hc]; exact Or.inl ⟨x, st, rfl, hn X hX⟩)
theorem wp_ifnullN {t : Int} (hc : am_nth cs k = .ifnull t)  (hn : am_WP am_rc am_na am_mc am_ms cN cZ cs C Z t.toNat ls st h) : am_WP am_rc am_na am_mc am_ms cN cZ cs C Z k ls (.null :: st) h :=
  fun X hX => hX _ _ _ _ (by rw [hc]; exact Or.inr ⟨st, rfl, hn X hX⟩)
theorem wp_ifnonnull {t : Int} {x : Nat} (hc : am_nth cs k = .ifnonnull t)  (hn : am_WP am_rc am_na am_mc am_ms cN cZ cs C Z t.toNat ls st h) : am_WP am_rc am_na am_mc am_ms cN cZ cs C Z k ls (.ref x :: st) h :=
  fun X hX => hX _ _ _ _ (by rw [hc]; exact Or.inl ⟨x, st, rfl, hn X hX⟩)
theorem wp_ifnonnullN {t : Int} (hc : am_nth cs k = .ifnonnull t)  (hn : am_WP am_rc am_na am_mc am_ms cN cZ cs C Z (k + 1) ls st h) : am_WP am_rc am_na am_mc am_ms cN cZ cs C Z k ls (.null :: st) h :=
  fun X hX => hX _ _ _ _ (by rw [hc]; exact Or.inr ⟨st, rfl, hn X hX⟩)
theorem wp_switch {d : Int} {ps : Array (Int × Int)} {x : Int32} (hc : am_nth cs k = .lookupswitch d ps)  (hn : am_WP am_rc am_na am_mc am_ms cN cZ cs C Z (am_sw d x ps.toList).toNat ls st h) : am_WP am_rc am_na am_mc am_ms cN cZ cs C Z k ls (.int x :: st) h :=
  fun X hX => hX _ _ _ _ (by rw [hc]; exact ⟨x, st, rfl, hn X hX⟩)
theorem wp_getI {q p n : Nat} (hc : am_nth cs k = .getfield q) (hp : h.1[p]? = some (q / 100, n)) (hn : am_WP am_rc am_na am_mc am_ms cN cZ cs C Z (k + 1) ls (.int (h.2.1 p (q % 100)) :: st) h) : am_WP am_rc am_na am_mc am_ms cN cZ cs C Z k ls (.ref p :: st) h :=
  fun X hX => hX _ _ _ _ (by rw [hc]; exact ⟨p, n, st, rfl, hp, hn X hX⟩)
theorem wp_getL {q p n : Nat} (hc : am_nth cs k = .fload q) (hp : h.1[p]? = some (q / 100, n)) (hn : am_WP am_rc am_na am_mc am_ms cN cZ cs C Z (k + 1) ls (.long (h.2.2.1 p (q % 100)) :: st) h) : am_WP am_rc am_na am_mc am_ms cN cZ cs C Z k ls (.ref p :: st) h :=
  fun X hX => hX _ _ _ _ (by rw [hc]; exact ⟨p, n, st, rfl, hp, hn X hX⟩)
theorem wp_getQ {q p n : Nat} (hc : am_nth cs k = .dload q) (hp : h.1[p]? = some (q / 100, n)) (hn : am_WP am_rc am_na am_mc am_ms cN cZ cs C Z (k + 1) ls (va_rf (h.2.2.2 p (q % 100)) :: st) h) : am_WP am_rc am_na am_mc am_ms cN cZ cs C Z k ls (.ref p :: st) h :=
  fun X hX => hX _ _ _ _ (by rw [hc]; exact ⟨p, n, st, rfl, hp, hn X hX⟩)
theorem wp_getR {q p n r : Nat} (hc : am_nth cs k = .dload q) (hp : h.1[p]? = some (q / 100, n)) (hr : h.2.2.2 p (q % 100) = some r) (hn : am_WP am_rc am_na am_mc am_ms cN cZ cs C Z (k + 1) ls (.ref r :: st) h) : am_WP am_rc am_na am_mc am_ms cN cZ cs C Z k ls (.ref p :: st) h :=
  fun X hX => hX _ _ _ _ (by rw [hc]; exact ⟨p, n, st, rfl, hp, by rw [hr]; exact hn X hX⟩)
theorem wp_getN {q p n : Nat} (hc : am_nth cs k = .dload q) (hp : h.1[p]? = some (q / 100, n)) (hr : h.2.2.2 p (q % 100) = none) (hn : am_WP am_rc am_na am_mc am_ms cN cZ cs C Z (k + 1) ls (.null :: st) h) : am_WP am_rc am_na am_mc am_ms cN cZ cs C Z k ls (.ref p :: st) h :=
  fun X hX => hX _ _ _ _ (by rw [hc]; exact ⟨p, n, st, rfl, hp, by rw [hr]; exact hn X hX⟩)
theorem wp_putI {q p n : Nat} {x : Int32} (hc : am_nth cs k = .putfield q) (hp : h.1[p]? = some (q / 100, n)) (hn : am_WP am_rc am_na am_mc am_ms cN cZ cs C Z (k + 1) ls st (h.1, am_u h.2.1 p (q % 100) x, h.2.2)) : am_WP am_rc am_na am_mc am_ms cN cZ cs C Z k ls (.int x :: .ref p :: st) h :=
  fun X hX => hX _ _ _ _ (by rw [hc]; exact ⟨p, n, x, st, rfl, hp, hn X hX⟩)
theorem wp_putZ {q p n : Nat} {x : Int32} (hc : am_nth cs k = .putstatic q) (hp : h.1[p]? = some (q / 100, n)) (hx : x = 0 ∨ x = 1) (hn : am_WP am_rc am_na am_mc am_ms cN cZ cs C Z (k + 1) ls st (h.1, am_u h.2.1 p (q % 100) x, h.2.2)) : am_WP am_rc am_na am_mc am_ms cN cZ cs C Z k ls (.int x :: .ref p :: st) h :=
  fun X hX => hX _ _ _ _ (by rw [hc]; exact ⟨p, n, x, st, rfl, hx, hp, hn X hX⟩)
theorem wp_putL {q p n : Nat} {x : Int64} (hc : am_nth cs k = .fstore q) (hp : h.1[p]? = some (q / 100, n)) (hn : am_WP am_rc am_na am_mc am_ms cN cZ cs C Z (k + 1) ls st (h.1, h.2.1, am_u h.2.2.1 p (q % 100) x, h.2.2.2)) : am_WP am_rc am_na am_mc am_ms cN cZ cs C Z k ls (.long x :: .ref p :: st) h :=
  fun X hX => hX _ _ _ _ (by rw [hc]; exact ⟨p, n, x, st, rfl, hp, hn X hX⟩)
theorem wp_putR {q p n r : Nat} (hc : am_nth cs k = .dstore q) (hp : h.1[p]? = some (q / 100, n)) (hn : am_WP am_rc am_na am_mc am_ms cN cZ cs C Z (k + 1) ls st (h.1, h.2.1, h.2.2.1, am_u h.2.2.2 p (q % 100) (some r))) : am_WP am_rc am_na am_mc am_ms cN cZ cs C Z k ls (.ref r :: .ref p :: st) h :=
  fun X hX => hX _ _ _ _ (by rw [hc]; exact ⟨p, n, some r, st, rfl, hp, hn X hX⟩)
theorem wp_putN {q p n : Nat} (hc : am_nth cs k = .dstore q) (hp : h.1[p]? = some (q / 100, n)) (hn : am_WP am_rc am_na am_mc am_ms cN cZ cs C Z (k + 1) ls st (h.1, h.2.1, h.2.2.1, am_u h.2.2.2 p (q % 100) none)) : am_WP am_rc am_na am_mc am_ms cN cZ cs C Z k ls (.null :: .ref p :: st) h :=
  fun X hX => hX _ _ _ _ (by rw [hc]; exact ⟨p, n, none, st, rfl, hp, hn X hX⟩)
theorem wp_iaload {p n : Nat} {i : Int32} (hc : am_nth cs k = .iaload) (hp : h.1[p]? = some (50, n)) (hi : vp_in i n) (hn : am_WP am_rc am_na am_mc am_ms cN cZ cs C Z (k + 1) ls (.int (h.2.1 p i.toNatClampNeg) :: st) h) : am_WP am_rc am_na am_mc am_ms cN cZ cs C Z k ls (.int i :: .ref p :: st) h :=
  fun X hX => hX _ _ _ _ (by rw [hc]; exact ⟨p, n, i, st, rfl, hp, hi, hn X hX⟩)
theorem wp_baload {p n : Nat} {i : Int32} (hc : am_nth cs k = .baload) (hp : h.1[p]? = some (52, n)) (hi : vp_in i n) (hn : am_WP am_rc am_na am_mc am_ms cN cZ cs C Z (k + 1) ls (.int (h.2.1 p i.toNatClampNeg) :: st) h) : am_WP am_rc am_na am_mc am_ms cN cZ cs C Z k ls (.int i :: .ref p :: st) h :=
  fun X hX => hX _ _ _ _ (by rw [hc]; exact ⟨p, n, i, st, rfl, hp, hi, hn X hX⟩)
theorem wp_caload {p n : Nat} {i : Int32} (hc : am_nth cs k = .caload) (hp : h.1[p]? = some (53, n)) (hi : vp_in i n) (hn : am_WP am_rc am_na am_mc am_ms cN cZ cs C Z (k + 1) ls (.int (h.2.1 p i.toNatClampNeg) :: st) h) : am_WP am_rc am_na am_mc am_ms cN cZ cs C Z k ls (.int i :: .ref p :: st) h :=
  fun X hX => hX _ _ _ _ (by rw [hc]; exact ⟨p, n, i, st, rfl, hp, hi, hn X hX⟩)
theorem wp_laload {p n : Nat} {i : Int32} (hc : am_nth cs k = .laload) (hp : h.1[p]? = some (51, n)) (hi : vp_in i n) (hn : am_WP am_rc am_na am_mc am_ms cN cZ cs C Z (k + 1) ls (.long (h.2.2.1 p i.toNatClampNeg) :: st) h) : am_WP am_rc am_na am_mc am_ms cN cZ cs C Z k ls (.int i :: .ref p :: st) h :=
  fun X hX => hX _ _ _ _ (by rw [hc]; exact ⟨p, n, i, st, rfl, hp, hi, hn X hX⟩)
theorem wp_aaload {p n : Nat} {i : Int32} (hc : am_nth cs k = .aaload) (hp : h.1[p]? = some (54, n)) (hi : vp_in i n) (hn : am_WP am_rc am_na am_mc am_ms cN cZ cs C Z (k + 1) ls (va_rf (h.2.2.2 p i.toNatClampNeg) :: st) h) : am_WP am_rc am_na am_mc am_ms cN cZ cs C Z k ls (.int i :: .ref p :: st) h :=
  fun X hX => hX _ _ _ _ (by rw [hc]; exact ⟨p, n, i, st, rfl, hp, hi, hn X hX⟩)
theorem wp_iastore {p n : Nat} {i x : Int32} (hc : am_nth cs k = .iastore) (h4 : 4 ≤ p) (hp : h.1[p]? = some (50, n)) (hi : vp_in i n) (hn : am_WP am_rc am_na am_mc am_ms cN cZ cs C Z (k + 1) ls st (h.1, am_u h.2.1 p i.toNatClampNeg x, h.2.2)) : am_WP am_rc am_na am_mc am_ms cN cZ cs C Z k ls (.int x :: .int i :: .ref p :: st) h :=
  fun X hX => hX _ _ _ _ (by rw [hc]; exact ⟨p, n, i, x, st, rfl, h4, hp, hi, hn X hX⟩)
theorem wp_bastore {p n : Nat} {i x : Int32} (hc : am_nth cs k = .bastore) (hp : h.1[p]? = some (52, n)) (hi : vp_in i n) (hn : am_WP am_rc am_na am_mc am_ms cN cZ cs C Z (k + 1) ls st (h.1, am_u h.2.1 p i.toNatClampNeg (vp_nar .byte x), h.2.2)) : am_WP am_rc am_na am_mc am_ms cN cZ cs C Z k ls (.int x :: .int i :: .ref p :: st) h :=
  fun X hX => hX _ _ _ _ (by rw [hc]; exact ⟨p, n, i, x, st, rfl, hp, hi, hn X hX⟩)
theorem wp_castore {p n : Nat} {i x : Int32} (hc : am_nth cs k = .castore) (hp : h.1[p]? = some (53, n)) (hi : vp_in i n) (hn : am_WP am_rc am_na am_mc am_ms cN cZ cs C Z (k + 1) ls st (h.1, am_u h.2.1 p i.toNatClampNeg (vp_nar .boolean x), h.2.2)) : am_WP am_rc am_na am_mc am_ms cN cZ cs C Z k ls (.int x :: .int i :: .ref p :: st) h :=
  fun X hX => hX _ _ _ _ (by rw [hc]; exact ⟨p, n, i, x, st, rfl, hp, hi, hn X hX⟩)
theorem wp_lastore {p n : Nat} {i : Int32} {x : Int64} (hc : am_nth cs k = .lastore) (hp : h.1[p]? = some (51, n)) (hi : vp_in i n) (hn : am_WP am_rc am_na am_mc am_ms cN cZ cs C Z (k + 1) ls st (h.1, h.2.1, am_u h.2.2.1 p i.toNatClampNeg x, h.2.2.2)) : am_WP am_rc am_na am_mc am_ms cN cZ cs C Z k ls (.long x :: .int i :: .ref p :: st) h :=
  fun X hX => hX _ _ _ _ (by rw [hc]; exact ⟨p, n, i, x, st, rfl, hp, hi, hn X hX⟩)
theorem wp_aastore {p n r m : Nat} {i : Int32} (hc : am_nth cs k = .aastore) (hp : h.1[p]? = some (54, n)) (hr : h.1[r]? = some (0, m)) (hi : vp_in i n) (hn : am_WP am_rc am_na am_mc am_ms cN cZ cs C Z (k + 1) ls st (h.1, h.2.1, h.2.2.1, am_u h.2.2.2 p i.toNatClampNeg (some r))) : am_WP am_rc am_na am_mc am_ms cN cZ cs C Z k ls (.ref r :: .int i :: .ref p :: st) h :=
  fun X hX => hX _ _ _ _ (by rw [hc]; exact ⟨p, n, i, r, m, st, rfl, hp, hr, hi, hn X hX⟩)
theorem wp_alen {p n t : Nat} (hc : am_nth cs k = .arraylength) (hp : h.1[p]? = some (t, n)) (ht : 50 ≤ t ∧ t ≤ 54) (hn : am_WP am_rc am_na am_mc am_ms cN cZ cs C Z (k + 1) ls (.int (Int32.ofNat n) :: st) h) : am_WP am_rc am_na am_mc am_ms cN cZ cs C Z k ls (.ref p :: st) h :=
  fun X hX => hX _ _ _ _ (by rw [hc]; exact ⟨p, t, n, st, rfl, hp, ht.1, ht.2, hn X hX⟩)
theorem wp_gets {j : Nat} (hc : am_nth cs k = .getstatic j)  (hn : am_WP am_rc am_na am_mc am_ms cN cZ cs C Z (k + 1) ls (.ref j :: st) h) : am_WP am_rc am_na am_mc am_ms cN cZ cs C Z k ls st h :=
  fun X hX => hX _ _ _ _ (by rw [hc]; exact hn X hX)
theorem wp_new {q : Nat} (hc : am_nth cs k = .new q) (h1 : h.1.length + 1 ≤ cN) (h2 : am_sl h.1 + q % 100 ≤ cZ) (hn : am_WP am_rc am_na am_mc am_ms cN cZ cs C Z (k + 1) ls (.ref h.1.length :: st) (am_nh h (q / 100, q % 100))) : am_WP am_rc am_na am_mc am_ms cN cZ cs C Z k ls st h :=
  fun X hX => hX _ _ _ _ (by rw [hc]; exact ⟨h1, h2, hn X hX⟩)
theorem wp_newa {t : Nat} {i : Int32} (hc : am_nth cs k = .anewarray t) (h0 : ¬ i < 0) (h3 : i.toNatClampNeg ≤ 1000000) (h1 : h.1.length + 1 ≤ cN) (h2 : am_sl h.1 + i.toNatClampNeg ≤ cZ) (hn : am_WP am_rc am_na am_mc am_ms cN cZ cs C Z (k + 1) ls (.ref h.1.length :: st) (am_nh h (t, i.toNatClampNeg))) : am_WP am_rc am_na am_mc am_ms cN cZ cs C Z k ls (.int i :: st) h :=
  fun X hX => hX _ _ _ _ (by rw [hc]; exact ⟨i, st, rfl, h0, h3, h1, h2, hn X hX⟩)
theorem wp_objInit {p : Nat} (hc : am_nth cs k = .monitorexit) (hr : am_cat st ≤ 8) (hn : am_WP am_rc am_na am_mc am_ms cN cZ cs C Z (k + 1) ls st h) : am_WP am_rc am_na am_mc am_ms cN cZ cs C Z k ls (.ref p :: st) h :=
  fun X hX => hX _ _ _ _ (by rw [hc]; exact ⟨p, st, rfl, hr, hn X hX⟩)
theorem wp_mm0 {a : Nat} {x y : Int32} (hc : am_nth cs k = .invokeinterface 0 a) (hr : am_cat st ≤ 8) (hn : am_WP am_rc am_na am_mc am_ms cN cZ cs C Z (k + 1) ls (.int (if x < y then y else x) :: st) h) : am_WP am_rc am_na am_mc am_ms cN cZ cs C Z k ls (.int y :: .int x :: st) h :=
  fun X hX => hX _ _ _ _ (by rw [hc]; exact ⟨x, y, st, rfl, hr, hn X hX⟩)
theorem wp_mm1 {a : Nat} {x y : Int32} (hc : am_nth cs k = .invokeinterface 1 a) (hr : am_cat st ≤ 8) (hn : am_WP am_rc am_na am_mc am_ms cN cZ cs C Z (k + 1) ls (.int (if y < x then y else x) :: st) h) : am_WP am_rc am_na am_mc am_ms cN cZ cs C Z k ls (.int y :: .int x :: st) h :=
  fun X hX => hX _ _ _ _ (by rw [hc]; exact ⟨x, y, st, rfl, hr, hn X hX⟩)
theorem wp_mm2 {a : Nat} {x y : Int64} (hc : am_nth cs k = .invokeinterface 2 a) (hr : am_cat st ≤ 8) (hn : am_WP am_rc am_na am_mc am_ms cN cZ cs C Z (k + 1) ls (.long (if y < x then x else y) :: st) h) : am_WP am_rc am_na am_mc am_ms cN cZ cs C Z k ls (.long y :: .long x :: st) h :=
  fun X hX => hX _ _ _ _ (by rw [hc]; exact ⟨x, y, st, rfl, hr, hn X hX⟩)
theorem wp_mm3 {a : Nat} {x y : Int64} (hc : am_nth cs k = .invokeinterface 3 a) (hr : am_cat st ≤ 8) (hn : am_WP am_rc am_na am_mc am_ms cN cZ cs C Z (k + 1) ls (.long (if y < x then y else x) :: st) h) : am_WP am_rc am_na am_mc am_ms cN cZ cs C Z k ls (.long y :: .long x :: st) h :=
  fun X hX => hX _ _ _ _ (by rw [hc]; exact ⟨x, y, st, rfl, hr, hn X hX⟩)
theorem wp_copyb {a b n0 n1 : Nat} {sp dp n : Int32} (hc : am_nth cs k = .invokedynamic 0) (hr : am_cat st ≤ 8) (ha : h.1[a]? = some (52, n0)) (hb : h.1[b]? = some (52, n1)) (i1 : ¬ sp < 0) (i2 : ¬ dp < 0) (i3 : ¬ n < 0) (i4 : sp.toNatClampNeg + n.toNatClampNeg ≤ n0) (i5 : dp.toNatClampNeg + n.toNatClampNeg ≤ n1) (hf : ∀ i, i < n.toNatClampNeg → fits .byte (.int (h.2.1 a (sp.toNatClampNeg + i))) = true) (hn : am_WP am_rc am_na am_mc am_ms cN cZ cs C Z (k + 1) ls st (h.1, va_up h.2.1 b (va_cpy (h.2.1 a) (h.2.1 b) sp.toNatClampNeg dp.toNatClampNeg n.toNatClampNeg), h.2.2)) : am_WP am_rc am_na am_mc am_ms cN cZ cs C Z k ls (.int n :: .int dp :: .ref b :: .int sp :: .ref a :: st) h :=
  fun X hX => hX _ _ _ _ (by rw [hc]; exact ⟨a, b, n0, n1, sp, dp, n, st, rfl, hr, ha, hb, i1, i2, i3, i4, i5, hf, hn X hX⟩)
theorem wp_copyi {a b n0 n1 : Nat} {sp dp n : Int32} (hc : am_nth cs k = .invokedynamic 1) (hr : am_cat st ≤ 8) (ha4 : a < 4) (hb4 : 4 ≤ b) (ha : h.1[a]? = some (50, n0)) (hb : h.1[b]? = some (50, n1)) (i1 : ¬ sp < 0) (i2 : ¬ dp < 0) (i3 : ¬ n < 0) (i4 : sp.toNatClampNeg + n.toNatClampNeg ≤ n0) (i5 : dp.toNatClampNeg + n.toNatClampNeg ≤ n1) (hn : am_WP am_rc am_na am_mc am_ms cN cZ cs C Z (k + 1) ls st (h.1, va_up h.2.1 b (va_cpy (h.2.1 a) (h.2.1 b) sp.toNatClampNeg dp.toNatClampNeg n.toNatClampNeg), h.2.2)) : am_WP am_rc am_na am_mc am_ms cN cZ cs C Z k ls (.int n :: .int dp :: .ref b :: .int sp :: .ref a :: st) h :=
  fun X hX => hX _ _ _ _ (by rw [hc]; exact ⟨a, b, n0, n1, sp, dp, n, st, rfl, hr, ha4, hb4, ha, hb, i1, i2, i3, i4, i5, hn X hX⟩)
theorem wp_ireturn {x : Int32} (hc : am_nth cs k = .ireturn) (hz : Z (some (.int x)) h)  : am_WP am_rc am_na am_mc am_ms cN cZ cs C Z k ls [.int x] h :=
  fun X hX => hX _ _ _ _ (by rw [hc]; exact ⟨x, rfl, hz⟩)
theorem wp_lreturn {x : Int64} (hc : am_nth cs k = .lreturn) (hz : Z (some (.long x)) h)  : am_WP am_rc am_na am_mc am_ms cN cZ cs C Z k ls [.long x] h :=
  fun X hX => hX _ _ _ _ (by rw [hc]; exact ⟨x, rfl, hz⟩)
theorem wp_areturn {x : Nat} (hc : am_nth cs k = .areturn) (hz : Z (some (.ref x)) h)  : am_WP am_rc am_na am_mc am_ms cN cZ cs C Z k ls [.ref x] h :=
  fun X hX => hX _ _ _ _ (by rw [hc]; exact ⟨some x, rfl, hz⟩)
theorem wp_areturnN (hc : am_nth cs k = .areturn) (hz : Z (some .null) h)  : am_WP am_rc am_na am_mc am_ms cN cZ cs C Z k ls [.null] h :=
  fun X hX => hX _ _ _ _ (by rw [hc]; exact ⟨none, rfl, hz⟩)
theorem wp_return (hc : am_nth cs k = .return_) (hz : Z none h)  : am_WP am_rc am_na am_mc am_ms cN cZ cs C Z k ls [] h :=
  fun X hX => hX _ _ _ _ (by rw [hc]; exact ⟨rfl, hz⟩)
end WPR
theorem am_step_mono {rc na mcT msT : Nat → Nat} {cN cZ : Nat} {C : am_C} {Z Z' : am_Q} {X : am_X} {k : Nat} {ls : List (Option Value)} {st : List Value} {h : am_H} {i : Instr} (hz : ∀ r h, Z r h → Z' r h) (hs : am_step rc na mcT msT cN cZ C Z X k ls st h i) : am_step rc na mcT msT cN cZ C Z' X k ls st h i := by
  cases i
  case invokeinterface a b => exact match a, hs with
    | 0, hs => hs
    | 1, hs => hs
    | 2, hs => hs
    | 3, hs => hs
    | n + 4, hs => hs.elim
  case invokedynamic a => exact match a, hs with
    | 0, hs => hs
    | 1, hs => hs
    | n + 2, hs => hs.elim
  all_goals first | exact hs | (obtain ⟨x, e, q⟩ := hs; exact ⟨x, e, hz _ _ q⟩) | exact ⟨hs.1, hz _ _ hs.2⟩
theorem am_WP_mono {rc na mcT msT : Nat → Nat} {cN cZ : Nat} {cs : List Instr} {C : am_C} {Z Z' : am_Q} {k : Nat} {ls : List (Option Value)} {st : List Value} {h : am_H} (hz : ∀ r h, Z r h → Z' r h) (hw : am_WP rc na mcT msT cN cZ cs C Z k ls st h) : am_WP rc na mcT msT cN cZ cs C Z' k ls st h :=
  fun X hX => hw X (fun k ls st h hs => hX k ls st h (am_step_mono hz hs))
theorem am_call_mono {d q : Nat} {as : List Value} {h : am_H} {Q Q' : am_Q} (hq : ∀ r h', Q r h' → Q' r h') (hc : am_call d q as h Q) : am_call d q as h Q' := by
  cases d with
  | zero => exact hc
  | succ d => exact ⟨hc.1, am_WP_mono (fun r h' z => ⟨z.1, z.2.1, hq _ _ z.2.2⟩) hc.2⟩
section WPC
variable {cN cZ d : Nat} {cs : List Instr} {Z : am_Q} {k : Nat} {ls : List (Option Value)} {st : List Value} {h : am_H}
theorem wp_callV {q p n : Nat} {st0 : List Value} (as : List Value) (hc : am_nth cs k = .invokevirtual q) (hst : st0 = as.reverse ++ .ref p :: st) (hl : as.length + 1 = am_na q) (hr : am_cat st ≤ 8) (hp : h.1[p]? = some (am_rc q, n)) (hm : am_mc q = 0 ∧ am_ms q = 0 ∨ h.1.length + am_mc q ≤ cN ∧ am_sl h.1 + am_ms q ≤ cZ) (hn : am_call d q (.ref p :: as) h (fun r h' => am_WP am_rc am_na am_mc am_ms cN cZ cs (am_call d) Z (k + 1) ls (r.toList ++ st) h')) : am_WP am_rc am_na am_mc am_ms cN cZ cs (am_call d) Z k ls st0 h :=
  fun X hX => hX _ _ _ _ (by rw [hc]; exact ⟨as, p, n, st, hst, hl, hr, hp, hm, am_call_mono (fun r h' z => z X hX) hn⟩)
theorem wp_callI {q p n : Nat} {st0 : List Value} (as : List Value) (hc : am_nth cs k = .invokespecial q) (hst : st0 = as.reverse ++ .ref p :: st) (hl : as.length + 1 = am_na q) (hr : am_cat st ≤ 8) (hp : h.1[p]? = some (am_rc q, n)) (hm : am_mc q = 0 ∧ am_ms q = 0 ∨ h.1.length + am_mc q ≤ cN ∧ am_sl h.1 + am_ms q ≤ cZ) (hn : am_call d q (.ref p :: as) h (fun r h' => am_WP am_rc am_na am_mc am_ms cN cZ cs (am_call d) Z (k + 1) ls (r.toList ++ st) h')) : am_WP am_rc am_na am_mc am_ms cN cZ cs (am_call d) Z k ls st0 h :=
  fun X hX => hX _ _ _ _ (by rw [hc]; exact ⟨as, p, n, st, hst, hl, hr, hp, hm, am_call_mono (fun r h' z => z X hX) hn⟩)
theorem wp_callS {q : Nat} {st0 : List Value} (as : List Value) (hc : am_nth cs k = .invokestatic q) (hst : st0 = as.reverse ++ st) (hl : as.length = am_na q) (hr : am_cat st ≤ 8) (hm : am_mc q = 0 ∧ am_ms q = 0 ∨ h.1.length + am_mc q ≤ cN ∧ am_sl h.1 + am_ms q ≤ cZ) (hn : am_call d q as h (fun r h' => am_WP am_rc am_na am_mc am_ms cN cZ cs (am_call d) Z (k + 1) ls (r.toList ++ st) h')) : am_WP am_rc am_na am_mc am_ms cN cZ cs (am_call d) Z k ls st0 h :=
  fun X hX => hX _ _ _ _ (by rw [hc]; exact ⟨as, st, hst, hl, hr, hm, am_call_mono (fun r h' z => z X hX) hn⟩)
end WPC
