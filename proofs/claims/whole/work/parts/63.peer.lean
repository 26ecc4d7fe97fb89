/-! ===== what a peer sends: the class ===== -/
def tyC (m r : Int32) : Int32 := (m &&& nI 15) ||| ((r &&& nI 1) <<< (nI 4 &&& 31)) ||| ((m &&& nI 112) <<< (nI 1 &&& 31)) ||| ((r &&& nI 2) <<< (nI 7 &&& 31)) ||| ((m &&& nI 3968) <<< (nI 2 &&& 31))
def tyM (m r : Int32) : Int32 := (m &&& nI 15) ||| ((r &&& nI 1) <<< (nI 4 &&& 31)) ||| ((m >>> (nI 4 &&& 31) &&& nI 7) <<< (nI 5 &&& 31)) ||| ((r >>> (nI 1 &&& 31)) <<< (nI 8 &&& 31)) ||| ((m >>> (nI 7 &&& 31) &&& nI 31) <<< (nI 9 &&& 31))
theorem ty_eq (m : Int32) {r : Nat} (hr : r < 4) : tyM m (nI r) = tyC m (nI r) := by
  have hmid : (nI r >>> (nI 1 &&& 31)) <<< (nI 8 &&& 31) = (nI r &&& nI 2) <<< (nI 7 &&& 31) := by
    match r, hr with
    | 0, _ => decide
    | 1, _ => decide
    | 2, _ => decide
    | 3, _ => decide
    | r + 4, h => omega
  have hm : ∀ j, j < 32 → bt (nI 7) j = decide (j < 3) ∧ bt (nI 31) j = decide (j < 5) ∧ bt (nI 112) j = decide (4 ≤ j ∧ j < 7) ∧ bt (nI 3968) j = decide (7 ≤ j ∧ j < 12) := by decide
  have h1 : (m >>> (nI 4 &&& 31) &&& nI 7) <<< (nI 5 &&& 31) = (m &&& nI 112) <<< (nI 1 &&& 31) := by
    apply b_ext
    intro i hi
    rw [b_shl 5 (by decide) _ hi, b_shl 1 (by decide) _ hi, b_and, b_and, (hm (i - 5) (by omega)).1, (hm (i - 1) (by omega)).2.2.1, b_sshr 4 (by decide) _ (by omega)]
    by_cases c : 5 ≤ i ∧ i < 8
    · rw [decide_eq_true c.1, decide_eq_true (show i - 5 < 3 by omega), decide_eq_true (show 1 ≤ i by omega), decide_eq_true (show 4 ≤ i - 1 ∧ i - 1 < 7 by omega), if_pos (by omega), show 4 + (i - 5) = i - 1 by omega]
    · rw [decide_eq_false (show ¬ (4 ≤ i - 1 ∧ i - 1 < 7) by omega)]
      by_cases c2 : 5 ≤ i
      · rw [decide_eq_false (show ¬ i - 5 < 3 by omega)]; simp
      · rw [decide_eq_false c2]; simp
  have h2 : (m >>> (nI 7 &&& 31) &&& nI 31) <<< (nI 9 &&& 31) = (m &&& nI 3968) <<< (nI 2 &&& 31) := by
    apply b_ext
    intro i hi
    rw [b_shl 9 (by decide) _ hi, b_shl 2 (by decide) _ hi, b_and, b_and, (hm (i - 9) (by omega)).2.1, (hm (i - 2) (by omega)).2.2.2, b_sshr 7 (by decide) _ (by omega)]
    by_cases c : 9 ≤ i ∧ i < 14
    · rw [decide_eq_true c.1, decide_eq_true (show i - 9 < 5 by omega), decide_eq_true (show 2 ≤ i by omega), decide_eq_true (show 7 ≤ i - 2 ∧ i - 2 < 12 by omega), if_pos (by omega), show 7 + (i - 9) = i - 2 by omega]
    · rw [decide_eq_false (show ¬ (7 ≤ i - 2 ∧ i - 2 < 12) by omega)]
      by_cases c2 : 9 ≤ i
      · rw [decide_eq_false (show ¬ i - 9 < 5 by omega)]; simp
      · rw [decide_eq_false c2]; simp
  unfold tyM tyC
  rw [h1, h2, hmid]
/-- ChannelData; a Data indication -/
def chd (n : Int32) (A : List Nat) : List Nat := be 2 (uI n) ++ be 2 A.length ++ A
def ind (A : List Nat) (ip port t : Int32) : List Nat := at_ (at_ (hd20 (uI (tyC (nI 7) (nI 1))) 0 0 (uI t)) 18 (adr ip port)) 19 A
def clr (s : SN) : SN := (false, s.2.1, s.2.2.1, s.2.2.2.1, [])
def pr_s (al : Nat → Option AL) (A : List Nat) (s : SN) (T : Nat → Int32) (rel ip port : Int32) : SN × (Nat → Int32) := match (ptf al rel).bind al with
  | none => (clr s, T)
  | some a => if (pf a.2.2.2.1 ip).isSome then (match ct a.2.2.2.2 ip port with
      | some c => ((true, a.1.1, a.1.2.1, nI 3478, chd (a.2.2.2.2.getD c c0).1 A), inc (inc T 0) 3)
      | none => ((true, a.1.1, a.1.2.1, nI 3478, ind A ip port (T 1)), inc (inc (inc T 0) 3) 1)) else (clr s, T)
section PE
variable {d N : Nat} {I : Nat → Nat → Int32} {L : Nat → Nat → Int64} {w : Option Nat} {Q : am_Q} {s : SN} {T : Nat → Int32} {A : List Nat} {al : Nat → Option AL}
theorem c_60 {m r : Int32} (hq : Q (some (.int (tyC m r))) (am_SH N, I, L, am_RR w)) : am_call (d + 1) 60 [.int m, .int r] (am_SH N, I, L, am_RR w) Q := by
  refine am_enter (ls := [some _, some _]) (cs := am_c60) rfl rfl (Nat.le_of_ble_eq_true rfl) rfl ?_
  refine wp_iload (k := 0) rfl rfl ?_
  refine w_ic (k := 1) (x := nI 15) rfl (oi_nI 15) ?_
  refine wp_iand (k := 2) rfl ?_
  refine wp_iload (k := 3) rfl rfl ?_
  refine w_ic (k := 4) (x := nI 1) rfl (oi_nI 1) ?_
  refine wp_iand (k := 5) rfl ?_
  refine w_ic (k := 6) (x := nI 4) rfl (oi_nI 4) ?_
  refine wp_ishl (k := 7) rfl ?_
  refine wp_ior (k := 8) rfl ?_
  refine wp_iload (k := 9) rfl rfl ?_
  refine w_ic (k := 10) (x := nI 112) rfl (oi_nI 112) ?_
  refine wp_iand (k := 11) rfl ?_
  refine w_ic (k := 12) (x := nI 1) rfl (oi_nI 1) ?_
  refine wp_ishl (k := 13) rfl ?_
  refine wp_ior (k := 14) rfl ?_
  refine wp_iload (k := 15) rfl rfl ?_
  refine w_ic (k := 16) (x := nI 2) rfl (oi_nI 2) ?_
  refine wp_iand (k := 17) rfl ?_
  refine w_ic (k := 18) (x := nI 7) rfl (oi_nI 7) ?_
  refine wp_ishl (k := 19) rfl ?_
  refine wp_ior (k := 20) rfl ?_
  refine wp_iload (k := 21) rfl rfl ?_
  refine w_ic (k := 22) (x := nI 3968) rfl (oi_nI 3968) ?_
  refine wp_iand (k := 23) rfl ?_
  refine w_ic (k := 24) (x := nI 2) rfl (oi_nI 2) ?_
  refine wp_ishl (k := 25) rfl ?_
  refine wp_ior (k := 26) rfl ?_
  refine w_ri (k := 27) rfl rfl rfl rfl ?_
  exact hq
theorem c_100 (hA : cT I A) (h : rw_B I 83 84 436 []) {n : Int32} (hq : ∀ I', rw_B I' 83 84 436 (chd n A) → fc [83, 84] I I' → Q none (am_SH N, I', L, am_RR w)) : am_call (d + 2) 100 [.ref 91, .int n] (am_SH N, I, L, am_RR w) Q := by
  have hl := hA.1
  refine am_enter (ls := [some _, some _, none]) (cs := am_c100) rfl rfl (Nat.le_of_ble_eq_true rfl) rfl ?_
  refine wp_aload (k := 0) rfl rfl ?_
  refine w_gr (k := 1) (s := 4) rfl rfl (by first | assumption | rfl) (by first | assumption | rfl) ?_
  refine w_Va (k := 2) [] rfl rfl rfl (Nat.le_of_ble_eq_true rfl) (by first | assumption | rfl) (Or.inl ⟨rfl, rfl⟩) ?_
  refine am_enter (ls := [some _]) (cs := am_c73) rfl rfl (Nat.le_of_ble_eq_true rfl) rfl ?_
  refine wp_aload (k := 0) rfl rfl ?_
  refine w_gr (k := 1) (s := 0) rfl rfl (by first | assumption | rfl) (by first | assumption | rfl) ?_
  refine w_ra (k := 2) rfl rfl rfl rfl ?_
  refine ⟨_, rfl, ?_⟩
  refine wp_astore (k := 3) rfl rfl ?_
  refine wp_aload (k := 4) rfl rfl ?_
  refine wp_iload (k := 5) rfl rfl ?_
  refine wp_i2l (k := 6) rfl ?_
  refine w_ic (k := 7) (x := nI 2) rfl (oi_nI 2) ?_
  refine w_Vv (k := 8) [_, _] rfl rfl rfl (Nat.le_of_ble_eq_true rfl) (by first | assumption | rfl) (Or.inl ⟨rfl, rfl⟩) ?_
  refine (c_87 (rwS N w) h (by decide) (by decide) (fun I1 k1 f1 => ⟨rfl, ?_⟩))
  rw [be_i _ (by decide), List.nil_append] at k1
  have A1 : cT I1 A := rw_keep hA (f1 5 (by decide) (by decide)) (f1 6 (by decide) (by decide))
  refine wp_aload (k := 9) rfl rfl ?_
  refine wp_aload (k := 10) rfl rfl ?_
  refine w_gr (k := 11) (s := 0) rfl rfl (by first | assumption | rfl) (by first | assumption | rfl) ?_
  refine w_Vi (k := 12) [] rfl rfl rfl (Nat.le_of_ble_eq_true rfl) (by first | assumption | rfl) (Or.inl ⟨rfl, rfl⟩) ?_
  refine (c_82 (rwT N w) A1 ?_)
  refine ⟨_, rfl, ?_⟩
  refine wp_i2l (k := 13) rfl ?_
  refine w_ic (k := 14) (x := nI 2) rfl (oi_nI 2) ?_
  refine w_Vv (k := 15) [_, _] rfl rfl rfl (Nat.le_of_ble_eq_true rfl) (by first | assumption | rfl) (Or.inl ⟨rfl, rfl⟩) ?_
  refine (c_87 (rwS N w) k1 (by rw [be_len]; decide) (by decide) (fun I2 k2 f2 => ⟨rfl, ?_⟩))
  rw [be_i _ (by decide), uI_nI (by omega)] at k2
  have A2 : cT I2 A := rw_keep A1 (f2 5 (by decide) (by decide)) (f2 6 (by decide) (by decide))
  refine wp_aload (k := 16) rfl rfl ?_
  refine wp_aload (k := 17) rfl rfl ?_
  refine w_gr (k := 18) (s := 0) rfl rfl (by first | assumption | rfl) (by first | assumption | rfl) ?_
  refine w_ic (k := 19) (x := nI 0) rfl (oi_nI 0) ?_
  refine wp_aload (k := 20) rfl rfl ?_
  refine w_gr (k := 21) (s := 0) rfl rfl (by first | assumption | rfl) (by first | assumption | rfl) ?_
  refine w_Vi (k := 22) [] rfl rfl rfl (Nat.le_of_ble_eq_true rfl) (by first | assumption | rfl) (Or.inl ⟨rfl, rfl⟩) ?_
  refine (c_82 (rwT N w) A2 ?_)
  refine ⟨_, rfl, ?_⟩
  refine w_Vv (k := 23) [_, _, _] rfl rfl rfl (Nat.le_of_ble_eq_true rfl) (by first | assumption | rfl) (Or.inl ⟨rfl, rfl⟩) ?_
  refine (c_89 (rwS N w) k2 (rwT N w) A2 (s := 0) (by omega) (by simp [be_len]; omega) (fun I3 k3 f3 => ⟨rfl, ?_⟩))
  refine w_rv (k := 24) rfl rfl rfl rfl ?_
  rw [List.drop_zero, List.take_length] at k3
  exact hq I3 k3 (fc_2 (a := 83) (b := 84) (fun x a b => by rw [f3 x a b, f2 x a b, f1 x a b]) (by decide) (by decide))
theorem c_101 (hA : cT I A) (h : rw_B I 83 84 436 []) (hT : tl_c I T) {ip port : Int32} (hq : ∀ I', rw_B I' 83 84 436 (ind A ip port (T 1)) → tl_c I' (inc T 1) → fc [83, 84, 90] I I' → Q none (am_SH N, I', L, am_RR w)) : am_call (d + 4) 101 [.ref 91, .int ip, .int port] (am_SH N, I, L, am_RR w) Q := by
  have hl := hA.1
  have hp := pad4_ge A.length
  refine am_enter (ls := [some _, some _, some _]) (cs := am_c101) rfl rfl (Nat.le_of_ble_eq_true rfl) rfl ?_
  refine wp_aload (k := 0) rfl rfl ?_
  refine w_gr (k := 1) (s := 7) rfl rfl (by first | assumption | rfl) (by first | assumption | rfl) ?_
  refine w_ic (k := 2) (x := nI 7) rfl (oi_nI 7) ?_
  refine w_ic (k := 3) (x := nI 1) rfl (oi_nI 1) ?_
  refine w_Si (k := 4) [_, _] rfl rfl rfl (Nat.le_of_ble_eq_true rfl) (Or.inl ⟨rfl, rfl⟩) ?_
  refine (c_60 ?_)
  refine ⟨_, rfl, ?_⟩
  refine w_ic (k := 5) (x := nI 0) rfl (oi_nI 0) ?_
  refine w_ic (k := 6) (x := nI 0) rfl (oi_nI 0) ?_
  refine wp_aload (k := 7) rfl rfl ?_
  refine w_gr (k := 8) (s := 4) rfl rfl (by first | assumption | rfl) (by first | assumption | rfl) ?_
  refine w_ic (k := 9) (x := nI 5) rfl (oi_nI 5) ?_
  refine w_Vi (k := 10) [_] rfl rfl rfl (Nat.le_of_ble_eq_true rfl) (by first | assumption | rfl) (Or.inl ⟨rfl, rfl⟩) ?_
  refine (c_79 hT ?_)
  refine ⟨_, rfl, ?_⟩
  rw [if_neg (by decide), show (nI 5).toNatClampNeg - 4 = 1 by decide]
  refine w_Vv (k := 11) [_, _, _, _] rfl rfl rfl (Nat.le_of_ble_eq_true rfl) (by first | assumption | rfl) (Or.inl ⟨rfl, rfl⟩) ?_
  refine (c_62 (pnS N w) (rwS N w) h (by decide) (fun I1 k1 f1 => ⟨rfl, ?_⟩))
  refine wp_aload (k := 12) rfl rfl ?_
  refine w_gr (k := 13) (s := 7) rfl rfl (by first | assumption | rfl) (by first | assumption | rfl) ?_
  refine w_ic (k := 14) (x := nI 18) rfl (oi_nI 18) ?_
  refine wp_iload (k := 15) rfl rfl ?_
  refine wp_iload (k := 16) rfl rfl ?_
  refine w_Vv (k := 17) [_, _, _] rfl rfl rfl (Nat.le_of_ble_eq_true rfl) (by first | assumption | rfl) (Or.inl ⟨rfl, rfl⟩) ?_
  refine (c_67 (pnS N w) (rwS N w) k1 (by rw [hd20_len]; decide) (by rw [hd20_len]; decide) (fun I2 k2 f2 => ⟨rfl, ?_⟩))
  have hl2 : (at_ (hd20 (uI (tyC (nI 7) (nI 1))) (uI (nI 0)) (uI (nI 0)) (uI (T 1))) (uI (nI 18)) (adr ip port)).length = 32 := by rw [at_len (by rw [hd20_len]; decide), hd20_len, adr_len]; rfl
  have A2 : cT I2 A := rw_keep hA (by rw [f2 5 (by decide) (by decide), f1 5 (by decide) (by decide)]) (by rw [f2 6 (by decide) (by decide), f1 6 (by decide) (by decide)])
  refine wp_aload (k := 18) rfl rfl ?_
  refine w_gr (k := 19) (s := 7) rfl rfl (by first | assumption | rfl) (by first | assumption | rfl) ?_
  refine wp_aload (k := 20) rfl rfl ?_
  refine w_gr (k := 21) (s := 0) rfl rfl (by first | assumption | rfl) (by first | assumption | rfl) ?_
  refine w_Vv (k := 22) [_] rfl rfl rfl (Nat.le_of_ble_eq_true rfl) (by first | assumption | rfl) (Or.inl ⟨rfl, rfl⟩) ?_
  refine (c_69 (pnS N w) (rwS N w) k2 (by rw [hl2]; decide) (rwT N w) A2 (by decide) (by rw [hl2]; unfold pad4; omega) (fun I3 k3 f3 => ⟨rfl, ?_⟩))
  have t3 : tl_c I3 T := fun j hj => by rw [f3 90 (by decide) (by decide), f2 90 (by decide) (by decide), f1 90 (by decide) (by decide)]; exact hT j hj
  refine wp_aload (k := 23) rfl rfl ?_
  refine w_gr (k := 24) (s := 4) rfl rfl (by first | assumption | rfl) (by first | assumption | rfl) ?_
  refine w_ic (k := 25) (x := nI 5) rfl (oi_nI 5) ?_
  refine w_Vv (k := 26) [_] rfl rfl rfl (Nat.le_of_ble_eq_true rfl) (by first | assumption | rfl) (Or.inl ⟨rfl, rfl⟩) ?_
  refine (c_78 (j := 1) (by decide) t3 (fun I4 t4 f4 => ⟨rfl, ?_⟩))
  refine w_rv (k := 27) rfl rfl rfl rfl ?_
  refine hq I4 (rw_keep k3 (f4 83 (by decide)) (f4 84 (by decide))) t4 (fun x hx => ?_)
  simp only [List.mem_cons, List.not_mem_nil, or_false, not_or] at hx
  rw [f4 x hx.2.2, f3 x hx.1 hx.2.1, f2 x hx.1 hx.2.1, f1 x hx.1 hx.2.1]
theorem ptf_lt {rel : Int32} {k : Nat} (h : ptf al rel = some k) : k < 8 ∧ ∃ a, al k = some a ∧ a.1.2.2.2 = rel := by
  obtain ⟨-, h2, h3, -⟩ := ff_some h
  refine ⟨by omega, ?_⟩
  unfold isp at h3
  cases ha : al k with
  | none => rw [ha] at h3; cases h3
  | some a => rw [ha] at h3; exact ⟨a, rfl, of_decide_eq_true h3⟩
theorem c_99 (h : tbc I L al) (hA : cT I A) (hp : po_c I s) (hT : tl_c I T) {rel ip port : Int32} (hq : ∀ I', cT I' [] → po_c I' (pr_s al A s T rel ip port).1 → lr_ I' 85 (pr_s al A s T rel ip port).1.2.2.2.2 → tl_c I' (if (pr_s al A s T rel ip port).1.1 then (pr_s al A s T rel ip port).2 else inc (pr_s al A s T rel ip port).2 5) → fc [5, 82, 83, 84, 85, 86, 87, 88, 89, 90] I I' → Q (some (.int (if (pr_s al A s T rel ip port).1.1 then nI 1 else nI 0))) (am_SH N, I', L, am_RR w)) : am_call (d + 5) 99 [.ref 91, .int rel, .int ip, .int port] (am_SH N, I, L, am_RR w) Q := by
  have hl := hA.1
  -- the end: the tape is cut, the post is closed
  have fin5 : ∀ (I1 : Nat → Nat → Int32) (o4 o5 : Option Value), cT I1 A → po_c I1 (pr_s al A s T rel ip port).1 → tl_c I1 (pr_s al A s T rel ip port).2 → fc [5, 82, 83, 84, 85, 86, 87, 88, 89, 90] I I1 → am_V 99 am_c99 (d + 4) (am_SH N) Q 44 [some (.ref 91), some (.int rel), some (.int ip), some (.int port), o4, o5] [] (am_SH N, I1, L, am_RR w) := by
    intro I1 o4 o5 a1 p1 t1 f1
    refine wp_aload (k := 44) rfl rfl ?_
    refine w_gr (k := 45) (s := 0) rfl rfl (by first | assumption | rfl) (by first | assumption | rfl) ?_
    refine w_ic (k := 46) (x := nI 0) rfl (oi_nI 0) ?_
    refine w_Vv (k := 47) [_] rfl rfl rfl (Nat.le_of_ble_eq_true rfl) (by first | assumption | rfl) (Or.inl ⟨rfl, rfl⟩) ?_
    refine (c_86 (rwT N w) a1 (Nat.zero_le _) (fun I2 k2 f2 => ⟨rfl, ?_⟩))
    rw [List.take_zero] at k2
    have f2' : fc [5] I1 I2 := fc_1 (a := 5) f2 (by decide)
    have p2 := po_k p1 f2' (by decide) (by decide) (by decide)
    have t2 : tl_c I2 (pr_s al A s T rel ip port).2 := fun j hj => by rw [f2 90 (by decide)]; exact t1 j hj
    refine wp_aload (k := 48) rfl rfl ?_
    refine w_gr (k := 49) (s := 4) rfl rfl (by first | assumption | rfl) (by first | assumption | rfl) ?_
    refine w_Vi (k := 50) [] rfl rfl rfl (Nat.le_of_ble_eq_true rfl) (by first | assumption | rfl) (Or.inl ⟨rfl, rfl⟩) ?_
    refine (c_77 p2 t2 (fun I3 p3 l3 t3 f3 => ⟨_, rfl, ?_⟩))
    refine w_ri (k := 51) rfl rfl rfl rfl ?_
    exact hq I3 (rw_keep k2 (f3 5 (by decide)) (f3 6 (by decide))) p3 l3 t3 (fc_t f1 (fc_t (fc_mo f2' (by decide)) (fc_mo f3 (by decide))))
  refine am_enter (ls := [some _, some _, some _, some _, none, none]) (cs := am_c99) rfl rfl (Nat.le_of_ble_eq_true rfl) rfl ?_
  refine wp_aload (k := 0) rfl rfl ?_
  refine w_gr (k := 1) (s := 4) rfl rfl (by first | assumption | rfl) (by first | assumption | rfl) ?_
  refine w_Vv (k := 2) [] rfl rfl rfl (Nat.le_of_ble_eq_true rfl) (by first | assumption | rfl) (Or.inl ⟨rfl, rfl⟩) ?_
  refine (c_75 hp (fun I1 p1 f1 => ⟨rfl, ?_⟩))
  have h1 : tbc I1 L al := tbc_k h (fun x h1 h2 => f1 x (by simp only [List.mem_cons, List.not_mem_nil, or_false, not_or]; omega)) (fun _ _ _ => rfl)
  have A1 := cT_k hA f1 (by decide) (by decide)
  have T1 : tl_c I1 T := fun j hj => by rw [f1 90 (by decide)]; exact hT j hj
  have f1' : fc [5, 82, 83, 84, 85, 86, 87, 88, 89, 90] I I1 := fc_mo f1 (by decide)
  refine wp_aload (k := 3) rfl rfl ?_
  refine w_gr (k := 4) (s := 3) rfl rfl (by first | assumption | rfl) (by first | assumption | rfl) ?_
  refine wp_iload (k := 5) rfl rfl ?_
  refine w_Vq (k := 6) [_] rfl rfl rfl (Nat.le_of_ble_eq_true rfl) (by first | assumption | rfl) (Or.inl ⟨rfl, rfl⟩) ?_
  refine (c_28 h1 ?_)
  refine ⟨_, rfl, ?_⟩
  cases hk : ptf al rel with
  | none =>
    have e : pr_s al A s T rel ip port = (clr s, T) := by unfold pr_s; rw [hk]; rfl
    refine wp_astoreN (k := 7) (ls2 := [some _, some _, some _, some _, some _, none]) rfl rfl ?_
    refine wp_aloadN (k := 8) rfl rfl ?_
    refine wp_ifnullN (k := 9) rfl ?_
    exact fin5 I1 _ _ A1 (by rw [e]; exact p1) (by rw [e]; exact T1) f1'
  | some k =>
    obtain ⟨hk8, a, hak, har⟩ := ptf_lt hk
    have qa := aq_of N w hk8
    have q0 := qa.1
    have ho := h1 k hk8
    rw [hak] at ho
    obtain ⟨a1, a2, a3, a4, a5, a6, a7, a8, a9, a10⟩ := id ho
    refine wp_astore (k := 7) (ls2 := [some _, some _, some _, some _, some _, none]) rfl rfl ?_
    refine wp_aload (k := 8) rfl rfl ?_
    refine wp_ifnull (k := 9) rfl ?_
    refine wp_aload (k := 10) rfl rfl ?_
    refine wp_iload (k := 11) rfl rfl ?_
    refine w_Vi (k := 12) [_] rfl rfl rfl (Nat.le_of_ble_eq_true rfl) (by first | assumption | rfl) (Or.inl ⟨rfl, rfl⟩) ?_
    refine (c_8 qa a9 ?_)
    refine ⟨_, rfl, ?_⟩
    refine w_b_eq (k := 13) (t' := 44) rfl rfl (fun k2 => ?_) (fun k2 => ?_)
    · have e : pr_s al A s T rel ip port = (clr s, T) := by
        unfold pr_s
        rw [hk]
        show (match al k with | none => _ | some a => _) = _
        rw [hak]
        simp only
        rw [if_neg (by rw [k2]; decide)]
      exact fin5 I1 _ _ A1 (by rw [e]; exact p1) (by rw [e]; exact T1) f1'
    · refine wp_aload (k := 14) rfl rfl ?_
      refine w_gr (k := 15) (s := 4) rfl rfl (by first | assumption | rfl) (by first | assumption | rfl) ?_
      refine wp_aload (k := 16) rfl rfl ?_
      refine w_gi (k := 17) (s := 1) rfl rfl (by first | assumption | rfl) a2 ?_
      refine wp_aload (k := 18) rfl rfl ?_
      refine w_gi (k := 19) (s := 2) rfl rfl (by first | assumption | rfl) a3 ?_
      refine w_ic (k := 20) (x := nI 3478) rfl (oi_nI 3478) ?_
      refine w_Vv (k := 21) [_, _, _] rfl rfl rfl (Nat.le_of_ble_eq_true rfl) (by first | assumption | rfl) (Or.inl ⟨rfl, rfl⟩) ?_
      refine (c_76 p1 T1 (fun I2 p2 t2 f2 => ⟨rfl, ?_⟩))
      refine wp_aload (k := 22) rfl rfl ?_
      refine w_gr (k := 23) (s := 4) rfl rfl (by first | assumption | rfl) (by first | assumption | rfl) ?_
      refine w_ic (k := 24) (x := nI 7) rfl (oi_nI 7) ?_
      refine w_Vv (k := 25) [_] rfl rfl rfl (Nat.le_of_ble_eq_true rfl) (by first | assumption | rfl) (Or.inl ⟨rfl, rfl⟩) ?_
      refine (c_78 (j := 3) (by decide) t2 (fun I3 t3 f3 => ⟨rfl, ?_⟩))
      have f3' : fc [82, 90] I1 I3 := fc_t f2 (fc_1 (a := 90) f3 (by decide))
      have p3 := po_k p2 (P := [90]) (fc_1 (a := 90) f3 (by decide)) (by decide) (by decide) (by decide)
      have A3 := cT_k A1 f3' (by decide) (by decide)
      have hfq : ∀ x, 26 + 7 * k ≤ x → x ≤ 26 + 7 * k + 6 → I3 x = I1 x := fun x h1 h2 => f3' x (by simp only [List.mem_cons, List.not_mem_nil, or_false, not_or]; omega)
      have c3 : ch_c I3 L (26 + 7 * k) a.2.2.2.2 := ch_k a10 (by rw [hfq _ (by omega) (by omega)]) (hfq _ (by omega) (by omega)) (hfq _ (by omega) (by omega)) (hfq _ (by omega) (by omega)) rfl
      have F3 : fc [5, 82, 83, 84, 85, 86, 87, 88, 89, 90] I I3 := fc_t f1' (fc_mo f3' (by decide))
      refine wp_aload (k := 26) rfl rfl ?_
      refine wp_iload (k := 27) rfl rfl ?_
      refine wp_iload (k := 28) rfl rfl ?_
      refine w_Vi (k := 29) [_, _] rfl rfl rfl (Nat.le_of_ble_eq_true rfl) (by first | assumption | rfl) (Or.inl ⟨rfl, rfl⟩) ?_
      refine (c_13 qa c3 ?_)
      refine ⟨_, rfl, ?_⟩
      cases hc : ct a.2.2.2.2 ip port with
      | some c =>
        obtain ⟨hcl, -⟩ := ct_lt hc
        have hcl8 := c3.2.1
        have hn := (c3.2.2 c hcl).1
        have e : pr_s al A s T rel ip port = ((true, a.1.1, a.1.2.1, nI 3478, chd (a.2.2.2.2.getD c c0).1 A), inc (inc T 0) 3) := by
          unfold pr_s
          rw [hk]
          show (match al k with | none => _ | some a => _) = _
          rw [hak]
          simp only
          rw [if_pos k2, hc]
        refine wp_istore (k := 30) (ls2 := [some _, some _, some _, some _, some _, some _]) rfl rfl ?_
        refine wp_iload (k := 31) rfl rfl ?_
        refine w_ic (k := 32) (x := (-1)) rfl (by decide) ?_
        refine w_c_eq (k := 33) (t' := 40) rfl rfl (fun zq => absurd zq (nI_ne1 (by omega))) (fun zq => ?_)
        refine wp_aload (k := 34) rfl rfl ?_
        refine wp_aload (k := 35) rfl rfl ?_
        refine wp_iload (k := 36) rfl rfl ?_
        refine w_Vi (k := 37) [_] rfl rfl rfl (Nat.le_of_ble_eq_true rfl) (by first | assumption | rfl) (Or.inl ⟨rfl, rfl⟩) ?_
        refine (c_17 qa (by omega) ?_)
        refine ⟨_, rfl, ?_⟩
        rw [hn]
        refine w_Vv (k := 38) [_] rfl rfl rfl (Nat.le_of_ble_eq_true rfl) (by first | assumption | rfl) (Or.inl ⟨rfl, rfl⟩) ?_
        refine (c_100 A3 p3.2.2.2.2 (fun I4 k4 f4 => ⟨rfl, ?_⟩))
        refine w_goto (k := 39) (t' := 44) rfl rfl ?_
        refine fin5 I4 _ _ (cT_k A3 f4 (by decide) (by decide)) ?_ ?_ (fc_t F3 (fc_mo f4 (by decide)))
        · rw [e]
          obtain ⟨z1, z2, z3, z4, -⟩ := p3
          exact ⟨by rw [f4 82 (by decide)]; exact z1, by rw [f4 82 (by decide)]; exact z2, by rw [f4 82 (by decide)]; exact z3, by rw [f4 82 (by decide)]; exact z4, k4⟩
        · rw [e]
          exact fun j hj => by rw [f4 90 (by decide)]; exact t3 j hj
      | none =>
        have e : pr_s al A s T rel ip port = ((true, a.1.1, a.1.2.1, nI 3478, ind A ip port (T 1)), inc (inc (inc T 0) 3) 1) := by
          unfold pr_s
          rw [hk]
          show (match al k with | none => _ | some a => _) = _
          rw [hak]
          simp only
          rw [if_pos k2, hc]
        refine wp_istore (k := 30) (ls2 := [some _, some _, some _, some _, some _, some _]) rfl rfl ?_
        refine wp_iload (k := 31) rfl rfl ?_
        refine w_ic (k := 32) (x := (-1)) rfl (by decide) ?_
        refine w_c_eq (k := 33) (t' := 40) rfl rfl (fun zq => ?_) (fun zq => absurd rfl zq)
        refine wp_aload (k := 40) rfl rfl ?_
        refine wp_iload (k := 41) rfl rfl ?_
        refine wp_iload (k := 42) rfl rfl ?_
        refine w_Vv (k := 43) [_, _] rfl rfl rfl (Nat.le_of_ble_eq_true rfl) (by first | assumption | rfl) (Or.inl ⟨rfl, rfl⟩) ?_
        refine (c_101 A3 p3.2.2.2.2 t3 (fun I4 k4 t4 f4 => ⟨rfl, ?_⟩))
        refine fin5 I4 _ _ (cT_k A3 f4 (by decide) (by decide)) ?_ ?_ (fc_t F3 (fc_mo f4 (by decide)))
        · rw [e]
          obtain ⟨z1, z2, z3, z4, -⟩ := p3
          exact ⟨by rw [f4 82 (by decide)]; exact z1, by rw [f4 82 (by decide)]; exact z2, by rw [f4 82 (by decide)]; exact z3, by rw [f4 82 (by decide)]; exact z4, k4⟩
        · rw [e]; exact t4
end PE
