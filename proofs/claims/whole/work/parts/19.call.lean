/-- a method comes to its end with Q; d: how deep calls may go -/
noncomputable def am_call : Nat → am_C
  | 0 => fun _ _ _ _ => False
  | d + 1 => fun q as h Q => (am_slots as).length ≤ am_nl q ∧ am_WP am_rc am_na am_mc am_ms (h.1.length + am_mc q) (am_sl h.1 + am_ms q) (am_cs q) (am_call d) (am_Z (am_rt q) (am_mc q) (am_ms q) h.1.length (am_sl h.1) Q) 0 (am_ent as (am_nl q)) [] h
