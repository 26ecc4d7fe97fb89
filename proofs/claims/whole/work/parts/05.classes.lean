/-! ===== my tables of the classes: kinds of fields (0 int, 1 long, 2 reference, 3 boolean), the statics ===== -/
def am_cl : List vw_C := [(RX0, TX0, 16), (RX1, TX1, 2), (RX2, TX2, 3), (RX3, TX3, 10), (RX4, TX4, 2), (RX5, TX5, 7), (RX6, TX6, 2), (RX7, TX7, 4), (RX8, TX8, 15), (RX9, TX9, 2), (RX10, TX10, 6), (RX11, TX11, 8), (RX12, TX12, 68)]
def am_fk : List (List Nat) := [[3, 0, 0, 0, 0, 1, 1, 0, 2, 2, 0, 2, 2, 2, 2, 0], [2, 1], [2, 2, 0], [2, 2, 2, 2, 2, 3, 0, 0, 0, 0], [2, 2], [2, 2, 2, 3, 0, 0, 0], [2, 0], [2, 2, 2, 2], [2, 2, 2, 2, 2, 2, 2, 2, 2, 2, 0, 0, 0, 2, 0], [2, 2], [2, 2, 0, 1, 1, 0], [2, 2, 2, 2, 2, 2, 2, 2], [0, 2, 2, 2, 2, 2, 0, 1, 2, 2, 2, 2, 2, 2, 2, 0, 2, 0, 3, 0, 0, 0, 2, 0, 2, 2, 0, 2, 0, 1, 0, 2, 2, 0, 1, 2, 2, 2, 2, 2, 2, 2, 2, 2, 2, 2, 2, 2, 2, 2, 2, 2, 2, 0, 0, 0, 0, 2, 0, 0, 0, 0, 0, 0, 0, 0, 0, 0]]
def am_sf : Nat → String × String := fun j => match j with
  | 0 => ("RelayHouse$Sha", "FIRST")
  | 1 => ("RelayHouse$Sha", "ROUNDS")
  | _ => ("RelayHouse$Pen", "NIBBLES")
/-- the words that hold at every call -/
def am_tbl : List Cond := lw_tbl.filter goodWord
