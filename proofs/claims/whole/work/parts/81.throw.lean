/-! what a throw needs of the tables -/
def th_cls : Nat → String
  | 0 => "java/lang/IllegalArgumentException"
  | 1 => "java/lang/IllegalStateException"
  | _ => "java/lang/IndexOutOfBoundsException"
def th_ik : Nat → Nat
  | 0 => 33
  | 1 => 44
  | _ => 63
def th_ic : Nat → Nat
  | 0 => 37
  | 1 => 48
  | _ => 67
def th_names : List String := ["java/lang/RuntimeException", "java/lang/Exception"]
def th_ws (k : Nat) : List Cond := Cond.classLink RX4 (th_ik k) (th_cls k) :: Cond.initialized (th_cls k) :: vx_atS RX4 (th_ic k) (th_cls k) th_names
set_option maxRecDepth 100000 in
theorem th_in : ((List.range 3).all fun k => (th_ws k).all fun w => decide (w ∈ lw_tbl) && vx_ot w) = true := by decide +kernel
