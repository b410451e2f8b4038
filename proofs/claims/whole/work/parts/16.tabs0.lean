/-! the tables are the launch's: by program -/
def am_lkx (x : Nat) : Bool := match am_cl[x]?, am_cx[x]? with
  | some q, some z => am_lk (am_cix.getD x []) q z
  | _, _ => true
def am_flx (x : Nat) : Bool := match am_fl[x]? with
  | some q => am_flok x q
  | none => true
theorem am_tf0 : (List.range' 0 20).all am_flx = true := by decide +kernel
theorem am_tf20 : (List.range' 20 20).all am_flx = true := by decide +kernel
theorem am_tf40 : (List.range' 40 20).all am_flx = true := by decide +kernel
theorem am_tf60 : (List.range' 60 20).all am_flx = true := by decide +kernel
theorem am_tf80 : (List.range' 80 20).all am_flx = true := by decide +kernel
theorem am_tf100 : (List.range' 100 20).all am_flx = true := by decide +kernel
theorem am_tf120 : (List.range' 120 17).all am_flx = true := by decide +kernel
