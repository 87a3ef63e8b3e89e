/-- a stretch of the check of one method -/
def chkAt (k pc : Nat) : Bool := match mcode k pc with
  | none => true
  | some e => chkE k pc e
def chkS (k a n : Nat) : Bool := (List.range' a n).all fun pc => chkAt k pc
set_option maxRecDepth 100000 in
theorem cs0 : chkS 281 0 250 = true := by decide +kernel
set_option maxRecDepth 100000 in
theorem cs1 : chkS 281 250 250 = true := by decide +kernel
