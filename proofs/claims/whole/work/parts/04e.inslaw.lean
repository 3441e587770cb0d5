theorem lw_mc (X : Nat × (Nat → Int32)) : Mc (ML_law X) = cL_law := rfl
theorem lw_mo (X : Nat × (Nat → Int32)) : Mo (ML_law X) = RL := rfl
theorem lw_mp (X : Nat × (Nat → Int32)) : Mp (ML_law X) = 11 := rfl
theorem lw_ml (X : Nat × (Nat → Int32)) : ML (ML_law X) = 4 := rfl
theorem lw_my (X : Nat × (Nat → Int32)) : My (ML_law X) = yL_law := rfl
theorem ins_law (X : Nat × (Nat → Int32)) (pc : Nat) : ins (ML_law X) pc = ins (ML_law (0, fun _ => 0)) pc := by
  simp only [ins, am_sok, lw_mc, lw_mo, lw_mp, lw_ml, lw_my]
  generalize decode cL_law pc = z
  rfl
