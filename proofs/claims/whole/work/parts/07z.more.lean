-- MORE ROWS: new int rows of any length, all 0
theorem z0c (n : Nat) (cA : ClassId) : vp_cell cA (n, .inl (fun _ => nI 0)) = arrV cA n (fun _ => defaultValue .int) := rfl
