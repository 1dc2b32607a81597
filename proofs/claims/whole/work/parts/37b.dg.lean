theorem dg_z {d : Int64} {f : Nat → Int} : dg d f 0 = d := rfl
theorem dg_1 {d : Int64} {f : Nat → Int} : dg d f 1 = d * 31 + Int64.ofInt (f 0) := rfl
theorem dg_s {d : Int64} {f : Nat → Int} {n : Nat} : dg d f (n + 1) = dg d f n * 31 + Int64.ofInt (f n) := rfl
theorem dgL_z {w : Mm} {d : Int64} : dgL w d 0 = d := rfl
theorem dgL_s {w : Mm} {d : Int64} {n : Nat} : dgL w d (n + 1) = dgV w n (dgL w d n) := rfl
