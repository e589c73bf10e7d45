/-! row, the call -/
section QV
variable {m m1 m2 mi x : Mem} {n n0 k L T s q t r p : Nat} {w w1 w2 v tx : Nat → Int32} {pa : Nat → Nat → Int32} {nn TT : Nat → Nat} {l : List Nat}
/- a row more, behind the others -/
def nwW (w : Nat → Int32) (n t : Nat) : Nat → Int32 := fun i => if i = 1080 then zI (n + 1) else if i = 9 * n then zI t else if 9 * n < i ∧ i < 9 * n + 9 then -100000 else w i
end QV

