/-! move -/
section QT
variable {m m2 mi x : Mem} {n k L T s q t r : Nat} {w w2 v tx : Nat → Int32} {pa : Nat → Nat → Int32} {nn TT : Nat → Nat}
theorem own_cn (w : Nat → Int32) (n t : Nat) : rwsOf w n t = zI (cn (fun r => decide (w (9 * r) = zI t)) n) := by
  unfold rwsOf
  refine sg_cn (fun r hr => ?_)
  by_cases e : w (9 * r) = zI t
  · rw [if_pos e, decide_eq_true e]; rfl
  · rw [if_neg e, decide_eq_false e]; rfl
end QT

