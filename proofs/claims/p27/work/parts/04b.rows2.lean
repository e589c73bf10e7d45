/-! four rows more -/
section ROWS2
variable {X : XW} {K : MC} {own : String} {cc : ByteArray} {n d pc : Nat} {lv lv' : List (Nat × Value)} {st : List Value} {mm : Mem} {α : Type} {r : α}
theorem r_iremv (hk : Ok X K own cc n d) {x y : Int32} {f : Int32 → Option α} (hF : ck (!decide (y = 0)) (bd (x - x / y * y) f) = some r) (hd : decode cc pc = .ok (.irem, 1)) (g : ∀ v, f v = some r → G X K (pc + 1) lv (.int v :: st) mm) : G X K pc lv (.int y :: .int x :: st) mm := by
  obtain ⟨h1, h2⟩ := ck_some hF
  rw [Bool.not_eq_true', decide_eq_false_iff_not] at h1
  exact r_irem hk h1 h2 hd g
theorem r_ishl (hk : Ok X K own cc n d) {x y : Int32} {f : Int32 → Option α} (hF : bd (x <<< (y &&& 31)) f = some r) (hd : decode cc pc = .ok (.ishl, 1)) (g : ∀ v, f v = some r → G X K (pc + 1) lv (.int v :: st) mm) : G X K pc lv (.int y :: .int x :: st) mm :=
  fun H locs ls hH hS hl => lv_ishl hk.1 hk.2.1 hd (g _ hF H locs ls hH hS hl)
theorem r_ishr (hk : Ok X K own cc n d) {x y : Int32} {f : Int32 → Option α} (hF : bd (x >>> (y &&& 31)) f = some r) (hd : decode cc pc = .ok (.ishr, 1)) (g : ∀ v, f v = some r → G X K (pc + 1) lv (.int v :: st) mm) : G X K pc lv (.int y :: .int x :: st) mm :=
  fun H locs ls hH hS hl => lv_ishr hk.1 hk.2.1 hd (g _ hF H locs ls hH hS hl)
theorem r_ior (hk : Ok X K own cc n d) {x y : Int32} {f : Int32 → Option α} (hF : bd (x ||| y) f = some r) (hd : decode cc pc = .ok (.ior, 1)) (g : ∀ v, f v = some r → G X K (pc + 1) lv (.int v :: st) mm) : G X K pc lv (.int y :: .int x :: st) mm :=
  fun H locs ls hH hS hl => lv_ior hk.1 hk.2.1 hd (g _ hF H locs ls hH hS hl)
end ROWS2
