/-! shares: every share is tried -/
def fdV (a T : Nat) : UInt64 := FP.ddiv (FP.i2d (zI a)) (FP.i2d (zI (8 * T)))
def fdC (a T : Nat) : Bool := nn (fdV a T) && (decide (¬ Op.cmpValue (FP.dcmp (fdV a T) 0) .l < 0) && decide (¬ 0 < Op.cmpValue (FP.dcmp (fdV a T) 0x3ff0000000000000) .g))
set_option maxRecDepth 100000 in
theorem fd_t0 : ((List.range 10).all fun T => (List.range (8 * (T + 1) + 1)).all fun a => fdC a (T + 1)) = true := by decide +kernel
set_option maxRecDepth 100000 in
theorem fd_t1 : ((List.range 6).all fun T => (List.range (8 * (T + 11) + 1)).all fun a => fdC a (T + 11)) = true := by decide +kernel
set_option maxRecDepth 100000 in
theorem fd_t2 : ((List.range 5).all fun T => (List.range (8 * (T + 17) + 1)).all fun a => fdC a (T + 17)) = true := by decide +kernel
set_option maxRecDepth 100000 in
theorem fd_t3 : ((List.range 4).all fun T => (List.range (8 * (T + 22) + 1)).all fun a => fdC a (T + 22)) = true := by decide +kernel
set_option maxRecDepth 100000 in
theorem fd_t4 : ((List.range 3).all fun T => (List.range (8 * (T + 26) + 1)).all fun a => fdC a (T + 26)) = true := by decide +kernel
set_option maxRecDepth 100000 in
theorem fd_t5 : ((List.range 3).all fun T => (List.range (8 * (T + 29) + 1)).all fun a => fdC a (T + 29)) = true := by decide +kernel
set_option maxRecDepth 100000 in
theorem fd_t6 : ((List.range 3).all fun T => (List.range (8 * (T + 32) + 1)).all fun a => fdC a (T + 32)) = true := by decide +kernel
set_option maxRecDepth 100000 in
theorem fd_t7 : ((List.range 2).all fun T => (List.range (8 * (T + 35) + 1)).all fun a => fdC a (T + 35)) = true := by decide +kernel
set_option maxRecDepth 100000 in
theorem fd_t8 : ((List.range 2).all fun T => (List.range (8 * (T + 37) + 1)).all fun a => fdC a (T + 37)) = true := by decide +kernel
set_option maxRecDepth 100000 in
theorem fd_t9 : ((List.range 2).all fun T => (List.range (8 * (T + 39) + 1)).all fun a => fdC a (T + 39)) = true := by decide +kernel
theorem fd_c {a T : Nat} (h0 : 0 < T) (hT : T ≤ 40) (ha : a ≤ 8 * T) : fdC a T = true := by
  have pick : ∀ (s c : Nat), ((List.range c).all fun T => (List.range (8 * (T + s) + 1)).all fun a => fdC a (T + s)) = true → s ≤ T → T < s + c → fdC a T = true := by
    intro s c h h1 h2
    have h3 := List.all_eq_true.mp h (T - s) (List.mem_range.mpr (by omega))
    rw [show T - s + s = T by omega] at h3
    exact List.all_eq_true.mp h3 a (List.mem_range.mpr (by omega))
  rcases (show (1 ≤ T ∧ T < 1 + 10) ∨ (11 ≤ T ∧ T < 11 + 6) ∨ (17 ≤ T ∧ T < 17 + 5) ∨ (22 ≤ T ∧ T < 22 + 4) ∨ (26 ≤ T ∧ T < 26 + 3) ∨ (29 ≤ T ∧ T < 29 + 3) ∨ (32 ≤ T ∧ T < 32 + 3) ∨ (35 ≤ T ∧ T < 35 + 2) ∨ (37 ≤ T ∧ T < 37 + 2) ∨ (39 ≤ T ∧ T < 39 + 2) by omega) with ⟨h1, h2⟩ | ⟨h1, h2⟩ | ⟨h1, h2⟩ | ⟨h1, h2⟩ | ⟨h1, h2⟩ | ⟨h1, h2⟩ | ⟨h1, h2⟩ | ⟨h1, h2⟩ | ⟨h1, h2⟩ | ⟨h1, h2⟩
  · exact pick 1 10 fd_t0 h1 h2
  · exact pick 11 6 fd_t1 h1 h2
  · exact pick 17 5 fd_t2 h1 h2
  · exact pick 22 4 fd_t3 h1 h2
  · exact pick 26 3 fd_t4 h1 h2
  · exact pick 29 3 fd_t5 h1 h2
  · exact pick 32 3 fd_t6 h1 h2
  · exact pick 35 2 fd_t7 h1 h2
  · exact pick 37 2 fd_t8 h1 h2
  · exact pick 39 2 fd_t9 h1 h2
