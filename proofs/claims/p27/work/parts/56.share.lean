/-! the share of the table's places that hold values -/
theorem fd_ok {a T : Nat} (h0 : 0 < T) (hT : T ≤ 40) (ha : a ≤ 8 * T) : nn (fdV a T) = true ∧ (¬ Op.cmpValue (FP.dcmp (fdV a T) 0) .l < 0) ∧ ¬ 0 < Op.cmpValue (FP.dcmp (fdV a T) 0x3ff0000000000000) .g := by
  have h2 := fd_c h0 hT ha
  unfold fdC at h2
  rw [Bool.and_eq_true, Bool.and_eq_true, decide_eq_true_eq, decide_eq_true_eq] at h2
  exact h2
theorem fd_0 : (¬ Op.cmpValue (FP.dcmp 0 0) .l < 0) ∧ ¬ 0 < Op.cmpValue (FP.dcmp 0 0x3ff0000000000000) .g := by
  constructor
  · decide +kernel
  · decide +kernel
/-- the share of the table's places that hold values -/
def shV (w : Nat → Int32) (T : Nat) : UInt64 := if T = 0 then 0 else fdV (Int32.toNatClampNeg (tbVals w T)) T
section QY
variable {m mi x : Mem} {n k L T : Nat} {w tx : Nat → Int32} {pa : Nat → Nat → Int32} {nn' TT : Nat → Nat}
theorem vals_le (w : Nat → Int32) (r : Nat) : ∃ a, a ≤ 8 ∧ valsIn w r = zI a := sg01 (fun c => w (9 * r + 1 + c) = -100000) 8
theorem tb_le (w : Nat → Int32) (T : Nat) : ∃ a, a ≤ 8 * T ∧ tbVals w T = zI a := by
  unfold tbVals
  induction T with
  | zero => exact ⟨0, Nat.le_refl _, rfl⟩
  | succ T ih =>
    obtain ⟨a, h1, h2⟩ := ih
    obtain ⟨b, h3, h4⟩ := vals_le w T
    refine ⟨a + b, by omega, ?_⟩
    show sg (valsIn w) T + valsIn w T = _
    rw [h2, h4, zI_add]
theorem p_share (h : SR m.1 (m.2.1 6) w n) (hs : m.2.1 6 < 7) (hI : WI w n T) : F_X3_fullness m = some (shV w T) := by
  obtain ⟨i1, i2, i3, i4, i5, i6, i7, i8, i9, i10, i11, i12, i13⟩ := id hI
  have e1 := p_tableRows h i7
  rw [inTb_T i3 i7 i8] at e1
  have e2 := p_tableValues h i4 i8
  obtain ⟨a, ha, ea⟩ := tb_le w T
  unfold shV
  by_cases h0 : T = 0
  · rw [if_pos h0]
    subst h0
    have z : ¬ 0 < 8 * 0 := by omega
    simp (discharger := omega) only [F_X3_fullness, hs, e1, J_X3_fullness_30, bd_e, bo_e, bm_e, bts_l, bts_r, btm_l, btm_r, bp_lt, ck_ib, ck_z, ck_o, ifT, ifF, n10, n01, pv_v, if_pos, if_neg, zI_nat, zI_add, zI_mul, zI_addl, zI_laddl, zI_mull, zI_lmul, zI_subl, zI_pred, zI_le, zI_lt, zI_eq, zI_lel, zI_lle, zI_ltl, zI_llt, zI_eql, zI_leq, zI_ne1, zI_1ne]
  · rw [if_neg h0, ea, zI_nat (by omega)]
    rw [ea] at e2
    have hk : nn (FP.ddiv (FP.i2d (zI a)) (FP.i2d (zI (8 * T)))) = true := (fd_ok (by omega) i12 ha).1
    have hp : 0 < 8 * T := by omega
    have ck1 : ∀ {α : Type} (y : Option α), ck (nn (FP.ddiv (FP.i2d (zI a)) (FP.i2d (zI (8 * T))))) y = y := fun y => by rw [hk]; rfl
    simp (discharger := omega) only [F_X3_fullness, hs, e1, e2, hp, ck1, J_X3_fullness_30, bd_e, bo_e, bm_e, bts_l, bts_r, btm_l, btm_r, bp_lt, ck_ib, ck_z, ck_o, ifT, ifF, n10, n01, pv_v, if_pos, if_neg, zI_nat, zI_add, zI_mul, zI_addl, zI_laddl, zI_mull, zI_lmul, zI_subl, zI_pred, zI_le, zI_lt, zI_eq, zI_lel, zI_lle, zI_ltl, zI_llt, zI_eql, zI_leq, zI_ne1, zI_1ne] <;> rfl
theorem sh_in01 (hI : WI w n T) : (¬ Op.cmpValue (FP.dcmp (shV w T) 0) .l < 0) ∧ ¬ 0 < Op.cmpValue (FP.dcmp (shV w T) 0x3ff0000000000000) .g := by
  have i12 := hI.2.2.2.2.2.2.2.2.2.2.2.1
  obtain ⟨a, ha, ea⟩ := tb_le w T
  unfold shV
  by_cases h0 : T = 0
  · rw [if_pos h0]; exact fd_0
  · rw [if_neg h0, ea, zI_nat (by omega)]
    exact (fd_ok (by omega) i12 ha).2
end QY
