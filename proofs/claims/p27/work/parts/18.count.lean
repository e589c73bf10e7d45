/-! what count tells -/
def mnC (w : Nat → Int32) (c : Nat) : Int32 := sg (fun t => if w (1081 + 8 * t + c) = -1 then 0 else 1) 3
def cwF (w : Nat → Int32) (p1 p2 : Int32) (c : Nat) : Int32 := if mnC w c < p1 then 0 else if p2 < mnC w c then 0 else 1
def shF (w : Nat → Int32) (p1 : Int32) (c : Nat) : Int32 := if mnC w c < p1 then 0 else 1
theorem mnC_of (w : Nat → Int32) (c : Nat) : ∃ k, k ≤ 3 ∧ mnC w c = zI k := sg01 (fun t => w (1081 + 8 * t + c) = -1) 3
section PF
variable {m : Mem} {n T : Nat} {w : Nat → Int32}
theorem cw_in (h : SR m.1 (m.2.1 6) w n) (p1 p2 v3 : Int32) (kb : Int32 → Int32 → Option Int32) {c : Nat} (hc : c < 8) : L_X1_columnsWithMeanings_18 (m.2.1 6) p1 p2 m v3 (zI c) kb fu 0 0 = C_X1_columnsWithMeanings_60 p1 p2 m v3 (zI c) kb (mnC w c) := by
  obtain ⟨h1, h2, h3, h4, h5, h6, h7, h8⟩ := id h
  unfold mnC
  refine loop_sg0 (c := C_X1_columnsWithMeanings_60 p1 p2 m v3 (zI c) kb) ?_ ?_ fu (by rw [fu_eq]; omega)
  · intro k a t ht
    have e := (h6 t ht c hc).1
    by_cases hw : w (1081 + 8 * t + c) = -1
    · simp (discharger := omega) only [L_X1_columnsWithMeanings_18, J_X1_columnsWithMeanings_48, e, hw, p_asN, bd, bo_some, bm_some, bts_inl, bts_inr, btm_inl, btm_inr, bp_lt, ck_ib, ck_b0, ck_b1, ifT, ifF, n10, n01, pv_v, if_pos, if_neg, zI_nat, zI_add, zI_mul, zI_addl, zI_laddl, zI_mull, zI_lmul, zI_subl, zI_pred, zI_le, zI_lt, zI_eq, zI_lel, zI_lle, zI_ltl, zI_llt, zI_eql, zI_leq, zI_ne1, zI_1ne]
    · simp (discharger := omega) only [L_X1_columnsWithMeanings_18, J_X1_columnsWithMeanings_48, e, hw, p_asN, bd, bo_some, bm_some, bts_inl, bts_inr, btm_inl, btm_inr, bp_lt, ck_ib, ck_b0, ck_b1, ifT, ifF, n10, n01, pv_v, if_pos, if_neg, zI_nat, zI_add, zI_mul, zI_addl, zI_laddl, zI_mull, zI_lmul, zI_subl, zI_pred, zI_le, zI_lt, zI_eq, zI_lel, zI_lle, zI_ltl, zI_llt, zI_eql, zI_leq, zI_ne1, zI_1ne]
  · intro k a
    simp (discharger := omega) only [L_X1_columnsWithMeanings_18, Nat.le_refl, bd, bo_some, bm_some, bts_inl, bts_inr, btm_inl, btm_inr, bp_lt, ck_ib, ck_b0, ck_b1, ifT, ifF, n10, n01, pv_v, if_pos, if_neg, zI_nat, zI_add, zI_mul, zI_addl, zI_laddl, zI_mull, zI_lmul, zI_subl, zI_pred, zI_le, zI_lt, zI_eq, zI_lel, zI_lle, zI_ltl, zI_llt, zI_eql, zI_leq, zI_ne1, zI_1ne]
theorem p_cw (h : SR m.1 (m.2.1 6) w n) (p1 p2 : Int32) : F_X1_columnsWithMeanings (m.2.1 6) p1 p2 m = some (sg (cwF w p1 p2) 8) := by
  unfold F_X1_columnsWithMeanings
  refine loop_sg0 (c := some) ?_ ?_ fu (by rw [fu_eq]; omega)
  · intro k a c hc
    unfold cwF
    by_cases b1 : mnC w c < p1
    · simp (discharger := omega) only [L_X1_columnsWithMeanings_5, C_X1_columnsWithMeanings_60, J_X1_columnsWithMeanings_77, J_X1_columnsWithMeanings_78, cw_in h p1 p2 a _ hc, b1, p_asN, bd, bo_some, bm_some, bts_inl, bts_inr, btm_inl, btm_inr, bp_lt, ck_ib, ck_b0, ck_b1, ifT, ifF, n10, n01, pv_v, if_pos, if_neg, zI_nat, zI_add, zI_mul, zI_addl, zI_laddl, zI_mull, zI_lmul, zI_subl, zI_pred, zI_le, zI_lt, zI_eq, zI_lel, zI_lle, zI_ltl, zI_llt, zI_eql, zI_leq, zI_ne1, zI_1ne]
    · by_cases b2 : p2 < mnC w c
      · simp (discharger := omega) only [L_X1_columnsWithMeanings_5, C_X1_columnsWithMeanings_60, J_X1_columnsWithMeanings_77, J_X1_columnsWithMeanings_78, cw_in h p1 p2 a _ hc, b1, b2, p_asN, bd, bo_some, bm_some, bts_inl, bts_inr, btm_inl, btm_inr, bp_lt, ck_ib, ck_b0, ck_b1, ifT, ifF, n10, n01, pv_v, if_pos, if_neg, zI_nat, zI_add, zI_mul, zI_addl, zI_laddl, zI_mull, zI_lmul, zI_subl, zI_pred, zI_le, zI_lt, zI_eq, zI_lel, zI_lle, zI_ltl, zI_llt, zI_eql, zI_leq, zI_ne1, zI_1ne]
      · simp (discharger := omega) only [L_X1_columnsWithMeanings_5, C_X1_columnsWithMeanings_60, J_X1_columnsWithMeanings_77, J_X1_columnsWithMeanings_78, cw_in h p1 p2 a _ hc, b1, b2, p_asN, bd, bo_some, bm_some, bts_inl, bts_inr, btm_inl, btm_inr, bp_lt, ck_ib, ck_b0, ck_b1, ifT, ifF, n10, n01, pv_v, if_pos, if_neg, zI_nat, zI_add, zI_mul, zI_addl, zI_laddl, zI_mull, zI_lmul, zI_subl, zI_pred, zI_le, zI_lt, zI_eq, zI_lel, zI_lle, zI_ltl, zI_llt, zI_eql, zI_leq, zI_ne1, zI_1ne]
  · intro k a
    simp (discharger := omega) only [L_X1_columnsWithMeanings_5, C_X1_columnsWithMeanings_89, Nat.le_refl, bd, bo_some, bm_some, bts_inl, bts_inr, btm_inl, btm_inr, bp_lt, ck_ib, ck_b0, ck_b1, ifT, ifF, n10, n01, pv_v, if_pos, if_neg, zI_nat, zI_add, zI_mul, zI_addl, zI_laddl, zI_mull, zI_lmul, zI_subl, zI_pred, zI_le, zI_lt, zI_eq, zI_lel, zI_lle, zI_ltl, zI_llt, zI_eql, zI_leq, zI_ne1, zI_1ne]
theorem cw23 (w : Nat → Int32) : sg (cwF w 2 3) 8 = sg (shF w 2) 8 := by
  refine sg_congr (fun c _ => ?_)
  obtain ⟨k, hk, e⟩ := mnC_of w c
  unfold cwF shF
  rw [e]
  have h3 : ¬ (3 : Int32) < zI k := by
    rw [zI_llt (by omega) (by omega)]
    omega
  rw [if_neg h3]
theorem cw00 (w : Nat → Int32) : sg (cwF w 0 0) 8 = 8 - sg (shF w 1) 8 := by
  have h : sg (cwF w 0 0) 8 + sg (shF w 1) 8 = 8 := by
    rw [← sg_add]
    refine Eq.trans (sg_congr (g := fun _ => 1) (fun c _ => ?_)) (sg_one 8)
    obtain ⟨k, hk, e⟩ := mnC_of w c
    unfold cwF shF
    rw [e]
    rcases (show k = 0 ∨ k = 1 ∨ k = 2 ∨ k = 3 by omega) with rfl | rfl | rfl | rfl <;> rfl
  rw [← h, Int32.add_sub_cancel]
theorem ix_in (h : SR m.1 (m.2.1 6) w n) (hi : IX w) (v3 : Int32) (kb : Int32 → Int32 → Option Int32) {t : Nat} (ht : t < 3) : L_X1_indexes_11 (m.2.1 6) m (zI t) kb fu v3 0 = C_X1_indexes_40 (zI t) kb (v3 + sg (fun c => w (1129 + 8 * t + c)) 8) := by
  obtain ⟨h1, h2, h3, h4, h5, h6, h7, h8⟩ := id h
  refine loop_sg1 (f := fun c => w (1129 + 8 * t + c)) (c := C_X1_indexes_40 (zI t) kb) ?_ ?_ fu (by rw [fu_eq]; omega) v3
  · intro k a c hc
    have e := (h6 t ht c hc).2.1
    simp (discharger := omega) only [L_X1_indexes_11, e, p_asN, asN01 (hi t ht c hc), bd, bo_some, bm_some, bts_inl, bts_inr, btm_inl, btm_inr, bp_lt, ck_ib, ck_b0, ck_b1, ifT, ifF, n10, n01, pv_v, if_pos, if_neg, zI_nat, zI_add, zI_mul, zI_addl, zI_laddl, zI_mull, zI_lmul, zI_subl, zI_pred, zI_le, zI_lt, zI_eq, zI_lel, zI_lle, zI_ltl, zI_llt, zI_eql, zI_leq, zI_ne1, zI_1ne]
  · intro k a
    simp (discharger := omega) only [L_X1_indexes_11, Nat.le_refl, bd, bo_some, bm_some, bts_inl, bts_inr, btm_inl, btm_inr, bp_lt, ck_ib, ck_b0, ck_b1, ifT, ifF, n10, n01, pv_v, if_pos, if_neg, zI_nat, zI_add, zI_mul, zI_addl, zI_laddl, zI_mull, zI_lmul, zI_subl, zI_pred, zI_le, zI_lt, zI_eq, zI_lel, zI_lle, zI_ltl, zI_llt, zI_eql, zI_leq, zI_ne1, zI_1ne]
theorem p_indexes (h : SR m.1 (m.2.1 6) w n) (hi : IX w) : F_X1_indexes (m.2.1 6) m = some (sg (fun r => w (1129 + r)) 24) := by
  have e : sg (fun r => w (1129 + r)) 24 = sg (fun t => sg (fun c => w (1129 + 8 * t + c)) 8) 3 := by
    have e1 : sg (fun r => w (1129 + r)) 24 = sg (fun r => w (1129 + r)) 8 + sg (fun r => w (1129 + (8 + r))) 8 + sg (fun r => w (1129 + (16 + r))) 8 := by
      rw [show 24 = 16 + 8 from rfl, sg_app, show 16 = 8 + 8 from rfl, sg_app]
    rw [e1]
    show _ = ((0 + sg (fun c => w (1129 + 8 * 0 + c)) 8) + sg (fun c => w (1129 + 8 * 1 + c)) 8) + sg (fun c => w (1129 + 8 * 2 + c)) 8
    rw [Int32.zero_add, sg_congr (f := fun c => w (1129 + 8 * 1 + c)) (g := fun r => w (1129 + (8 + r))) (fun c _ => by rw [show 1129 + 8 * 1 + c = 1129 + (8 + c) by omega]), sg_congr (f := fun c => w (1129 + 8 * 2 + c)) (g := fun r => w (1129 + (16 + r))) (fun c _ => by rw [show 1129 + 8 * 2 + c = 1129 + (16 + c) by omega])]
  rw [e]
  unfold F_X1_indexes
  refine loop_sg0 (c := some) ?_ ?_ fu (by rw [fu_eq]; omega)
  · intro k a t ht
    simp (discharger := omega) only [L_X1_indexes_4, C_X1_indexes_40, ix_in h hi a _ ht, bd, bo_some, bm_some, bts_inl, bts_inr, btm_inl, btm_inr, bp_lt, ck_ib, ck_b0, ck_b1, ifT, ifF, n10, n01, pv_v, if_pos, if_neg, zI_nat, zI_add, zI_mul, zI_addl, zI_laddl, zI_mull, zI_lmul, zI_subl, zI_pred, zI_le, zI_lt, zI_eq, zI_lel, zI_lle, zI_ltl, zI_llt, zI_eql, zI_leq, zI_ne1, zI_1ne]
  · intro k a
    simp (discharger := omega) only [L_X1_indexes_4, C_X1_indexes_46, Nat.le_refl, bd, bo_some, bm_some, bts_inl, bts_inr, btm_inl, btm_inr, bp_lt, ck_ib, ck_b0, ck_b1, ifT, ifF, n10, n01, pv_v, if_pos, if_neg, zI_nat, zI_add, zI_mul, zI_addl, zI_laddl, zI_mull, zI_lmul, zI_subl, zI_pred, zI_le, zI_lt, zI_eq, zI_lel, zI_lle, zI_ltl, zI_llt, zI_eql, zI_leq, zI_ne1, zI_1ne]
theorem p_movedT (h : SR m.1 (m.2.1 6) w n) (hm : MV w) : F_X1_movedTenants (m.2.1 6) m = some (sg (fun r => w (1159 + r)) 3) := by
  obtain ⟨h1, h2, h3, h4, h5, h6, h7, h8⟩ := id h
  unfold F_X1_movedTenants
  refine loop_sg0 (c := some) ?_ ?_ fu (by rw [fu_eq]; omega)
  · intro k a t ht
    have e := (h7 t ht).2.2.1
    simp (discharger := omega) only [L_X1_movedTenants_4, e, p_asN, asN01 (hm t ht), bd, bo_some, bm_some, bts_inl, bts_inr, btm_inl, btm_inr, bp_lt, ck_ib, ck_b0, ck_b1, ifT, ifF, n10, n01, pv_v, if_pos, if_neg, zI_nat, zI_add, zI_mul, zI_addl, zI_laddl, zI_mull, zI_lmul, zI_subl, zI_pred, zI_le, zI_lt, zI_eq, zI_lel, zI_lle, zI_ltl, zI_llt, zI_eql, zI_leq, zI_ne1, zI_1ne]
  · intro k a
    simp (discharger := omega) only [L_X1_movedTenants_4, C_X1_movedTenants_30, Nat.le_refl, bd, bo_some, bm_some, bts_inl, bts_inr, btm_inl, btm_inr, bp_lt, ck_ib, ck_b0, ck_b1, ifT, ifF, n10, n01, pv_v, if_pos, if_neg, zI_nat, zI_add, zI_mul, zI_addl, zI_laddl, zI_mull, zI_lmul, zI_subl, zI_pred, zI_le, zI_lt, zI_eq, zI_lel, zI_lle, zI_ltl, zI_llt, zI_eql, zI_leq, zI_ne1, zI_1ne]
def cntT (w : Nat → Int32) (n T : Nat) (kk : Int32) (j : Nat) : Int32 := match j with
  | 0 => inTb w n
  | 1 => zI n
  | 2 => tbVals w T
  | 3 => sg (shF w 2) 8
  | 4 => 8 - sg (shF w 1) 8
  | 5 => sg (fun r => w (1129 + r)) 24
  | 6 => sg (fun r => w (1159 + r)) 3
  | _ => kk
theorem p_count (h : SR m.1 (m.2.1 6) w n) (hs : m.2.1 6 < 7) (hI : WI w n T) {j : Nat} (hj : j < 8) : F_X3_count (zI j) m = some (.inl (cntT w n T (m.1 (0, 0, 0, 0) 5) j)) := by
  obtain ⟨h1, h2, h3, h4, h5, h6, h7, h8⟩ := id h
  obtain ⟨i1, i2, i3, i4, i5, i6, i7, i8, i9, -⟩ := id hI
  have a0 := p_tableRows h i7
  have a2 := p_tableValues h i4 i8
  have a3 := p_cw h 2 3
  rw [cw23] at a3
  have a4 := p_cw h 0 0
  rw [cw00] at a4
  have a5 := p_indexes h i9
  have a6 := p_movedT h i7
  rcases (show j = 0 ∨ j = 1 ∨ j = 2 ∨ j = 3 ∨ j = 4 ∨ j = 5 ∨ j = 6 ∨ j = 7 by omega) with rfl | rfl | rfl | rfl | rfl | rfl | rfl | rfl <;> simp (discharger := omega) only [F_X3_count, J_X3_count_14, J_X3_count_15, p_req1, cntT, a0, h3, a2, a3, a4, a5, a6, bd, bo_some, bm_some, bts_inl, bts_inr, btm_inl, btm_inr, bp_lt, ck_ib, ck_b0, ck_b1, ifT, ifF, n10, n01, pv_v, if_pos, if_neg, zI_nat, zI_add, zI_mul, zI_addl, zI_laddl, zI_mull, zI_lmul, zI_subl, zI_pred, zI_le, zI_lt, zI_eq, zI_lel, zI_lle, zI_ltl, zI_llt, zI_eql, zI_leq, zI_ne1, zI_1ne]
end PF

