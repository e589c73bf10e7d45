/-! the law's branches -/
section RC
variable {mi : Mem} {sL vi : Nat} {sx : Nat → Int32} {kb : Int32 → Mem → Option Unit}
theorem lg_self (a : Int64) : lg_cmp a a = 0 := by
  unfold lg_cmp
  rw [if_neg (fun h : a > a => Int64.lt_irrefl h), if_pos rfl]
theorem m_thrown (x : Mem) : F_X4_thrown x = some (x.1 (3, 0, 0, 0) 6) := rfl
theorem i01 {α : Type} (y : Option α) : ck (ib 0 1) y = y := rfl
theorem b_0 (h : St mi) (hv : vi + 4 ≤ sL) (hs : sL ≤ 2048) : ∃ m2, B_law_0 sL sx (zI vi) mi kb = kb (zI (vi + 4)) m2 ∧ St m2 := by
  obtain ⟨v13, m14, v21, m22, e1, e2, e3, e4, e5⟩ := call_mean h (sx (vi + 1)) (sx (vi + 2)) (sx (vi + 3))
  refine ⟨m22, ?_, e5⟩
  simp only at e2
  by_cases hz : v13 = 0
  · have e6 := e4 hz
    subst hz
    simp (discharger := omega) only [B_law_0, J_L_law_1549, J_L_law_225, e1, e2, m_thrown, e3, i01, e6, lg_self, bd_e, bo_e, bm_e, bts_l, bts_r, btm_l, btm_r, bp_lt, ck_ib, ck_z, ck_o, ifT, ifF, n10, n01, pv_v, if_pos, if_neg, zI_nat, zI_add, zI_mul, zI_addl, zI_laddl, zI_mull, zI_lmul, zI_subl, zI_pred, zI_le, zI_lt, zI_eq, zI_lel, zI_lle, zI_ltl, zI_llt, zI_eql, zI_leq, zI_ne1, zI_1ne]
  · simp (discharger := omega) only [B_law_0, J_L_law_1549, J_L_law_225, e1, e2, m_thrown, e3, hz, bd_e, bo_e, bm_e, bts_l, bts_r, btm_l, btm_r, bp_lt, ck_ib, ck_z, ck_o, ifT, ifF, n10, n01, pv_v, if_pos, if_neg, zI_nat, zI_add, zI_mul, zI_addl, zI_laddl, zI_mull, zI_lmul, zI_subl, zI_pred, zI_le, zI_lt, zI_eq, zI_lel, zI_lle, zI_ltl, zI_llt, zI_eql, zI_leq, zI_ne1, zI_1ne]
theorem b_1 (h : St mi) (hv : vi + 4 ≤ sL) (hs : sL ≤ 2048) : ∃ m2, B_law_1 sL sx (zI vi) mi kb = kb (zI (vi + 4)) m2 ∧ St m2 := by
  obtain ⟨v13, m14, v21, m22, e1, e2, e3, e4, e5⟩ := call_forget h (sx (vi + 1)) (sx (vi + 2))
  refine ⟨m22, ?_, e5⟩
  simp only at e2
  by_cases hz : v13 = 0
  · have e6 := e4 hz
    subst hz
    simp (discharger := omega) only [B_law_1, J_L_law_1549, J_L_law_293, e1, e2, m_thrown, e3, i01, e6, lg_self, bd_e, bo_e, bm_e, bts_l, bts_r, btm_l, btm_r, bp_lt, ck_ib, ck_z, ck_o, ifT, ifF, n10, n01, pv_v, if_pos, if_neg, zI_nat, zI_add, zI_mul, zI_addl, zI_laddl, zI_mull, zI_lmul, zI_subl, zI_pred, zI_le, zI_lt, zI_eq, zI_lel, zI_lle, zI_ltl, zI_llt, zI_eql, zI_leq, zI_ne1, zI_1ne]
  · simp (discharger := omega) only [B_law_1, J_L_law_1549, J_L_law_293, e1, e2, m_thrown, e3, hz, bd_e, bo_e, bm_e, bts_l, bts_r, btm_l, btm_r, bp_lt, ck_ib, ck_z, ck_o, ifT, ifF, n10, n01, pv_v, if_pos, if_neg, zI_nat, zI_add, zI_mul, zI_addl, zI_laddl, zI_mull, zI_lmul, zI_subl, zI_pred, zI_le, zI_lt, zI_eq, zI_lel, zI_lle, zI_ltl, zI_llt, zI_eql, zI_leq, zI_ne1, zI_1ne]
theorem b_2 (h : St mi) (hv : vi + 4 ≤ sL) (hs : sL ≤ 2048) : ∃ m2, B_law_2 sL sx (zI vi) mi kb = kb (zI (vi + 4)) m2 ∧ St m2 := by
  obtain ⟨v13, m14, v21, m22, e1, e2, e3, e4, e5⟩ := call_pack h (sx (vi + 1))
  refine ⟨m22, ?_, e5⟩
  simp only at e2
  by_cases hz : v13 = 0
  · have e6 := e4 hz
    subst hz
    simp (discharger := omega) only [B_law_2, J_L_law_1549, J_L_law_349, e1, e2, m_thrown, e3, i01, e6, lg_self, bd_e, bo_e, bm_e, bts_l, bts_r, btm_l, btm_r, bp_lt, ck_ib, ck_z, ck_o, ifT, ifF, n10, n01, pv_v, if_pos, if_neg, zI_nat, zI_add, zI_mul, zI_addl, zI_laddl, zI_mull, zI_lmul, zI_subl, zI_pred, zI_le, zI_lt, zI_eq, zI_lel, zI_lle, zI_ltl, zI_llt, zI_eql, zI_leq, zI_ne1, zI_1ne]
  · simp (discharger := omega) only [B_law_2, J_L_law_1549, J_L_law_349, e1, e2, m_thrown, e3, hz, bd_e, bo_e, bm_e, bts_l, bts_r, btm_l, btm_r, bp_lt, ck_ib, ck_z, ck_o, ifT, ifF, n10, n01, pv_v, if_pos, if_neg, zI_nat, zI_add, zI_mul, zI_addl, zI_laddl, zI_mull, zI_lmul, zI_subl, zI_pred, zI_le, zI_lt, zI_eq, zI_lel, zI_lle, zI_ltl, zI_llt, zI_eql, zI_leq, zI_ne1, zI_1ne]
theorem b_3 (h : St mi) (hv : vi + 4 ≤ sL) (hs : sL ≤ 2048) : ∃ m2, B_law_3 sL sx (zI vi) mi kb = kb (zI (vi + 4)) m2 ∧ St m2 := by
  obtain ⟨v13, m14, v21, m22, e1, e2, e3, e4, e5⟩ := call_index h (sx (vi + 1)) (sx (vi + 2))
  refine ⟨m22, ?_, e5⟩
  simp only at e2
  by_cases hz : v13 = 0
  · have e6 := e4 hz
    subst hz
    simp (discharger := omega) only [B_law_3, J_L_law_1549, J_L_law_417, e1, e2, m_thrown, e3, i01, e6, lg_self, bd_e, bo_e, bm_e, bts_l, bts_r, btm_l, btm_r, bp_lt, ck_ib, ck_z, ck_o, ifT, ifF, n10, n01, pv_v, if_pos, if_neg, zI_nat, zI_add, zI_mul, zI_addl, zI_laddl, zI_mull, zI_lmul, zI_subl, zI_pred, zI_le, zI_lt, zI_eq, zI_lel, zI_lle, zI_ltl, zI_llt, zI_eql, zI_leq, zI_ne1, zI_1ne]
  · simp (discharger := omega) only [B_law_3, J_L_law_1549, J_L_law_417, e1, e2, m_thrown, e3, hz, bd_e, bo_e, bm_e, bts_l, bts_r, btm_l, btm_r, bp_lt, ck_ib, ck_z, ck_o, ifT, ifF, n10, n01, pv_v, if_pos, if_neg, zI_nat, zI_add, zI_mul, zI_addl, zI_laddl, zI_mull, zI_lmul, zI_subl, zI_pred, zI_le, zI_lt, zI_eq, zI_lel, zI_lle, zI_ltl, zI_llt, zI_eql, zI_leq, zI_ne1, zI_1ne]
theorem b_4 (h : St mi) (hv : vi + 4 ≤ sL) (hs : sL ≤ 2048) : ∃ m2, B_law_4 sL sx (zI vi) mi kb = kb (zI (vi + 4)) m2 ∧ St m2 := by
  obtain ⟨v13, m14, v21, m22, e1, e2, e3, e4, e5⟩ := call_row h (sx (vi + 1))
  refine ⟨m22, ?_, e5⟩
  simp only at e2
  by_cases hz : v13 = 0
  · have e6 := e4 hz
    subst hz
    simp (discharger := omega) only [B_law_4, J_L_law_1549, J_L_law_473, e1, e2, m_thrown, e3, i01, e6, lg_self, bd_e, bo_e, bm_e, bts_l, bts_r, btm_l, btm_r, bp_lt, ck_ib, ck_z, ck_o, ifT, ifF, n10, n01, pv_v, if_pos, if_neg, zI_nat, zI_add, zI_mul, zI_addl, zI_laddl, zI_mull, zI_lmul, zI_subl, zI_pred, zI_le, zI_lt, zI_eq, zI_lel, zI_lle, zI_ltl, zI_llt, zI_eql, zI_leq, zI_ne1, zI_1ne]
  · simp (discharger := omega) only [B_law_4, J_L_law_1549, J_L_law_473, e1, e2, m_thrown, e3, hz, bd_e, bo_e, bm_e, bts_l, bts_r, btm_l, btm_r, bp_lt, ck_ib, ck_z, ck_o, ifT, ifF, n10, n01, pv_v, if_pos, if_neg, zI_nat, zI_add, zI_mul, zI_addl, zI_laddl, zI_mull, zI_lmul, zI_subl, zI_pred, zI_le, zI_lt, zI_eq, zI_lel, zI_lle, zI_ltl, zI_llt, zI_eql, zI_leq, zI_ne1, zI_1ne]
theorem b_5 (h : St mi) (hv : vi + 4 ≤ sL) (hs : sL ≤ 2048) : ∃ m2, B_law_5 sL sx (zI vi) mi kb = kb (zI (vi + 4)) m2 ∧ St m2 := by
  obtain ⟨v13, m14, v21, m22, e1, e2, e3, e4, e5⟩ := call_put h (sx (vi + 1)) (sx (vi + 2)) (sx (vi + 3))
  refine ⟨m22, ?_, e5⟩
  simp only at e2
  by_cases hz : v13 = 0
  · have e6 := e4 hz
    subst hz
    simp (discharger := omega) only [B_law_5, J_L_law_1549, J_L_law_553, e1, e2, m_thrown, e3, i01, e6, lg_self, bd_e, bo_e, bm_e, bts_l, bts_r, btm_l, btm_r, bp_lt, ck_ib, ck_z, ck_o, ifT, ifF, n10, n01, pv_v, if_pos, if_neg, zI_nat, zI_add, zI_mul, zI_addl, zI_laddl, zI_mull, zI_lmul, zI_subl, zI_pred, zI_le, zI_lt, zI_eq, zI_lel, zI_lle, zI_ltl, zI_llt, zI_eql, zI_leq, zI_ne1, zI_1ne]
  · simp (discharger := omega) only [B_law_5, J_L_law_1549, J_L_law_553, e1, e2, m_thrown, e3, hz, bd_e, bo_e, bm_e, bts_l, bts_r, btm_l, btm_r, bp_lt, ck_ib, ck_z, ck_o, ifT, ifF, n10, n01, pv_v, if_pos, if_neg, zI_nat, zI_add, zI_mul, zI_addl, zI_laddl, zI_mull, zI_lmul, zI_subl, zI_pred, zI_le, zI_lt, zI_eq, zI_lel, zI_lle, zI_ltl, zI_llt, zI_eql, zI_leq, zI_ne1, zI_1ne]
theorem b_6 (h : St mi) (hv : vi + 4 ≤ sL) (hs : sL ≤ 2048) : ∃ m2, B_law_6 sL sx (zI vi) mi kb = kb (zI (vi + 4)) m2 ∧ St m2 := by
  obtain ⟨v13, m14, v21, m22, e1, e2, e3, e4, e5⟩ := call_remove h (sx (vi + 1))
  refine ⟨m22, ?_, e5⟩
  simp only at e2
  by_cases hz : v13 = 0
  · have e6 := e4 hz
    subst hz
    simp (discharger := omega) only [B_law_6, J_L_law_1549, J_L_law_609, e1, e2, m_thrown, e3, i01, e6, lg_self, bd_e, bo_e, bm_e, bts_l, bts_r, btm_l, btm_r, bp_lt, ck_ib, ck_z, ck_o, ifT, ifF, n10, n01, pv_v, if_pos, if_neg, zI_nat, zI_add, zI_mul, zI_addl, zI_laddl, zI_mull, zI_lmul, zI_subl, zI_pred, zI_le, zI_lt, zI_eq, zI_lel, zI_lle, zI_ltl, zI_llt, zI_eql, zI_leq, zI_ne1, zI_1ne]
  · simp (discharger := omega) only [B_law_6, J_L_law_1549, J_L_law_609, e1, e2, m_thrown, e3, hz, bd_e, bo_e, bm_e, bts_l, bts_r, btm_l, btm_r, bp_lt, ck_ib, ck_z, ck_o, ifT, ifF, n10, n01, pv_v, if_pos, if_neg, zI_nat, zI_add, zI_mul, zI_addl, zI_laddl, zI_mull, zI_lmul, zI_subl, zI_pred, zI_le, zI_lt, zI_eq, zI_lel, zI_lle, zI_ltl, zI_llt, zI_eql, zI_leq, zI_ne1, zI_1ne]
theorem b_7 (h : St mi) (hv : vi + 4 ≤ sL) (hs : sL ≤ 2048) : ∃ m2, B_law_7 sL sx (zI vi) mi kb = kb (zI (vi + 4)) m2 ∧ St m2 := by
  obtain ⟨v13, m14, v21, m22, e1, e2, e3, e4, e5⟩ := call_move h (sx (vi + 1))
  refine ⟨m22, ?_, e5⟩
  simp only at e2
  by_cases hz : v13 = 0
  · have e6 := e4 hz
    subst hz
    simp (discharger := omega) only [B_law_7, J_L_law_1549, J_L_law_665, e1, e2, m_thrown, e3, i01, e6, lg_self, bd_e, bo_e, bm_e, bts_l, bts_r, btm_l, btm_r, bp_lt, ck_ib, ck_z, ck_o, ifT, ifF, n10, n01, pv_v, if_pos, if_neg, zI_nat, zI_add, zI_mul, zI_addl, zI_laddl, zI_mull, zI_lmul, zI_subl, zI_pred, zI_le, zI_lt, zI_eq, zI_lel, zI_lle, zI_ltl, zI_llt, zI_eql, zI_leq, zI_ne1, zI_1ne]
  · simp (discharger := omega) only [B_law_7, J_L_law_1549, J_L_law_665, e1, e2, m_thrown, e3, hz, bd_e, bo_e, bm_e, bts_l, bts_r, btm_l, btm_r, bp_lt, ck_ib, ck_z, ck_o, ifT, ifF, n10, n01, pv_v, if_pos, if_neg, zI_nat, zI_add, zI_mul, zI_addl, zI_laddl, zI_mull, zI_lmul, zI_subl, zI_pred, zI_le, zI_lt, zI_eq, zI_lel, zI_lle, zI_ltl, zI_llt, zI_eql, zI_leq, zI_ne1, zI_1ne]
theorem b_8 (h : St mi) (hv : vi + 4 ≤ sL) (hs : sL ≤ 2048) : ∃ m2, B_law_8 sL sx (zI vi) mi kb = kb (zI (vi + 4)) m2 ∧ St m2 := by
  have h0 : ∀ b : Int32, CallOK (F_L_limit (sx (vi + 1)) b (sx (vi + 3)) mi) (fun m' => F_X4_limit (sx (vi + 1)) b (sx (vi + 3)) m') := fun b => call_limit h (sx (vi + 1)) b (sx (vi + 3))
  by_cases hb : sx (vi + 2) = 0
  · obtain ⟨v13, m14, v21, m22, e1, e2, e3, e4, e5⟩ := h0 0
    refine ⟨m22, ?_, e5⟩
    simp only at e2
    by_cases hz : v13 = 0
    · have e6 := e4 hz
      subst hz
      simp (discharger := omega) only [B_law_8, J_L_law_1549, J_L_law_689, J_L_law_722, J_L_law_761, hb, e1, e2, m_thrown, e3, i01, e6, lg_self, bd_e, bo_e, bm_e, bts_l, bts_r, btm_l, btm_r, bp_lt, ck_ib, ck_z, ck_o, ifT, ifF, n10, n01, pv_v, if_pos, if_neg, zI_nat, zI_add, zI_mul, zI_addl, zI_laddl, zI_mull, zI_lmul, zI_subl, zI_pred, zI_le, zI_lt, zI_eq, zI_lel, zI_lle, zI_ltl, zI_llt, zI_eql, zI_leq, zI_ne1, zI_1ne]
    · simp (discharger := omega) only [B_law_8, J_L_law_1549, J_L_law_689, J_L_law_722, J_L_law_761, hb, e1, e2, m_thrown, e3, hz, bd_e, bo_e, bm_e, bts_l, bts_r, btm_l, btm_r, bp_lt, ck_ib, ck_z, ck_o, ifT, ifF, n10, n01, pv_v, if_pos, if_neg, zI_nat, zI_add, zI_mul, zI_addl, zI_laddl, zI_mull, zI_lmul, zI_subl, zI_pred, zI_le, zI_lt, zI_eq, zI_lel, zI_lle, zI_ltl, zI_llt, zI_eql, zI_leq, zI_ne1, zI_1ne]
  · obtain ⟨v13, m14, v21, m22, e1, e2, e3, e4, e5⟩ := h0 1
    refine ⟨m22, ?_, e5⟩
    simp only at e2
    by_cases hz : v13 = 0
    · have e6 := e4 hz
      subst hz
      simp (discharger := omega) only [B_law_8, J_L_law_1549, J_L_law_689, J_L_law_722, J_L_law_761, hb, e1, e2, m_thrown, e3, i01, e6, lg_self, bd_e, bo_e, bm_e, bts_l, bts_r, btm_l, btm_r, bp_lt, ck_ib, ck_z, ck_o, ifT, ifF, n10, n01, pv_v, if_pos, if_neg, zI_nat, zI_add, zI_mul, zI_addl, zI_laddl, zI_mull, zI_lmul, zI_subl, zI_pred, zI_le, zI_lt, zI_eq, zI_lel, zI_lle, zI_ltl, zI_llt, zI_eql, zI_leq, zI_ne1, zI_1ne]
    · simp (discharger := omega) only [B_law_8, J_L_law_1549, J_L_law_689, J_L_law_722, J_L_law_761, hb, e1, e2, m_thrown, e3, hz, bd_e, bo_e, bm_e, bts_l, bts_r, btm_l, btm_r, bp_lt, ck_ib, ck_z, ck_o, ifT, ifF, n10, n01, pv_v, if_pos, if_neg, zI_nat, zI_add, zI_mul, zI_addl, zI_laddl, zI_mull, zI_lmul, zI_subl, zI_pred, zI_le, zI_lt, zI_eq, zI_lel, zI_lle, zI_ltl, zI_llt, zI_eql, zI_leq, zI_ne1, zI_1ne]
theorem b_9 (h : St mi) (hv : vi + 4 ≤ sL) (hs : sL ≤ 2048) : ∃ m2, B_law_9 sL sx (zI vi) mi kb = kb (zI (vi + 4)) m2 ∧ St m2 := by
  obtain ⟨v13, m14, v21, m22, e1, e2, e3, e4, e5⟩ := call_append h (sx (vi + 1))
  refine ⟨m22, ?_, e5⟩
  simp only at e2
  by_cases hz : v13 = 0
  · have e6 := e4 hz
    subst hz
    simp (discharger := omega) only [B_law_9, J_L_law_1549, J_L_law_817, e1, e2, m_thrown, e3, i01, e6, lg_self, bd_e, bo_e, bm_e, bts_l, bts_r, btm_l, btm_r, bp_lt, ck_ib, ck_z, ck_o, ifT, ifF, n10, n01, pv_v, if_pos, if_neg, zI_nat, zI_add, zI_mul, zI_addl, zI_laddl, zI_mull, zI_lmul, zI_subl, zI_pred, zI_le, zI_lt, zI_eq, zI_lel, zI_lle, zI_ltl, zI_llt, zI_eql, zI_leq, zI_ne1, zI_1ne]
  · simp (discharger := omega) only [B_law_9, J_L_law_1549, J_L_law_817, e1, e2, m_thrown, e3, hz, bd_e, bo_e, bm_e, bts_l, bts_r, btm_l, btm_r, bp_lt, ck_ib, ck_z, ck_o, ifT, ifF, n10, n01, pv_v, if_pos, if_neg, zI_nat, zI_add, zI_mul, zI_addl, zI_laddl, zI_mull, zI_lmul, zI_subl, zI_pred, zI_le, zI_lt, zI_eq, zI_lel, zI_lle, zI_ltl, zI_llt, zI_eql, zI_leq, zI_ne1, zI_1ne]
theorem b_10 (h : St mi) (hv : vi + 4 ≤ sL) (hs : sL ≤ 2048) : ∃ m2, B_law_10 (zI vi) mi kb = kb (zI (vi + 4)) m2 ∧ St m2 := by
  obtain ⟨w, n, T, k, pa, nn, TT, L, tx, hP, hM, hA⟩ := h
  obtain ⟨m1, e1, e2, e3⟩ := p_clear hP
  obtain ⟨m2, o1, o2, o3, -⟩ := m_clear (mrel_frp hM e3)
  refine ⟨m2, ?_, st_mk e2 (⟨hA.1, hA.2.1, hA.2.2.1, Nat.zero_le 40, fun i hi => absurd hi (Nat.not_lt_zero i)⟩ : AInv w n T k pa nn TT 0 tx) o2 (eqw_rf n w) o3⟩
  simp (discharger := omega) only [B_law_10, J_L_law_1549, e1, o1, bd_e, bo_e, bm_e, bts_l, bts_r, btm_l, btm_r, bp_lt, ck_ib, ck_z, ck_o, ifT, ifF, n10, n01, pv_v, if_pos, if_neg, zI_nat, zI_add, zI_mul, zI_addl, zI_laddl, zI_mull, zI_lmul, zI_subl, zI_pred, zI_le, zI_lt, zI_eq, zI_lel, zI_lle, zI_ltl, zI_llt, zI_eql, zI_leq, zI_ne1, zI_1ne]
theorem b_11 (h : St mi) (hv : vi + 4 ≤ sL) (hs : sL ≤ 2048) : ∃ m2, B_law_11 (zI vi) mi kb = kb (zI (vi + 4)) m2 ∧ St m2 := by
  obtain ⟨w, n, T, k, pa, nn, TT, L, tx, hP, hM, hA⟩ := h
  obtain ⟨m1, e1, e2, e3⟩ := p_firstError hP hA
  obtain ⟨m2, o1, o2, o3⟩ := m_firstError (mrel_frp hM e3) hA
  refine ⟨m2, ?_, st_mk e2 hA o2 (eqw_rf n w) o3⟩
  simp only [B_law_11, J_L_law_1549, e1, o1, bm_e, bd_e, zI_addl, if_true, eq_self, ifT]
theorem b_12 (h : St mi) (hv : vi + 4 ≤ sL) (hs : sL ≤ 2048) : ∃ m2, B_law_12 sL sx (zI vi) mi kb = kb (zI (vi + 4)) m2 ∧ St m2 := by
  obtain ⟨v13, m14, v21, m22, e1, e2, e3, e4, e5⟩ := call_ask h (sx (vi + 1))
  refine ⟨m22, ?_, e5⟩
  simp only at e2
  by_cases hz : v13 = 0
  · have e6 := e4 hz
    subst hz
    simp (discharger := omega) only [B_law_12, J_L_law_1549, J_L_law_899, e1, e2, m_thrown, e3, i01, e6, lg_self, bd_e, bo_e, bm_e, bts_l, bts_r, btm_l, btm_r, bp_lt, ck_ib, ck_z, ck_o, ifT, ifF, n10, n01, pv_v, if_pos, if_neg, zI_nat, zI_add, zI_mul, zI_addl, zI_laddl, zI_mull, zI_lmul, zI_subl, zI_pred, zI_le, zI_lt, zI_eq, zI_lel, zI_lle, zI_ltl, zI_llt, zI_eql, zI_leq, zI_ne1, zI_1ne]
  · simp (discharger := omega) only [B_law_12, J_L_law_1549, J_L_law_899, e1, e2, m_thrown, e3, hz, bd_e, bo_e, bm_e, bts_l, bts_r, btm_l, btm_r, bp_lt, ck_ib, ck_z, ck_o, ifT, ifF, n10, n01, pv_v, if_pos, if_neg, zI_nat, zI_add, zI_mul, zI_addl, zI_laddl, zI_mull, zI_lmul, zI_subl, zI_pred, zI_le, zI_lt, zI_eq, zI_lel, zI_lle, zI_ltl, zI_llt, zI_eql, zI_leq, zI_ne1, zI_1ne]
theorem b_13 (h : St mi) (hv : vi + 4 ≤ sL) (hs : sL ≤ 2048) : ∃ m2, B_law_13 sL sx (zI vi) mi kb = kb (zI (vi + 4)) m2 ∧ St m2 := by
  obtain ⟨v13, m14, v21, m22, e1, e2, e3, e4, e5⟩ := call_purge h (sx (vi + 1))
  refine ⟨m22, ?_, e5⟩
  simp only at e2
  by_cases hz : v13 = 0
  · have e6 := e4 hz
    subst hz
    simp (discharger := omega) only [B_law_13, J_L_law_1549, J_L_law_955, e1, e2, m_thrown, e3, i01, e6, lg_self, bd_e, bo_e, bm_e, bts_l, bts_r, btm_l, btm_r, bp_lt, ck_ib, ck_z, ck_o, ifT, ifF, n10, n01, pv_v, if_pos, if_neg, zI_nat, zI_add, zI_mul, zI_addl, zI_laddl, zI_mull, zI_lmul, zI_subl, zI_pred, zI_le, zI_lt, zI_eq, zI_lel, zI_lle, zI_ltl, zI_llt, zI_eql, zI_leq, zI_ne1, zI_1ne]
  · simp (discharger := omega) only [B_law_13, J_L_law_1549, J_L_law_955, e1, e2, m_thrown, e3, hz, bd_e, bo_e, bm_e, bts_l, bts_r, btm_l, btm_r, bp_lt, ck_ib, ck_z, ck_o, ifT, ifF, n10, n01, pv_v, if_pos, if_neg, zI_nat, zI_add, zI_mul, zI_addl, zI_laddl, zI_mull, zI_lmul, zI_subl, zI_pred, zI_le, zI_lt, zI_eq, zI_lel, zI_lle, zI_ltl, zI_llt, zI_eql, zI_leq, zI_ne1, zI_1ne]
theorem b_14 (h : St mi) (hv : vi + 4 ≤ sL) (hs : sL ≤ 2048) : ∃ m2, B_law_14 (zI vi) mi kb = kb (zI (vi + 4)) m2 ∧ St m2 := by
  obtain ⟨v13, m14, v21, m22, e1, e2, e3, e4, e5⟩ := call_undo h 
  refine ⟨m22, ?_, e5⟩
  simp only at e2
  by_cases hz : v13 = 0
  · have e6 := e4 hz
    subst hz
    simp (discharger := omega) only [B_law_14, J_L_law_1549, J_L_law_999, e1, e2, m_thrown, e3, i01, e6, lg_self, bd_e, bo_e, bm_e, bts_l, bts_r, btm_l, btm_r, bp_lt, ck_ib, ck_z, ck_o, ifT, ifF, n10, n01, pv_v, if_pos, if_neg, zI_nat, zI_add, zI_mul, zI_addl, zI_laddl, zI_mull, zI_lmul, zI_subl, zI_pred, zI_le, zI_lt, zI_eq, zI_lel, zI_lle, zI_ltl, zI_llt, zI_eql, zI_leq, zI_ne1, zI_1ne]
  · simp (discharger := omega) only [B_law_14, J_L_law_1549, J_L_law_999, e1, e2, m_thrown, e3, hz, bd_e, bo_e, bm_e, bts_l, bts_r, btm_l, btm_r, bp_lt, ck_ib, ck_z, ck_o, ifT, ifF, n10, n01, pv_v, if_pos, if_neg, zI_nat, zI_add, zI_mul, zI_addl, zI_laddl, zI_mull, zI_lmul, zI_subl, zI_pred, zI_le, zI_lt, zI_eq, zI_lel, zI_lle, zI_ltl, zI_llt, zI_eql, zI_leq, zI_ne1, zI_1ne]
theorem b_15 (h : St mi) (hv : vi + 4 ≤ sL) (hs : sL ≤ 2048) : ∃ m2, B_law_15 sL sx (zI vi) mi kb = kb (zI (vi + 4)) m2 ∧ St m2 := by
  obtain ⟨v13, m14, v21, m22, e1, e2, e3, e4, e5⟩ := call_rowOf h (sx (vi + 1)) (sx (vi + 2))
  refine ⟨m22, ?_, e5⟩
  simp only at e2
  by_cases hz : v13 = 0
  · have e6 := e4 hz
    subst hz
    simp (discharger := omega) only [B_law_15, J_L_law_1067, J_L_law_1549, e1, e2, m_thrown, e3, i01, e6, lg_self, bd_e, bo_e, bm_e, bts_l, bts_r, btm_l, btm_r, bp_lt, ck_ib, ck_z, ck_o, ifT, ifF, n10, n01, pv_v, if_pos, if_neg, zI_nat, zI_add, zI_mul, zI_addl, zI_laddl, zI_mull, zI_lmul, zI_subl, zI_pred, zI_le, zI_lt, zI_eq, zI_lel, zI_lle, zI_ltl, zI_llt, zI_eql, zI_leq, zI_ne1, zI_1ne]
  · simp (discharger := omega) only [B_law_15, J_L_law_1067, J_L_law_1549, e1, e2, m_thrown, e3, hz, bd_e, bo_e, bm_e, bts_l, bts_r, btm_l, btm_r, bp_lt, ck_ib, ck_z, ck_o, ifT, ifF, n10, n01, pv_v, if_pos, if_neg, zI_nat, zI_add, zI_mul, zI_addl, zI_laddl, zI_mull, zI_lmul, zI_subl, zI_pred, zI_le, zI_lt, zI_eq, zI_lel, zI_lle, zI_ltl, zI_llt, zI_eql, zI_leq, zI_ne1, zI_1ne]
theorem b_16 (h : St mi) (hv : vi + 4 ≤ sL) (hs : sL ≤ 2048) : ∃ m2, B_law_16 sL sx (zI vi) mi kb = kb (zI (vi + 4)) m2 ∧ St m2 := by
  obtain ⟨v13, m14, v21, m22, e1, e2, e3, e4, e5⟩ := call_column h (sx (vi + 1)) (sx (vi + 2)) (sx (vi + 3))
  refine ⟨m22, ?_, e5⟩
  simp only at e2
  by_cases hz : v13 = 0
  · have e6 := e4 hz
    subst hz
    simp (discharger := omega) only [B_law_16, J_L_law_1147, J_L_law_1549, e1, e2, m_thrown, e3, i01, e6, lg_self, bd_e, bo_e, bm_e, bts_l, bts_r, btm_l, btm_r, bp_lt, ck_ib, ck_z, ck_o, ifT, ifF, n10, n01, pv_v, if_pos, if_neg, zI_nat, zI_add, zI_mul, zI_addl, zI_laddl, zI_mull, zI_lmul, zI_subl, zI_pred, zI_le, zI_lt, zI_eq, zI_lel, zI_lle, zI_ltl, zI_llt, zI_eql, zI_leq, zI_ne1, zI_1ne]
  · simp (discharger := omega) only [B_law_16, J_L_law_1147, J_L_law_1549, e1, e2, m_thrown, e3, hz, bd_e, bo_e, bm_e, bts_l, bts_r, btm_l, btm_r, bp_lt, ck_ib, ck_z, ck_o, ifT, ifF, n10, n01, pv_v, if_pos, if_neg, zI_nat, zI_add, zI_mul, zI_addl, zI_laddl, zI_mull, zI_lmul, zI_subl, zI_pred, zI_le, zI_lt, zI_eq, zI_lel, zI_lle, zI_ltl, zI_llt, zI_eql, zI_leq, zI_ne1, zI_1ne]
theorem b_17 (h : St mi) (hv : vi + 4 ≤ sL) (hs : sL ≤ 2048) : ∃ m2, B_law_17 sL sx (zI vi) mi kb = kb (zI (vi + 4)) m2 ∧ St m2 := by
  obtain ⟨v13, m14, v21, m22, e1, e2, e3, e4, e5⟩ := call_tenant h (sx (vi + 1)) (sx (vi + 2))
  refine ⟨m22, ?_, e5⟩
  simp only at e2
  by_cases hz : v13 = 0
  · have e6 := e4 hz
    subst hz
    simp (discharger := omega) only [B_law_17, J_L_law_1215, J_L_law_1549, e1, e2, m_thrown, e3, i01, e6, lg_self, bd_e, bo_e, bm_e, bts_l, bts_r, btm_l, btm_r, bp_lt, ck_ib, ck_z, ck_o, ifT, ifF, n10, n01, pv_v, if_pos, if_neg, zI_nat, zI_add, zI_mul, zI_addl, zI_laddl, zI_mull, zI_lmul, zI_subl, zI_pred, zI_le, zI_lt, zI_eq, zI_lel, zI_lle, zI_ltl, zI_llt, zI_eql, zI_leq, zI_ne1, zI_1ne]
  · simp (discharger := omega) only [B_law_17, J_L_law_1215, J_L_law_1549, e1, e2, m_thrown, e3, hz, bd_e, bo_e, bm_e, bts_l, bts_r, btm_l, btm_r, bp_lt, ck_ib, ck_z, ck_o, ifT, ifF, n10, n01, pv_v, if_pos, if_neg, zI_nat, zI_add, zI_mul, zI_addl, zI_laddl, zI_mull, zI_lmul, zI_subl, zI_pred, zI_le, zI_lt, zI_eq, zI_lel, zI_lle, zI_ltl, zI_llt, zI_eql, zI_leq, zI_ne1, zI_1ne]
theorem b_18 (h : St mi) (hv : vi + 4 ≤ sL) (hs : sL ≤ 2048) : ∃ m2, B_law_18 sL sx (zI vi) mi kb = kb (zI (vi + 4)) m2 ∧ St m2 := by
  obtain ⟨v13, m14, v21, m22, e1, e2, e3, e4, e5⟩ := call_answer h (sx (vi + 1)) (sx (vi + 2)) (sx (vi + 3))
  refine ⟨m22, ?_, e5⟩
  simp only at e2
  by_cases hz : v13 = 0
  · have e6 := e4 hz
    subst hz
    simp (discharger := omega) only [B_law_18, J_L_law_1295, J_L_law_1549, e1, e2, m_thrown, e3, i01, e6, lg_self, bd_e, bo_e, bm_e, bts_l, bts_r, btm_l, btm_r, bp_lt, ck_ib, ck_z, ck_o, ifT, ifF, n10, n01, pv_v, if_pos, if_neg, zI_nat, zI_add, zI_mul, zI_addl, zI_laddl, zI_mull, zI_lmul, zI_subl, zI_pred, zI_le, zI_lt, zI_eq, zI_lel, zI_lle, zI_ltl, zI_llt, zI_eql, zI_leq, zI_ne1, zI_1ne]
  · simp (discharger := omega) only [B_law_18, J_L_law_1295, J_L_law_1549, e1, e2, m_thrown, e3, hz, bd_e, bo_e, bm_e, bts_l, bts_r, btm_l, btm_r, bp_lt, ck_ib, ck_z, ck_o, ifT, ifF, n10, n01, pv_v, if_pos, if_neg, zI_nat, zI_add, zI_mul, zI_addl, zI_laddl, zI_mull, zI_lmul, zI_subl, zI_pred, zI_le, zI_lt, zI_eq, zI_lel, zI_lle, zI_ltl, zI_llt, zI_eql, zI_leq, zI_ne1, zI_1ne]
theorem b_19 (h : St mi) (hv : vi + 4 ≤ sL) (hs : sL ≤ 2048) : ∃ m2, B_law_19 sL sx (zI vi) mi kb = kb (zI (vi + 4)) m2 ∧ St m2 := by
  obtain ⟨v13, m14, v21, m22, e1, e2, e3, e4, e5⟩ := call_count h (sx (vi + 1))
  refine ⟨m22, ?_, e5⟩
  simp only at e2
  by_cases hz : v13 = 0
  · have e6 := e4 hz
    subst hz
    simp (discharger := omega) only [B_law_19, J_L_law_1351, J_L_law_1549, e1, e2, m_thrown, e3, i01, e6, lg_self, bd_e, bo_e, bm_e, bts_l, bts_r, btm_l, btm_r, bp_lt, ck_ib, ck_z, ck_o, ifT, ifF, n10, n01, pv_v, if_pos, if_neg, zI_nat, zI_add, zI_mul, zI_addl, zI_laddl, zI_mull, zI_lmul, zI_subl, zI_pred, zI_le, zI_lt, zI_eq, zI_lel, zI_lle, zI_ltl, zI_llt, zI_eql, zI_leq, zI_ne1, zI_1ne]
  · simp (discharger := omega) only [B_law_19, J_L_law_1351, J_L_law_1549, e1, e2, m_thrown, e3, hz, bd_e, bo_e, bm_e, bts_l, bts_r, btm_l, btm_r, bp_lt, ck_ib, ck_z, ck_o, ifT, ifF, n10, n01, pv_v, if_pos, if_neg, zI_nat, zI_add, zI_mul, zI_addl, zI_laddl, zI_mull, zI_lmul, zI_subl, zI_pred, zI_le, zI_lt, zI_eq, zI_lel, zI_lle, zI_ltl, zI_llt, zI_eql, zI_leq, zI_ne1, zI_1ne]
theorem b_20 (h : St mi) (hv : vi + 4 ≤ sL) (hs : sL ≤ 2048) : ∃ m2, B_law_20 sL sx (zI vi) mi kb = kb (zI (vi + 4)) m2 ∧ St m2 := by
  have h0 : ∀ b : Int32, CallOK (F_L_looked (sx (vi + 1)) b mi) (fun m' => F_X4_looked (sx (vi + 1)) b m') := fun b => call_looked h (sx (vi + 1)) b
  by_cases hb : sx (vi + 2) = 0
  · obtain ⟨v13, m14, v21, m22, e1, e2, e3, e4, e5⟩ := h0 0
    refine ⟨m22, ?_, e5⟩
    simp only at e2
    by_cases hz : v13 = 0
    · have e6 := e4 hz
      subst hz
      simp (discharger := omega) only [B_law_20, J_L_law_1375, J_L_law_1402, J_L_law_1435, J_L_law_1549, hb, e1, e2, m_thrown, e3, i01, e6, lg_self, bd_e, bo_e, bm_e, bts_l, bts_r, btm_l, btm_r, bp_lt, ck_ib, ck_z, ck_o, ifT, ifF, n10, n01, pv_v, if_pos, if_neg, zI_nat, zI_add, zI_mul, zI_addl, zI_laddl, zI_mull, zI_lmul, zI_subl, zI_pred, zI_le, zI_lt, zI_eq, zI_lel, zI_lle, zI_ltl, zI_llt, zI_eql, zI_leq, zI_ne1, zI_1ne]
    · simp (discharger := omega) only [B_law_20, J_L_law_1375, J_L_law_1402, J_L_law_1435, J_L_law_1549, hb, e1, e2, m_thrown, e3, hz, bd_e, bo_e, bm_e, bts_l, bts_r, btm_l, btm_r, bp_lt, ck_ib, ck_z, ck_o, ifT, ifF, n10, n01, pv_v, if_pos, if_neg, zI_nat, zI_add, zI_mul, zI_addl, zI_laddl, zI_mull, zI_lmul, zI_subl, zI_pred, zI_le, zI_lt, zI_eq, zI_lel, zI_lle, zI_ltl, zI_llt, zI_eql, zI_leq, zI_ne1, zI_1ne]
  · obtain ⟨v13, m14, v21, m22, e1, e2, e3, e4, e5⟩ := h0 1
    refine ⟨m22, ?_, e5⟩
    simp only at e2
    by_cases hz : v13 = 0
    · have e6 := e4 hz
      subst hz
      simp (discharger := omega) only [B_law_20, J_L_law_1375, J_L_law_1402, J_L_law_1435, J_L_law_1549, hb, e1, e2, m_thrown, e3, i01, e6, lg_self, bd_e, bo_e, bm_e, bts_l, bts_r, btm_l, btm_r, bp_lt, ck_ib, ck_z, ck_o, ifT, ifF, n10, n01, pv_v, if_pos, if_neg, zI_nat, zI_add, zI_mul, zI_addl, zI_laddl, zI_mull, zI_lmul, zI_subl, zI_pred, zI_le, zI_lt, zI_eq, zI_lel, zI_lle, zI_ltl, zI_llt, zI_eql, zI_leq, zI_ne1, zI_1ne]
    · simp (discharger := omega) only [B_law_20, J_L_law_1375, J_L_law_1402, J_L_law_1435, J_L_law_1549, hb, e1, e2, m_thrown, e3, hz, bd_e, bo_e, bm_e, bts_l, bts_r, btm_l, btm_r, bp_lt, ck_ib, ck_z, ck_o, ifT, ifF, n10, n01, pv_v, if_pos, if_neg, zI_nat, zI_add, zI_mul, zI_addl, zI_laddl, zI_mull, zI_lmul, zI_subl, zI_pred, zI_le, zI_lt, zI_eq, zI_lel, zI_lle, zI_ltl, zI_llt, zI_eql, zI_leq, zI_ne1, zI_1ne]
theorem b_21 (h : St mi) (hv : vi + 4 ≤ sL) (hs : sL ≤ 2048) : ∃ m2, B_law_21 sL sx (zI vi) mi kb = kb (zI (vi + 4)) m2 ∧ St m2 := by
  obtain ⟨v13, m14, v21, m22, e1, e2, e3, e4, e5⟩ := call_bestIndex h (sx (vi + 1))
  refine ⟨m22, ?_, e5⟩
  simp only at e2
  by_cases hz : v13 = 0
  · have e6 := e4 hz
    subst hz
    simp (discharger := omega) only [B_law_21, J_L_law_1491, J_L_law_1549, e1, e2, m_thrown, e3, i01, e6, lg_self, bd_e, bo_e, bm_e, bts_l, bts_r, btm_l, btm_r, bp_lt, ck_ib, ck_z, ck_o, ifT, ifF, n10, n01, pv_v, if_pos, if_neg, zI_nat, zI_add, zI_mul, zI_addl, zI_laddl, zI_mull, zI_lmul, zI_subl, zI_pred, zI_le, zI_lt, zI_eq, zI_lel, zI_lle, zI_ltl, zI_llt, zI_eql, zI_leq, zI_ne1, zI_1ne]
  · simp (discharger := omega) only [B_law_21, J_L_law_1491, J_L_law_1549, e1, e2, m_thrown, e3, hz, bd_e, bo_e, bm_e, bts_l, bts_r, btm_l, btm_r, bp_lt, ck_ib, ck_z, ck_o, ifT, ifF, n10, n01, pv_v, if_pos, if_neg, zI_nat, zI_add, zI_mul, zI_addl, zI_laddl, zI_mull, zI_lmul, zI_subl, zI_pred, zI_le, zI_lt, zI_eq, zI_lel, zI_lle, zI_ltl, zI_llt, zI_eql, zI_leq, zI_ne1, zI_1ne]
theorem b_22 (h : St mi) (hv : vi + 4 ≤ sL) (hs : sL ≤ 2048) : ∃ m2, B_law_22 (zI vi) mi kb = kb (zI (vi + 4)) m2 ∧ St m2 := by
  obtain ⟨w, n, T, k, pa, nn, TT, L, tx, hP, hM, hA⟩ := h
  have hs := hP.1 6 (by omega)
  have e1 := p_share hP.2.2.2.1 hs hA.1
  have M1 := mrel_6 hM 0
  have e2 := m_share (mw_of M1 hA.1) hA.1
  have e3 := (sh_ok hA.1).1
  refine ⟨wI mi (3, 0, 0, 0) 6 0, ?_, st_mk hP hA M1 (eqw_rf n w) (frm_wI rfl mi 6 0)⟩
  simp (discharger := omega) only [B_law_22, J_L_law_1530, J_L_law_1532, J_L_law_1549, e1, F_X4_fullness, e2, e3, bd_e, bo_e, bm_e, bts_l, bts_r, btm_l, btm_r, bp_lt, ck_ib, ck_z, ck_o, ifT, ifF, n10, n01, pv_v, if_pos, if_neg, zI_nat, zI_add, zI_mul, zI_addl, zI_laddl, zI_mull, zI_lmul, zI_subl, zI_pred, zI_le, zI_lt, zI_eq, zI_lel, zI_lle, zI_ltl, zI_llt, zI_eql, zI_leq, zI_ne1, zI_1ne]
theorem b_23 (h : St mi) (hv : vi + 4 ≤ sL) (hs : sL ≤ 2048) : ∃ m2, B_law_23 (zI vi) mi kb = kb (zI (vi + 4)) m2 ∧ St m2 := by
  obtain ⟨v, m1, m2, e1, e2, e3⟩ := call_digest h
  refine ⟨m2, ?_, e3⟩
  simp (discharger := omega) only [B_law_23, J_L_law_1549, e1, e2, lg_self, bd_e, bo_e, bm_e, bts_l, bts_r, btm_l, btm_r, bp_lt, ck_ib, ck_z, ck_o, ifT, ifF, n10, n01, pv_v, if_pos, if_neg, zI_nat, zI_add, zI_mul, zI_addl, zI_laddl, zI_mull, zI_lmul, zI_subl, zI_pred, zI_le, zI_lt, zI_eq, zI_lel, zI_lle, zI_ltl, zI_llt, zI_eql, zI_leq, zI_ne1, zI_1ne]
end RC
