/-! the calls that only look -/
section QJ
variable {m mi x : Mem} {n k L T : Nat} {w tx : Nat → Int32} {pa : Nat → Nat → Int32} {nn TT : Nat → Nat}
theorem rng (v : Int32) (K : Nat) (hK : K < 1000000) : (∃ j, j ≤ K ∧ v = zI j) ∨ v < 0 ∨ (¬ v < 0 ∧ zI K < v ∧ zI (K + 1) ≤ v) := by
  by_cases h0 : v < 0
  · exact Or.inr (Or.inl h0)
  · have h1 : 0 ≤ v := Int32.not_lt.mp h0
    have e := zI_of h1
    by_cases h2 : v.toNatClampNeg ≤ K
    · exact Or.inl ⟨_, h2, e⟩
    · refine Or.inr (Or.inr ⟨h0, ?_, ?_⟩)
      · rw [e, zI_lt (by omega) (Int32.toNatClampNeg_lt v)]; omega
      · rw [e, zI_le (by omega) (Int32.toNatClampNeg_lt v)]; omega
theorem m_in1 {j K : Nat} (h : j ≤ K) (hK : K < 1000000) (x : Mem) : F_X4_in (zI j) 0 (zI K) x = some 1 := by
  rw [m_in, if_neg (zI_nn (by omega)), if_neg (by rw [zI_lt (by omega) (by omega)]; omega)]
theorem m_in0 {v : Int32} {K : Nat} (h : v < 0 ∨ (¬ v < 0 ∧ zI K < v ∧ zI (K + 1) ≤ v)) (x : Mem) : F_X4_in v 0 (zI K) x = some 0 := by
  rw [m_in]
  rcases h with h | ⟨h1, h2, -⟩
  · rw [if_pos h]
  · rw [if_neg h1, if_pos h2]
theorem m_isT {t : Nat} (ht : t < 3) (x : Mem) : F_X4_isTenant (zI t) x = some 1 := by
  have e : F_X4_in (zI t) 0 2 x = some 1 := m_in1 (K := 2) (by omega) (by omega) x
  simp (discharger := omega) only [F_X4_isTenant, e, bd_e, bo_e, bm_e, bts_l, bts_r, btm_l, btm_r, bp_lt, ck_ib, ck_z, ck_o, ifT, ifF, n10, n01, pv_v, if_pos, if_neg, zI_nat, zI_add, zI_mul, zI_addl, zI_laddl, zI_mull, zI_lmul, zI_subl, zI_pred, zI_le, zI_lt, zI_eq, zI_lel, zI_lle, zI_ltl, zI_llt, zI_eql, zI_leq, zI_ne1, zI_1ne]
theorem m_isT0 {v : Int32} (h : v < 0 ∨ (¬ v < 0 ∧ zI 2 < v ∧ zI (2 + 1) ≤ v)) (x : Mem) : F_X4_isTenant v x = some 0 := by
  have e : F_X4_in v 0 2 x = some 0 := m_in0 (K := 2) h x
  simp (discharger := omega) only [F_X4_isTenant, e, bd_e, bo_e, bm_e, bts_l, bts_r, btm_l, btm_r, bp_lt, ck_ib, ck_z, ck_o, ifT, ifF, n10, n01, pv_v, if_pos, if_neg, zI_nat, zI_add, zI_mul, zI_addl, zI_laddl, zI_mull, zI_lmul, zI_subl, zI_pred, zI_le, zI_lt, zI_eq, zI_lel, zI_lle, zI_ltl, zI_llt, zI_eql, zI_leq, zI_ne1, zI_1ne]
theorem m_isL {l : Nat} (hl : l < 8) (x : Mem) : F_X4_isLetter (zI l) x = some 1 := by
  have e : F_X4_in (zI l) 0 7 x = some 1 := m_in1 (K := 7) (by omega) (by omega) x
  simp (discharger := omega) only [F_X4_isLetter, e, bd_e, bo_e, bm_e, bts_l, bts_r, btm_l, btm_r, bp_lt, ck_ib, ck_z, ck_o, ifT, ifF, n10, n01, pv_v, if_pos, if_neg, zI_nat, zI_add, zI_mul, zI_addl, zI_laddl, zI_mull, zI_lmul, zI_subl, zI_pred, zI_le, zI_lt, zI_eq, zI_lel, zI_lle, zI_ltl, zI_llt, zI_eql, zI_leq, zI_ne1, zI_1ne]
theorem m_isL0 {v : Int32} (h : v < 0 ∨ (¬ v < 0 ∧ zI 7 < v ∧ zI (7 + 1) ≤ v)) (x : Mem) : F_X4_isLetter v x = some 0 := by
  have e : F_X4_in v 0 7 x = some 0 := m_in0 (K := 7) h x
  simp (discharger := omega) only [F_X4_isLetter, e, bd_e, bo_e, bm_e, bts_l, bts_r, btm_l, btm_r, bp_lt, ck_ib, ck_z, ck_o, ifT, ifF, n10, n01, pv_v, if_pos, if_neg, zI_nat, zI_add, zI_mul, zI_addl, zI_laddl, zI_mull, zI_lmul, zI_subl, zI_pred, zI_le, zI_lt, zI_eq, zI_lel, zI_lle, zI_ltl, zI_llt, zI_eql, zI_leq, zI_ne1, zI_1ne]
theorem p_isT0' {v : Int32} (h : v < 0 ∨ (¬ v < 0 ∧ zI 2 < v ∧ zI (2 + 1) ≤ v)) (x : Mem) : F_X3_isTenant v x = some 0 := p_isT0 (h.imp id (fun h => h.2.2)) x
theorem p_isL0' {v : Int32} (h : v < 0 ∨ (¬ v < 0 ∧ zI 7 < v ∧ zI (7 + 1) ≤ v)) (x : Mem) : F_X3_isLetter v x = some 0 := p_isL0 (h.imp id (fun h => h.2.2)) x
theorem rng3 (v : Int32) : (∃ j, j < 3 ∧ v = zI j) ∨ v < 0 ∨ (¬ v < 0 ∧ zI 2 < v ∧ zI (2 + 1) ≤ v) := by
  rcases rng v 2 (by omega) with ⟨j, h, e⟩ | h
  · exact Or.inl ⟨j, by omega, e⟩
  · exact Or.inr h
theorem rng8 (v : Int32) : (∃ j, j < 8 ∧ v = zI j) ∨ v < 0 ∨ (¬ v < 0 ∧ zI 7 < v ∧ zI (7 + 1) ≤ v) := by
  rcases rng v 7 (by omega) with ⟨j, h, e⟩ | h
  · exact Or.inl ⟨j, by omega, e⟩
  · exact Or.inr h
theorem jb_count (p : Int32) (m : Mem) : J_X3_count_14 p m = some (.inr 0) := rfl
theorem jb_tenant (p q : Int32) (m : Mem) : J_X3_tenant_21 p q m = some (.inr 0) := rfl
theorem jb_column (p q r : Int32) (m : Mem) : J_X3_column_30 p q r m = some (.inr 0) := rfl
theorem jb_rowOf (p q : Int32) (m : Mem) : J_X3_rowOf_19 p q m = some (.inr 0) := rfl
theorem jb_mean (p q r : Int32) (m : Mem) : J_X3_mean_27 p q r m = some (.inr 0, m) := rfl
theorem jb_forget (p q : Int32) (m : Mem) : J_X3_forget_18 p q m = some (.inr 0, m) := rfl
theorem jb_index (p q : Int32) (m : Mem) : J_X3_index_18 p q m = some (.inr 0, m) := rfl
theorem jb_put (p q r : Int32) (m : Mem) : J_X3_put_30 p q r m = some (.inr 0, m) := rfl
theorem jb_limit (p q r : Int32) (m : Mem) : J_X3_limit_30 p q r m = some (.inr 0, m) := rfl
theorem jb_ask (p : Int32) (m : Mem) : J_X3_ask_18 p m = some (.inr 0, m) := rfl
theorem jb_purge (p : Int32) (m : Mem) : J_X3_purge_18 p m = some (.inr 0, m) := rfl
theorem jb_answer (p q r : Int32) (m : Mem) : J_X3_answer_27 p q r m = some (.inr 0, m) := rfl
theorem frp_rf (m : Mem) : FrP m m := ⟨fun _ _ => rfl, rfl⟩
theorem mok_fail (h : MRel x w k pa L tx) (c : Int32) : MOk x (some (0, wI (wI x (3, 0, 0, 0) 6 0) (3, 0, 0, 0) 6 c)) 0 c w n k pa L tx :=
  ⟨_, w, rfl, mrel_6 (mrel_6 h 0) c, eqw_rf n w, frm_tr (frm_wI rfl x 6 0) (frm_wI rfl _ 6 c), by rw [wI_eq, upd_eq]⟩
theorem mok_look (h : MRel x w k pa L tx) (v : Int32) : MOk x (some (v, wI x (3, 0, 0, 0) 6 0)) v 0 w n k pa L tx :=
  ⟨_, w, rfl, mrel_6 h 0, eqw_rf n w, frm_wI rfl x 6 0, by rw [wI_eq, upd_eq]⟩
theorem m_fails (c : Int32) (x : Mem) : F_X4_fails c x = some (0, wI x (3, 0, 0, 0) 6 c) := rfl
theorem mw_of (h : MRel x w k pa L tx) (hI : WI w n T) : MW x w n := ⟨h.1, hI.2.1, hI.1⟩
theorem call_count (h : St mi) (p : Int32) : CallOK (F_L_count p mi) (fun m' => F_X4_count p m') := by
  obtain ⟨w, n, T, k, pa, nn, TT, L, tx, hP, hM, hA⟩ := h
  have hs := hP.1 6 (by omega)
  rcases rng8 p with ⟨j, hj, rfl⟩ | hr
  · have e := p_count hP.2.2.2.1 hs hA.1 hj
    rw [hP.2.2.1] at e
    refine ok_val (v := cntT w n T (zI k) j) (m1 := mi) hM (by rw [e]; rfl) hP (frp_rf _) hA (fun m' hm => ?_)
    have e1 : F_X4_in (zI j) 0 7 (wI m' (3, 0, 0, 0) 6 0) = some 1 := m_in1 (K := 7) (by omega) (by omega) _
    have e2 := m_counted (mw_of (mrel_6 hm 0) hA.1) hA.1 hj
    rw [(mrel_6 hm 0).2.1] at e2
    have e3 : F_X4_count (zI j) m' = some (cntT w n T (zI k) j, wI m' (3, 0, 0, 0) 6 0) := by
      simp (discharger := omega) only [F_X4_count, e1, e2, J_X4_count_28, bd_e, bo_e, bm_e, bts_l, bts_r, btm_l, btm_r, bp_lt, ck_ib, ck_z, ck_o, ifT, ifF, n10, n01, pv_v, if_pos, if_neg, zI_nat, zI_add, zI_mul, zI_addl, zI_laddl, zI_mull, zI_lmul, zI_subl, zI_pred, zI_le, zI_lt, zI_eq, zI_lel, zI_lle, zI_ltl, zI_llt, zI_eql, zI_leq, zI_ne1, zI_1ne]
    rw [e3]
    exact mok_look hm _
  · have e : F_X3_count p mi = some (.inr 0) := by
      rcases hr with h | ⟨h1, h2, -⟩
      · simp (discharger := omega) only [F_X3_count, h, jb_count, bd_e, bo_e, bm_e, bts_l, bts_r, btm_l, btm_r, bp_lt, ck_ib, ck_z, ck_o, ifT, ifF, n10, n01, pv_v, if_pos, if_neg, zI_nat, zI_add, zI_mul, zI_addl, zI_laddl, zI_mull, zI_lmul, zI_subl, zI_pred, zI_le, zI_lt, zI_eq, zI_lel, zI_lle, zI_ltl, zI_llt, zI_eql, zI_leq, zI_ne1, zI_1ne]
      · have h7 : (7 : Int32) < p := h2
        simp (discharger := omega) only [F_X3_count, h1, h7, jb_count, bd_e, bo_e, bm_e, bts_l, bts_r, btm_l, btm_r, bp_lt, ck_ib, ck_z, ck_o, ifT, ifF, n10, n01, pv_v, if_pos, if_neg, zI_nat, zI_add, zI_mul, zI_addl, zI_laddl, zI_mull, zI_lmul, zI_subl, zI_pred, zI_le, zI_lt, zI_eq, zI_lel, zI_lle, zI_ltl, zI_llt, zI_eql, zI_leq, zI_ne1, zI_1ne]
    refine ok_err (c := 0) (code := 1) (m1 := mi) hM (by rw [e]; rfl) rfl (by decide) hP (frp_rf _) hA (v' := 0) (fun m' hm => ?_)
    have e1 : F_X4_in p 0 7 (wI m' (3, 0, 0, 0) 6 0) = some 0 := m_in0 (K := 7) hr _
    have e3 : F_X4_count p m' = some (0, wI (wI m' (3, 0, 0, 0) 6 0) (3, 0, 0, 0) 6 1) := by
      simp (discharger := omega) only [F_X4_count, e1, m_fails, J_X4_count_28, bd_e, bo_e, bm_e, bts_l, bts_r, btm_l, btm_r, bp_lt, ck_ib, ck_z, ck_o, ifT, ifF, n10, n01, pv_v, if_pos, if_neg, zI_nat, zI_add, zI_mul, zI_addl, zI_laddl, zI_mull, zI_lmul, zI_subl, zI_pred, zI_le, zI_lt, zI_eq, zI_lel, zI_lle, zI_ltl, zI_llt, zI_eql, zI_leq, zI_ne1, zI_1ne]
    rw [e3]
    exact mok_fail hm 1
theorem call_tenant (h : St mi) (p q : Int32) : CallOK (F_L_tenant p q mi) (fun m' => F_X4_tenant p q m') := by
  obtain ⟨w, n, T, k, pa, nn, TT, L, tx, hP, hM, hA⟩ := h
  have hs := hP.1 6 (by omega)
  have bad : F_X3_tenant p q mi = some (.inr 0) → (∀ m', F_X4_tenant p q m' = some (0, wI (wI m' (3, 0, 0, 0) 6 0) (3, 0, 0, 0) 6 1)) → CallOK (F_L_tenant p q mi) (fun m' => F_X4_tenant p q m') := by
    intro e e2
    refine ok_err (c := 0) (code := 1) (m1 := mi) hM (by rw [e]; rfl) rfl (by decide) hP (frp_rf _) hA (v' := 0) (fun m' hm => ?_)
    rw [e2]
    exact mok_fail hm 1
  rcases rng3 p with ⟨t, ht, rfl⟩ | hr
  · rcases rng q 8 (by omega) with ⟨j, hj, rfl⟩ | hq
    · have e := p_tenant hP.2.2.2.1 hs hA.1 ht (show j < 9 by omega)
      refine ok_val (v := tenT w n t j) (m1 := mi) hM (by rw [e]; rfl) hP (frp_rf _) hA (fun m' hm => ?_)
      have e1 : F_X4_in (zI j) 0 8 (wI m' (3, 0, 0, 0) 6 0) = some 1 := m_in1 (K := 8) (by omega) (by omega) _
      have e2 := m_ofTenant (mw_of (mrel_6 hm 0) hA.1) ht (show j < 9 by omega)
      have e3 : F_X4_tenant (zI t) (zI j) m' = some (tenT w n t j, wI m' (3, 0, 0, 0) 6 0) := by
        simp (discharger := omega) only [F_X4_tenant, m_isT ht, e1, e2, J_X4_tenant_36, bd_e, bo_e, bm_e, bts_l, bts_r, btm_l, btm_r, bp_lt, ck_ib, ck_z, ck_o, ifT, ifF, n10, n01, pv_v, if_pos, if_neg, zI_nat, zI_add, zI_mul, zI_addl, zI_laddl, zI_mull, zI_lmul, zI_subl, zI_pred, zI_le, zI_lt, zI_eq, zI_lel, zI_lle, zI_ltl, zI_llt, zI_eql, zI_leq, zI_ne1, zI_1ne]
      rw [e3]
      exact mok_look hm _
    · refine bad ?_ (fun m' => ?_)
      · rcases hq with h | ⟨h1, h2, -⟩
        · simp (discharger := omega) only [F_X3_tenant, p_isT ht, h, jb_tenant, bd_e, bo_e, bm_e, bts_l, bts_r, btm_l, btm_r, bp_lt, ck_ib, ck_z, ck_o, ifT, ifF, n10, n01, pv_v, if_pos, if_neg, zI_nat, zI_add, zI_mul, zI_addl, zI_laddl, zI_mull, zI_lmul, zI_subl, zI_pred, zI_le, zI_lt, zI_eq, zI_lel, zI_lle, zI_ltl, zI_llt, zI_eql, zI_leq, zI_ne1, zI_1ne]
        · have h7 : (8 : Int32) < q := h2
          simp (discharger := omega) only [F_X3_tenant, p_isT ht, h1, h7, jb_tenant, bd_e, bo_e, bm_e, bts_l, bts_r, btm_l, btm_r, bp_lt, ck_ib, ck_z, ck_o, ifT, ifF, n10, n01, pv_v, if_pos, if_neg, zI_nat, zI_add, zI_mul, zI_addl, zI_laddl, zI_mull, zI_lmul, zI_subl, zI_pred, zI_le, zI_lt, zI_eq, zI_lel, zI_lle, zI_ltl, zI_llt, zI_eql, zI_leq, zI_ne1, zI_1ne]
      · have e1 : F_X4_in q 0 8 (wI m' (3, 0, 0, 0) 6 0) = some 0 := m_in0 (K := 8) hq _
        simp (discharger := omega) only [F_X4_tenant, m_isT ht, e1, m_fails, J_X4_tenant_31, J_X4_tenant_36, bd_e, bo_e, bm_e, bts_l, bts_r, btm_l, btm_r, bp_lt, ck_ib, ck_z, ck_o, ifT, ifF, n10, n01, pv_v, if_pos, if_neg, zI_nat, zI_add, zI_mul, zI_addl, zI_laddl, zI_mull, zI_lmul, zI_subl, zI_pred, zI_le, zI_lt, zI_eq, zI_lel, zI_lle, zI_ltl, zI_llt, zI_eql, zI_leq, zI_ne1, zI_1ne]
  · refine bad ?_ (fun m' => ?_)
    · simp (discharger := omega) only [F_X3_tenant, p_isT0' hr, jb_tenant, bd_e, bo_e, bm_e, bts_l, bts_r, btm_l, btm_r, bp_lt, ck_ib, ck_z, ck_o, ifT, ifF, n10, n01, pv_v, if_pos, if_neg, zI_nat, zI_add, zI_mul, zI_addl, zI_laddl, zI_mull, zI_lmul, zI_subl, zI_pred, zI_le, zI_lt, zI_eq, zI_lel, zI_lle, zI_ltl, zI_llt, zI_eql, zI_leq, zI_ne1, zI_1ne]
    · simp (discharger := omega) only [F_X4_tenant, m_isT0 hr, m_fails, J_X4_tenant_31, J_X4_tenant_36, bd_e, bo_e, bm_e, bts_l, bts_r, btm_l, btm_r, bp_lt, ck_ib, ck_z, ck_o, ifT, ifF, n10, n01, pv_v, if_pos, if_neg, zI_nat, zI_add, zI_mul, zI_addl, zI_laddl, zI_mull, zI_lmul, zI_subl, zI_pred, zI_le, zI_lt, zI_eq, zI_lel, zI_lle, zI_ltl, zI_llt, zI_eql, zI_leq, zI_ne1, zI_1ne]
theorem call_column (h : St mi) (p q r : Int32) : CallOK (F_L_column p q r mi) (fun m' => F_X4_column p q r m') := by
  obtain ⟨w, n, T, k, pa, nn, TT, L, tx, hP, hM, hA⟩ := h
  have hs := hP.1 6 (by omega)
  have bad : F_X3_column p q r mi = some (.inr 0) → (∀ m', F_X4_column p q r m' = some (0, wI (wI m' (3, 0, 0, 0) 6 0) (3, 0, 0, 0) 6 1)) → CallOK (F_L_column p q r mi) (fun m' => F_X4_column p q r m') := by
    intro e e2
    refine ok_err (c := 0) (code := 1) (m1 := mi) hM (by rw [e]; rfl) rfl (by decide) hP (frp_rf _) hA (v' := 0) (fun m' hm => ?_)
    rw [e2]
    exact mok_fail hm 1
  rcases rng3 p with ⟨t, ht, rfl⟩ | hr
  · rcases rng8 q with ⟨c, hc, rfl⟩ | hq
    · rcases rng r 5 (by omega) with ⟨j, hj, rfl⟩ | hr
      · have e := p_column hP.2.2.2.1 hs hA.1 ht hc (show j < 6 by omega)
        refine ok_val (v := colT w n t c j) (m1 := mi) hM (by rw [e]; rfl) hP (frp_rf _) hA (fun m' hm => ?_)
        have e1 : F_X4_in (zI j) 0 5 (wI m' (3, 0, 0, 0) 6 0) = some 1 := m_in1 (K := 5) (by omega) (by omega) _
        have e2 := m_ofColumn (mw_of (mrel_6 hm 0) hA.1) hA.1 ht hc (show j < 6 by omega)
        have e3 : F_X4_column (zI t) (zI c) (zI j) m' = some (colT w n t c j, wI m' (3, 0, 0, 0) 6 0) := by
          simp (discharger := omega) only [F_X4_column, m_isT ht, m_isL hc, e1, e2, J_X4_column_43, bd_e, bo_e, bm_e, bts_l, bts_r, btm_l, btm_r, bp_lt, ck_ib, ck_z, ck_o, ifT, ifF, n10, n01, pv_v, if_pos, if_neg, zI_nat, zI_add, zI_mul, zI_addl, zI_laddl, zI_mull, zI_lmul, zI_subl, zI_pred, zI_le, zI_lt, zI_eq, zI_lel, zI_lle, zI_ltl, zI_llt, zI_eql, zI_leq, zI_ne1, zI_1ne]
        rw [e3]
        exact mok_look hm _
      · refine bad ?_ (fun m' => ?_)
        · rcases hr with h | ⟨h1, h2, -⟩
          · simp (discharger := omega) only [F_X3_column, p_isT ht, h, jb_column, bd_e, bo_e, bm_e, bts_l, bts_r, btm_l, btm_r, bp_lt, ck_ib, ck_z, ck_o, ifT, ifF, n10, n01, pv_v, if_pos, if_neg, zI_nat, zI_add, zI_mul, zI_addl, zI_laddl, zI_mull, zI_lmul, zI_subl, zI_pred, zI_le, zI_lt, zI_eq, zI_lel, zI_lle, zI_ltl, zI_llt, zI_eql, zI_leq, zI_ne1, zI_1ne]
          · have h7 : (5 : Int32) < r := h2
            simp (discharger := omega) only [F_X3_column, p_isT ht, h1, h7, jb_column, bd_e, bo_e, bm_e, bts_l, bts_r, btm_l, btm_r, bp_lt, ck_ib, ck_z, ck_o, ifT, ifF, n10, n01, pv_v, if_pos, if_neg, zI_nat, zI_add, zI_mul, zI_addl, zI_laddl, zI_mull, zI_lmul, zI_subl, zI_pred, zI_le, zI_lt, zI_eq, zI_lel, zI_lle, zI_ltl, zI_llt, zI_eql, zI_leq, zI_ne1, zI_1ne]
        · have e1 : F_X4_in r 0 5 (wI m' (3, 0, 0, 0) 6 0) = some 0 := m_in0 (K := 5) hr _
          simp (discharger := omega) only [F_X4_column, m_isT ht, m_isL hc, e1, m_fails, J_X4_column_38, J_X4_column_43, bd_e, bo_e, bm_e, bts_l, bts_r, btm_l, btm_r, bp_lt, ck_ib, ck_z, ck_o, ifT, ifF, n10, n01, pv_v, if_pos, if_neg, zI_nat, zI_add, zI_mul, zI_addl, zI_laddl, zI_mull, zI_lmul, zI_subl, zI_pred, zI_le, zI_lt, zI_eq, zI_lel, zI_lle, zI_ltl, zI_llt, zI_eql, zI_leq, zI_ne1, zI_1ne]
    · refine bad ?_ (fun m' => ?_)
      · rcases hq with h | ⟨h1, -, h2⟩
        · simp (discharger := omega) only [F_X3_column, p_isT ht, h, jb_column, bd_e, bo_e, bm_e, bts_l, bts_r, btm_l, btm_r, bp_lt, ck_ib, ck_z, ck_o, ifT, ifF, n10, n01, pv_v, if_pos, if_neg, zI_nat, zI_add, zI_mul, zI_addl, zI_laddl, zI_mull, zI_lmul, zI_subl, zI_pred, zI_le, zI_lt, zI_eq, zI_lel, zI_lle, zI_ltl, zI_llt, zI_eql, zI_leq, zI_ne1, zI_1ne]
        · have h7 : (8 : Int32) ≤ q := h2
          simp (discharger := omega) only [F_X3_column, p_isT ht, h1, h7, jb_column, bd_e, bo_e, bm_e, bts_l, bts_r, btm_l, btm_r, bp_lt, ck_ib, ck_z, ck_o, ifT, ifF, n10, n01, pv_v, if_pos, if_neg, zI_nat, zI_add, zI_mul, zI_addl, zI_laddl, zI_mull, zI_lmul, zI_subl, zI_pred, zI_le, zI_lt, zI_eq, zI_lel, zI_lle, zI_ltl, zI_llt, zI_eql, zI_leq, zI_ne1, zI_1ne]
      · simp (discharger := omega) only [F_X4_column, m_isT ht, m_isL0 hq, m_fails, J_X4_column_38, J_X4_column_43, bd_e, bo_e, bm_e, bts_l, bts_r, btm_l, btm_r, bp_lt, ck_ib, ck_z, ck_o, ifT, ifF, n10, n01, pv_v, if_pos, if_neg, zI_nat, zI_add, zI_mul, zI_addl, zI_laddl, zI_mull, zI_lmul, zI_subl, zI_pred, zI_le, zI_lt, zI_eq, zI_lel, zI_lle, zI_ltl, zI_llt, zI_eql, zI_leq, zI_ne1, zI_1ne]
  · refine bad ?_ (fun m' => ?_)
    · simp (discharger := omega) only [F_X3_column, p_isT0' hr, jb_column, bd_e, bo_e, bm_e, bts_l, bts_r, btm_l, btm_r, bp_lt, ck_ib, ck_z, ck_o, ifT, ifF, n10, n01, pv_v, if_pos, if_neg, zI_nat, zI_add, zI_mul, zI_addl, zI_laddl, zI_mull, zI_lmul, zI_subl, zI_pred, zI_le, zI_lt, zI_eq, zI_lel, zI_lle, zI_ltl, zI_llt, zI_eql, zI_leq, zI_ne1, zI_1ne]
    · simp (discharger := omega) only [F_X4_column, m_isT0 hr, m_fails, J_X4_column_38, J_X4_column_43, bd_e, bo_e, bm_e, bts_l, bts_r, btm_l, btm_r, bp_lt, ck_ib, ck_z, ck_o, ifT, ifF, n10, n01, pv_v, if_pos, if_neg, zI_nat, zI_add, zI_mul, zI_addl, zI_laddl, zI_mull, zI_lmul, zI_subl, zI_pred, zI_le, zI_lt, zI_eq, zI_lel, zI_lle, zI_ltl, zI_llt, zI_eql, zI_leq, zI_ne1, zI_1ne]
/-- a row's number, or none -/
theorem rngN (v : Int32) (hn : n ≤ 120) : (∃ j, j < n ∧ v = zI j) ∨ v < 0 ∨ (¬ v < 0 ∧ zI n ≤ v) := by
  by_cases h0 : v < 0
  · exact Or.inr (Or.inl h0)
  · have h1 : 0 ≤ v := Int32.not_lt.mp h0
    have e := zI_of h1
    by_cases h2 : v.toNatClampNeg < n
    · exact Or.inl ⟨_, h2, e⟩
    · refine Or.inr (Or.inr ⟨h0, ?_⟩)
      rw [e, zI_le (by omega) (Int32.toNatClampNeg_lt v)]; omega
theorem m_isRow1 (h : MW x w n) {j : Nat} (hj : j < n) : F_X4_isRow (zI j) x = some 1 := by
  obtain ⟨h1, h2, h3⟩ := id h
  have k1 : Int32.toNatClampNeg 1080 = 1080 := rfl
  have k2 : ck (ib 1080 1174) = (fun (x : Option Int32) => x) := rfl
  have e := m_in1 (j := j) (K := n - 1) (by omega) (by omega) x
  simp (discharger := omega) only [F_X4_isRow, h1, h2, k1, k2, e, bd_e, bo_e, bm_e, bts_l, bts_r, btm_l, btm_r, bp_lt, ck_ib, ck_z, ck_o, ifT, ifF, n10, n01, pv_v, if_pos, if_neg, zI_nat, zI_add, zI_mul, zI_addl, zI_laddl, zI_mull, zI_lmul, zI_subl, zI_pred, zI_le, zI_lt, zI_eq, zI_lel, zI_lle, zI_ltl, zI_llt, zI_eql, zI_leq, zI_ne1, zI_1ne]
theorem m_isRow0 (h : MW x w n) {v : Int32} (hv : v < 0 ∨ (¬ v < 0 ∧ zI n ≤ v)) : F_X4_isRow v x = some 0 := by
  obtain ⟨h1, h2, h3⟩ := id h
  have k1 : Int32.toNatClampNeg 1080 = 1080 := rfl
  have k2 : ck (ib 1080 1174) = (fun (x : Option Int32) => x) := rfl
  have e : F_X4_in v 0 (zI n - 1) x = some 0 := by
    rw [m_in]
    rcases hv with h | ⟨ha, hb⟩
    · rw [if_pos h]
    · have e1 := zI_of (Int32.not_lt.mp ha)
      rw [if_neg ha]
      by_cases h0 : n = 0
      · have : zI n - 1 < v := by
          rw [h0]
          refine Int32.lt_of_lt_of_le (b := 0) (by decide) (Int32.not_lt.mp ha)
        rw [if_pos this]
      · have : zI n - 1 < v := by
          rw [e1, zI_le (by omega) (Int32.toNatClampNeg_lt v)] at hb
          rw [e1, zI_subl (by omega), zI_lt (by omega) (Int32.toNatClampNeg_lt v)]
          omega
        rw [if_pos this]
  simp (discharger := omega) only [F_X4_isRow, h1, h2, k1, k2, e, bd_e, bo_e, bm_e, bts_l, bts_r, btm_l, btm_r, bp_lt, ck_ib, ck_z, ck_o, ifT, ifF, n10, n01, pv_v, if_pos, if_neg, zI_nat, zI_add, zI_mul, zI_addl, zI_laddl, zI_mull, zI_lmul, zI_subl, zI_pred, zI_le, zI_lt, zI_eq, zI_lel, zI_lle, zI_ltl, zI_llt, zI_eql, zI_leq, zI_ne1, zI_1ne]
theorem p_reqRow0 (h : PRel m w n k pa nn L tx) (hI : WI w n T) {v : Int32} (hv : v < 0 ∨ (¬ v < 0 ∧ zI n ≤ v)) : F_X3_requireRow v m = some (.inr 2) := by
  have hs := h.1 6 (by omega)
  have h3 := h.2.2.2.1.2.2.1
  rcases hv with h | ⟨ha, hb⟩
  · simp (discharger := omega) only [F_X3_requireRow, J_X3_requireRow_15, h, bd_e, bo_e, bm_e, bts_l, bts_r, btm_l, btm_r, bp_lt, ck_ib, ck_z, ck_o, ifT, ifF, n10, n01, pv_v, if_pos, if_neg, zI_nat, zI_add, zI_mul, zI_addl, zI_laddl, zI_mull, zI_lmul, zI_subl, zI_pred, zI_le, zI_lt, zI_eq, zI_lel, zI_lle, zI_ltl, zI_llt, zI_eql, zI_leq, zI_ne1, zI_1ne]
  · have hc : ¬ v < zI n := Int32.not_lt.mpr hb
    simp (discharger := omega) only [F_X3_requireRow, J_X3_requireRow_15, ha, h3, hc, bd_e, bo_e, bm_e, bts_l, bts_r, btm_l, btm_r, bp_lt, ck_ib, ck_z, ck_o, ifT, ifF, n10, n01, pv_v, if_pos, if_neg, zI_nat, zI_add, zI_mul, zI_addl, zI_laddl, zI_mull, zI_lmul, zI_subl, zI_pred, zI_le, zI_lt, zI_eq, zI_lel, zI_lle, zI_ltl, zI_llt, zI_eql, zI_leq, zI_ne1, zI_1ne]
theorem call_rowOf (h : St mi) (p q : Int32) : CallOK (F_L_rowOf p q mi) (fun m' => F_X4_rowOf p q m') := by
  obtain ⟨w, n, T, k, pa, nn, TT, L, tx, hP, hM, hA⟩ := h
  have hs := hP.1 6 (by omega)
  rcases rngN p hA.1.1 with ⟨r, hr, rfl⟩ | hr
  · rcases rng q 9 (by omega) with ⟨j, hj, rfl⟩ | hq
    · have e := p_rowOf hP.2.2.2.1 hs hA.1 hr (show j < 10 by omega)
      refine ok_val (v := rowT w r j) (m1 := mi) hM (by rw [e]; rfl) hP (frp_rf _) hA (fun m' hm => ?_)
      have hw := mw_of (mrel_6 hm 0) hA.1
      have e1 : F_X4_in (zI j) 0 9 (wI m' (3, 0, 0, 0) 6 0) = some 1 := m_in1 (K := 9) (by omega) (by omega) _
      have e2 := m_ofRow hw hr (show j < 10 by omega)
      have e3 : F_X4_rowOf (zI r) (zI j) m' = some (rowT w r j, wI m' (3, 0, 0, 0) 6 0) := by
        simp (discharger := omega) only [F_X4_rowOf, m_isRow1 hw hr, e1, e2, J_X4_rowOf_43, bd_e, bo_e, bm_e, bts_l, bts_r, btm_l, btm_r, bp_lt, ck_ib, ck_z, ck_o, ifT, ifF, n10, n01, pv_v, if_pos, if_neg, zI_nat, zI_add, zI_mul, zI_addl, zI_laddl, zI_mull, zI_lmul, zI_subl, zI_pred, zI_le, zI_lt, zI_eq, zI_lel, zI_lle, zI_ltl, zI_llt, zI_eql, zI_leq, zI_ne1, zI_1ne]
      rw [e3]
      exact mok_look hm _
    · have e : F_X3_rowOf (zI r) q mi = some (.inr 0) := by
        rcases hq with h | ⟨h1, h2, -⟩
        · simp (discharger := omega) only [F_X3_rowOf, p_reqRow hP.2.2.2.1 hs hr, h, jb_rowOf, bd_e, bo_e, bm_e, bts_l, bts_r, btm_l, btm_r, bp_lt, ck_ib, ck_z, ck_o, ifT, ifF, n10, n01, pv_v, if_pos, if_neg, zI_nat, zI_add, zI_mul, zI_addl, zI_laddl, zI_mull, zI_lmul, zI_subl, zI_pred, zI_le, zI_lt, zI_eq, zI_lel, zI_lle, zI_ltl, zI_llt, zI_eql, zI_leq, zI_ne1, zI_1ne]
        · have h7 : (9 : Int32) < q := h2
          simp (discharger := omega) only [F_X3_rowOf, p_reqRow hP.2.2.2.1 hs hr, h1, h7, jb_rowOf, bd_e, bo_e, bm_e, bts_l, bts_r, btm_l, btm_r, bp_lt, ck_ib, ck_z, ck_o, ifT, ifF, n10, n01, pv_v, if_pos, if_neg, zI_nat, zI_add, zI_mul, zI_addl, zI_laddl, zI_mull, zI_lmul, zI_subl, zI_pred, zI_le, zI_lt, zI_eq, zI_lel, zI_lle, zI_ltl, zI_llt, zI_eql, zI_leq, zI_ne1, zI_1ne]
      refine ok_err (c := 0) (code := 2) (m1 := mi) hM (by rw [e]; rfl) rfl (by decide) hP (frp_rf _) hA (v' := 0) (fun m' hm => ?_)
      have hw := mw_of (mrel_6 hm 0) hA.1
      have e1 : F_X4_in q 0 9 (wI m' (3, 0, 0, 0) 6 0) = some 0 := m_in0 (K := 9) hq _
      have e3 : F_X4_rowOf (zI r) q m' = some (0, wI (wI m' (3, 0, 0, 0) 6 0) (3, 0, 0, 0) 6 2) := by
        simp (discharger := omega) only [F_X4_rowOf, m_isRow1 hw hr, e1, m_fails, J_X4_rowOf_43, bd_e, bo_e, bm_e, bts_l, bts_r, btm_l, btm_r, bp_lt, ck_ib, ck_z, ck_o, ifT, ifF, n10, n01, pv_v, if_pos, if_neg, zI_nat, zI_add, zI_mul, zI_addl, zI_laddl, zI_mull, zI_lmul, zI_subl, zI_pred, zI_le, zI_lt, zI_eq, zI_lel, zI_lle, zI_ltl, zI_llt, zI_eql, zI_leq, zI_ne1, zI_1ne]
      rw [e3]
      exact mok_fail hm 2
  · have e : F_X3_rowOf p q mi = some (.inr 2) := by
      simp (discharger := omega) only [F_X3_rowOf, p_reqRow0 hP hA.1 hr, bd_e, bo_e, bm_e, bts_l, bts_r, btm_l, btm_r, bp_lt, ck_ib, ck_z, ck_o, ifT, ifF, n10, n01, pv_v, if_pos, if_neg, zI_nat, zI_add, zI_mul, zI_addl, zI_laddl, zI_mull, zI_lmul, zI_subl, zI_pred, zI_le, zI_lt, zI_eq, zI_lel, zI_lle, zI_ltl, zI_llt, zI_eql, zI_leq, zI_ne1, zI_1ne]
    refine ok_err (c := 2) (code := 1) (m1 := mi) hM (by rw [e]; rfl) rfl (by decide) hP (frp_rf _) hA (v' := 0) (fun m' hm => ?_)
    have hw := mw_of (mrel_6 hm 0) hA.1
    have e3 : F_X4_rowOf p q m' = some (0, wI (wI m' (3, 0, 0, 0) 6 0) (3, 0, 0, 0) 6 1) := by
      simp (discharger := omega) only [F_X4_rowOf, m_isRow0 hw hr, m_fails, bd_e, bo_e, bm_e, bts_l, bts_r, btm_l, btm_r, bp_lt, ck_ib, ck_z, ck_o, ifT, ifF, n10, n01, pv_v, if_pos, if_neg, zI_nat, zI_add, zI_mul, zI_addl, zI_laddl, zI_mull, zI_lmul, zI_subl, zI_pred, zI_le, zI_lt, zI_eq, zI_lel, zI_lle, zI_ltl, zI_llt, zI_eql, zI_leq, zI_ne1, zI_1ne]
    rw [e3]
    exact mok_fail hm 1
end QJ
