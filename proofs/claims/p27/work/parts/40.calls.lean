/-! the calls that only look -/
section QJ
variable {m mi x : Mem} {n k L T : Nat} {w tx : Nat → Int32} {pa : Nat → Nat → Int32} {nn TT : Nat → Nat}
theorem rng (v : Int32) (K : Nat) (hK : K < 1000000) : (∃ j, j ≤ K ∧ v = zI j) ∨ v < 0 ∨ (¬ v < 0 ∧ zI K < v ∧ zI (K + 1) ≤ v) := by
  by_cases h0 : v < 0
  · exact Or.inr (Or.inl h0)
  · have h1 : 0 ≤ v := Int32.not_lt.mp h0
    have e := zI_of h1
    by_cases h2 : v.toNatClampNeg ≤ K
    · exact Or.inl ⟨_, h2, e⟩
    · refine Or.inr (Or.inr ⟨h0, ?_, ?_⟩)
      · rw [e, zI_lt (by omega) (Int32.toNatClampNeg_lt v)]; omega
      · rw [e, zI_le (by omega) (Int32.toNatClampNeg_lt v)]; omega
theorem p_isT0' {v : Int32} (h : v < 0 ∨ (¬ v < 0 ∧ zI 2 < v ∧ zI (2 + 1) ≤ v)) (x : Mem) : F_X3_isTenant v x = some 0 := p_isT0 (h.imp id (fun h => h.2.2)) x
theorem p_isL0' {v : Int32} (h : v < 0 ∨ (¬ v < 0 ∧ zI 7 < v ∧ zI (7 + 1) ≤ v)) (x : Mem) : F_X3_isLetter v x = some 0 := p_isL0 (h.imp id (fun h => h.2.2)) x
theorem rng3 (v : Int32) : (∃ j, j < 3 ∧ v = zI j) ∨ v < 0 ∨ (¬ v < 0 ∧ zI 2 < v ∧ zI (2 + 1) ≤ v) := by
  rcases rng v 2 (by omega) with ⟨j, h, e⟩ | h
  · exact Or.inl ⟨j, by omega, e⟩
  · exact Or.inr h
theorem rng8 (v : Int32) : (∃ j, j < 8 ∧ v = zI j) ∨ v < 0 ∨ (¬ v < 0 ∧ zI 7 < v ∧ zI (7 + 1) ≤ v) := by
  rcases rng v 7 (by omega) with ⟨j, h, e⟩ | h
  · exact Or.inl ⟨j, by omega, e⟩
  · exact Or.inr h
theorem jb_count (p : Int32) (m : Mem) : J_X3_count_14 p m = some (.inr 0) := rfl
theorem jb_tenant (p q : Int32) (m : Mem) : J_X3_tenant_21 p q m = some (.inr 0) := rfl
theorem jb_column (p q r : Int32) (m : Mem) : J_X3_column_30 p q r m = some (.inr 0) := rfl
theorem jb_rowOf (p q : Int32) (m : Mem) : J_X3_rowOf_19 p q m = some (.inr 0) := rfl
theorem jb_mean (p q r : Int32) (m : Mem) : J_X3_mean_27 p q r m = some (.inr 0, m) := rfl
theorem jb_forget (p q : Int32) (m : Mem) : J_X3_forget_18 p q m = some (.inr 0, m) := rfl
theorem jb_index (p q : Int32) (m : Mem) : J_X3_index_18 p q m = some (.inr 0, m) := rfl
theorem jb_put (p q r : Int32) (m : Mem) : J_X3_put_30 p q r m = some (.inr 0, m) := rfl
theorem jb_limit (p q r : Int32) (m : Mem) : J_X3_limit_30 p q r m = some (.inr 0, m) := rfl
theorem jb_ask (p : Int32) (m : Mem) : J_X3_ask_18 p m = some (.inr 0, m) := rfl
theorem jb_answer (p q r : Int32) (m : Mem) : J_X3_answer_27 p q r m = some (.inr 0, m) := rfl
theorem frp_rf (m : Mem) : FrP m m := ⟨fun _ _ => rfl, rfl⟩
theorem mok_fail (h : MRel x w k pa L tx) (c : Int32) : MOk x (some (0, wI (wI x (3, 0, 0, 0) 6 0) (3, 0, 0, 0) 6 c)) 0 c w n k pa L tx :=
  ⟨_, w, rfl, mrel_6 (mrel_6 h 0) c, eqw_rf n w, frm_tr (frm_wI rfl x 6 0) (frm_wI rfl _ 6 c), by rw [wI_eq, upd_eq]⟩
theorem mok_look (h : MRel x w k pa L tx) (v : Int32) : MOk x (some (v, wI x (3, 0, 0, 0) 6 0)) v 0 w n k pa L tx :=
  ⟨_, w, rfl, mrel_6 h 0, eqw_rf n w, frm_wI rfl x 6 0, by rw [wI_eq, upd_eq]⟩
theorem mw_of (h : MRel x w k pa L tx) (hI : WI w n T) : MW x w n := ⟨h.1, hI.2.1, hI.1⟩
/-- a row's number, or none -/
theorem rngN (v : Int32) (hn : n ≤ 120) : (∃ j, j < n ∧ v = zI j) ∨ v < 0 ∨ (¬ v < 0 ∧ zI n ≤ v) := by
  by_cases h0 : v < 0
  · exact Or.inr (Or.inl h0)
  · have h1 : 0 ≤ v := Int32.not_lt.mp h0
    have e := zI_of h1
    by_cases h2 : v.toNatClampNeg < n
    · exact Or.inl ⟨_, h2, e⟩
    · refine Or.inr (Or.inr ⟨h0, ?_⟩)
      rw [e, zI_le (by omega) (Int32.toNatClampNeg_lt v)]; omega
theorem p_reqRow0 (h : PRel m w n k pa nn L tx) (hI : WI w n T) {v : Int32} (hv : v < 0 ∨ (¬ v < 0 ∧ zI n ≤ v)) : F_X3_requireRow v m = some (.inr 2) := by
  have hs := h.1 6 (by omega)
  have h3 := h.2.2.2.1.2.2.1
  rcases hv with h | ⟨ha, hb⟩
  · simp (discharger := omega) only [F_X3_requireRow, J_X3_requireRow_15, h, bd_e, bo_e, bm_e, bts_l, bts_r, btm_l, btm_r, bp_lt, ck_ib, ck_z, ck_o, ifT, ifF, n10, n01, pv_v, if_pos, if_neg, zI_nat, zI_add, zI_mul, zI_addl, zI_laddl, zI_mull, zI_lmul, zI_subl, zI_pred, zI_le, zI_lt, zI_eq, zI_lel, zI_lle, zI_ltl, zI_llt, zI_eql, zI_leq, zI_ne1, zI_1ne]
  · have hc : ¬ v < zI n := Int32.not_lt.mpr hb
    simp (discharger := omega) only [F_X3_requireRow, J_X3_requireRow_15, ha, h3, hc, bd_e, bo_e, bm_e, bts_l, bts_r, btm_l, btm_r, bp_lt, ck_ib, ck_z, ck_o, ifT, ifF, n10, n01, pv_v, if_pos, if_neg, zI_nat, zI_add, zI_mul, zI_addl, zI_laddl, zI_mull, zI_lmul, zI_subl, zI_pred, zI_le, zI_lt, zI_eq, zI_lel, zI_lle, zI_ltl, zI_llt, zI_eql, zI_leq, zI_ne1, zI_1ne]
end QJ

