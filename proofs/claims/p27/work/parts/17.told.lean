/-! what rowOf, column, tenant, count tell -/
def LR (w : Nat → Int32) : Prop := ∀ t, t < 3 → ∀ c, c < 8 → w (1081 + 8 * t + c) = -1 ∨ ∃ l, l < 8 ∧ w (1081 + 8 * t + c) = zI l
def IX (w : Nat → Int32) : Prop := ∀ t, t < 3 → ∀ c, c < 8 → w (1129 + 8 * t + c) = 0 ∨ w (1129 + 8 * t + c) = 1
def LM (w : Nat → Int32) : Prop := ∀ t, t < 3 → ∃ a, a ≤ 40 ∧ w (1153 + t) = zI a
def RT (w : Nat → Int32) (n : Nat) : Prop := ∀ t, t < 3 → ∃ a, a ≤ 40 ∧ rwsOf w n t = zI a
/-- the class of a row: 0 in the table, else 1 more than its tenant -/
def cls (w : Nat → Int32) (r : Nat) : Nat := if mvd w r = 0 then 0 else Int32.toNatClampNeg (w (9 * r)) + 1
def SO (w : Nat → Int32) (n : Nat) : Prop := ∀ r q, r < q → q < n → cls w r ≤ cls w q
def WI (w : Nat → Int32) (n T : Nat) : Prop := n ≤ 120 ∧ w 1080 = zI n ∧ OW w n ∧ VS w n ∧ UL w ∧ LR w ∧ MV w ∧ TF w n T ∧ IX w ∧ LM w ∧ RT w n ∧ T ≤ 40 ∧ SO w n
theorem loop_sg1 {β : Type} {L : Nat → Int32 → Int32 → β} {f : Nat → Int32} {c : Int32 → β} {n : Nat} (hs : ∀ k a r, r < n → L (k + 1) a (zI r) = L k (a + f r) (zI (r + 1))) (he : ∀ k a, L (k + 1) a (zI n) = c a) (k : Nat) (hk : n < k) (a : Int32) : L k a 0 = c (a + sg f n) := loop_sg hs he k hk a
theorem asN01 {v : Int32} (h : v = 0 ∨ v = 1) : (if v = 0 then (0 : Int32) else 1) = v := by
  rcases h with rfl | rfl <;> rfl
theorem vl_c (w : Nat → Int32) (r : Nat) {c : Nat} (hc : c < 8) : vl w r (zI c) = w (9 * r + 1 + c) := by
  unfold vl
  rw [if_neg (by rw [zI_ne1 (by omega)]; exact not_false), zI_nat (by omega)]
section PE
variable {m : Mem} {n T : Nat} {w : Nat → Int32}
theorem p_req1 (m0 : Mem) : F_X3_require 1 m0 = some (.inl ()) := rfl
theorem p_req0 (m0 : Mem) : F_X3_require 0 m0 = some (.inr 0) := rfl
theorem p_isT {t : Nat} (ht : t < 3) (m0 : Mem) : F_X3_isTenant (zI t) m0 = some 1 := by
  simp (discharger := omega) only [F_X3_isTenant, J_X3_isTenant_13, J_X3_isTenant_14, bd, bo_some, bm_some, bts_inl, bts_inr, btm_inl, btm_inr, bp_lt, ck_ib, ck_b0, ck_b1, ifT, ifF, n10, n01, pv_v, if_pos, if_neg, zI_nat, zI_add, zI_mul, zI_addl, zI_laddl, zI_mull, zI_lmul, zI_subl, zI_pred, zI_le, zI_lt, zI_eq, zI_lel, zI_lle, zI_ltl, zI_llt, zI_eql, zI_leq, zI_ne1, zI_1ne]
theorem p_isT0 {v : Int32} (h : v < 0 ∨ 3 ≤ v) (m0 : Mem) : F_X3_isTenant v m0 = some 0 := by
  unfold F_X3_isTenant J_X3_isTenant_13 J_X3_isTenant_14
  rcases h with h | h
  · rw [if_pos h]; rfl
  · by_cases h0 : v < 0
    · rw [if_pos h0]; rfl
    · rw [if_neg h0, if_pos h]; rfl
theorem p_isL {l : Nat} (hl : l < 8) (m0 : Mem) : F_X3_isLetter (zI l) m0 = some 1 := by
  simp (discharger := omega) only [F_X3_isLetter, J_X3_isLetter_14, J_X3_isLetter_15, bd, bo_some, bm_some, bts_inl, bts_inr, btm_inl, btm_inr, bp_lt, ck_ib, ck_b0, ck_b1, ifT, ifF, n10, n01, pv_v, if_pos, if_neg, zI_nat, zI_add, zI_mul, zI_addl, zI_laddl, zI_mull, zI_lmul, zI_subl, zI_pred, zI_le, zI_lt, zI_eq, zI_lel, zI_lle, zI_ltl, zI_llt, zI_eql, zI_leq, zI_ne1, zI_1ne]
theorem p_isL0 {v : Int32} (h : v < 0 ∨ 8 ≤ v) (m0 : Mem) : F_X3_isLetter v m0 = some 0 := by
  unfold F_X3_isLetter J_X3_isLetter_14 J_X3_isLetter_15
  rcases h with h | h
  · rw [if_pos h]; rfl
  · by_cases h0 : v < 0
    · rw [if_pos h0]; rfl
    · rw [if_neg h0, if_pos h]; rfl
def colT (w : Nat → Int32) (n t c j : Nat) : Int32 := if w (1081 + 8 * t + c) = -1 then -1 else match j with
  | 0 => w (1081 + 8 * t + c)
  | 1 => w (1105 + 8 * t + c)
  | 2 => w (1129 + 8 * t + c)
  | 3 => nWith w n t (zI c)
  | 4 => smOf w n t (zI c) + 1000000
  | _ => unOf w n t (zI c)
theorem p_column (h : SR m.1 (m.2.1 6) w n) (hs : m.2.1 6 < 7) (hI : WI w n T) {t c j : Nat} (ht : t < 3) (hc : c < 8) (hj : j < 6) : F_X3_column (zI t) (zI c) (zI j) m = some (.inl (colT w n t c j)) := by
  obtain ⟨h1, h2, h3, h4, h5, h6, h7, h8⟩ := id h
  obtain ⟨i1, i2, i3, i4, i5, i6, i7, i8, i9, -⟩ := id hI
  obtain ⟨e1, e2, e3⟩ := h6 t ht c hc
  have hC : isC (zI c) := Or.inr ⟨c, hc, rfl⟩
  have a3 := p_rowsWithValue h i4 ht hC
  have a4 := p_sumOf h i4 ht hC
  have a5 := p_unlike h i4 ht hC
  unfold colT
  by_cases hn : w (1081 + 8 * t + c) = -1
  · simp (discharger := omega) only [F_X3_column, J_X3_column_30, J_X3_column_31, p_isT ht, p_req1, e1, hn, bd, bo_some, bm_some, bts_inl, bts_inr, btm_inl, btm_inr, bp_lt, ck_ib, ck_b0, ck_b1, ifT, ifF, n10, n01, pv_v, if_pos, if_neg, zI_nat, zI_add, zI_mul, zI_addl, zI_laddl, zI_mull, zI_lmul, zI_subl, zI_pred, zI_le, zI_lt, zI_eq, zI_lel, zI_lle, zI_ltl, zI_llt, zI_eql, zI_leq, zI_ne1, zI_1ne]
  · have e3 := e3 hn
    have e4 := asN01 (i9 t ht c hc)
    rcases (show j = 0 ∨ j = 1 ∨ j = 2 ∨ j = 3 ∨ j = 4 ∨ j = 5 by omega) with rfl | rfl | rfl | rfl | rfl | rfl <;> simp (discharger := omega) only [F_X3_column, J_X3_column_30, J_X3_column_31, p_isT ht, p_req1, e1, e2, e3, e4, hn, a3, a4, a5, p_asN, bd, bo_some, bm_some, bts_inl, bts_inr, btm_inl, btm_inr, bp_lt, ck_ib, ck_b0, ck_b1, ifT, ifF, n10, n01, pv_v, if_pos, if_neg, zI_nat, zI_add, zI_mul, zI_addl, zI_laddl, zI_mull, zI_lmul, zI_subl, zI_pred, zI_le, zI_lt, zI_eq, zI_lel, zI_lle, zI_ltl, zI_llt, zI_eql, zI_leq, zI_ne1, zI_1ne]
theorem p_meanings (h : SR m.1 (m.2.1 6) w n) {t : Nat} (ht : t < 3) : F_X2_meanings (m.2.1 6) t m = some (mngs w t) := by
  obtain ⟨h1, h2, h3, h4, h5, h6, h7, h8⟩ := id h
  unfold F_X2_meanings mngs
  refine loop_sg0 (c := some) ?_ ?_ fu (by rw [fu_eq]; omega)
  · intro k a c hc
    have e := (h6 t ht c hc).1
    by_cases hw : w (1081 + 8 * t + c) = -1
    · simp (discharger := omega) only [L_X2_meanings_4, J_X2_meanings_26, e, hw, p_asN, bd, bo_some, bm_some, bts_inl, bts_inr, btm_inl, btm_inr, bp_lt, ck_ib, ck_b0, ck_b1, ifT, ifF, n10, n01, pv_v, if_pos, if_neg, zI_nat, zI_add, zI_mul, zI_addl, zI_laddl, zI_mull, zI_lmul, zI_subl, zI_pred, zI_le, zI_lt, zI_eq, zI_lel, zI_lle, zI_ltl, zI_llt, zI_eql, zI_leq, zI_ne1, zI_1ne]
    · simp (discharger := omega) only [L_X2_meanings_4, J_X2_meanings_26, e, hw, p_asN, bd, bo_some, bm_some, bts_inl, bts_inr, btm_inl, btm_inr, bp_lt, ck_ib, ck_b0, ck_b1, ifT, ifF, n10, n01, pv_v, if_pos, if_neg, zI_nat, zI_add, zI_mul, zI_addl, zI_laddl, zI_mull, zI_lmul, zI_subl, zI_pred, zI_le, zI_lt, zI_eq, zI_lel, zI_lle, zI_ltl, zI_llt, zI_eql, zI_leq, zI_ne1, zI_1ne]
  · intro k a
    simp (discharger := omega) only [L_X2_meanings_4, C_X2_meanings_37, Nat.le_refl, bd, bo_some, bm_some, bts_inl, bts_inr, btm_inl, btm_inr, bp_lt, ck_ib, ck_b0, ck_b1, ifT, ifF, n10, n01, pv_v, if_pos, if_neg, zI_nat, zI_add, zI_mul, zI_addl, zI_laddl, zI_mull, zI_lmul, zI_subl, zI_pred, zI_le, zI_lt, zI_eq, zI_lel, zI_lle, zI_ltl, zI_llt, zI_eql, zI_leq, zI_ne1, zI_1ne]
def tenT (w : Nat → Int32) (n t j : Nat) : Int32 := match j with
  | 0 => rwsOf w n t
  | 1 => mngs w t
  | j + 2 => w (1153 + 3 * j + t)
theorem p_tenant (h : SR m.1 (m.2.1 6) w n) (hs : m.2.1 6 < 7) (hI : WI w n T) {t j : Nat} (ht : t < 3) (hj : j < 9) : F_X3_tenant (zI t) (zI j) m = some (.inl (tenT w n t j)) := by
  obtain ⟨h1, h2, h3, h4, h5, h6, h7, h8⟩ := id h
  obtain ⟨i1, i2, i3, i4, i5, i6, i7, i8, i9, -⟩ := id hI
  obtain ⟨f3, f4, f5, f6, f7, f8, f9⟩ := h7 t ht
  have a1 := p_rowsOf2 h ht
  have a2 := p_meanings h ht
  have e5 := asN01 (i7 t ht)
  rcases (show j = 0 ∨ j = 1 ∨ j = 2 ∨ j = 3 ∨ j = 4 ∨ j = 5 ∨ j = 6 ∨ j = 7 ∨ j = 8 by omega) with rfl | rfl | rfl | rfl | rfl | rfl | rfl | rfl | rfl <;> simp (discharger := omega) only [F_X3_tenant, J_X3_tenant_21, J_X3_tenant_22, p_isT ht, p_req1, tenT, a1, a2, f3, f4, f5, f6, f7, f8, f9, p_asN, e5, bd, bo_some, bm_some, bts_inl, bts_inr, btm_inl, btm_inr, bp_lt, ck_ib, ck_b0, ck_b1, ifT, ifF, n10, n01, pv_v, if_pos, if_neg, zI_nat, zI_add, zI_mul, zI_addl, zI_laddl, zI_mull, zI_lmul, zI_subl, zI_pred, zI_le, zI_lt, zI_eq, zI_lel, zI_lle, zI_ltl, zI_llt, zI_eql, zI_leq, zI_ne1, zI_1ne]
def rowT (w : Nat → Int32) (r j : Nat) : Int32 := if j = 0 then w (9 * r) else if j = 9 then valsIn w r else if w (9 * r + 1 + (j - 1)) = -100000 then -1 else w (9 * r + 1 + (j - 1)) + 10000
theorem p_reqRow (h : SR m.1 (m.2.1 6) w n) (hs : m.2.1 6 < 7) {r : Nat} (hr : r < n) : F_X3_requireRow (zI r) m = some (.inl ()) := by
  obtain ⟨h1, h2, h3, h4, h5, h6, h7, h8⟩ := id h
  simp (discharger := omega) only [F_X3_requireRow, h3, bd, bo_some, bm_some, bts_inl, bts_inr, btm_inl, btm_inr, bp_lt, ck_ib, ck_b0, ck_b1, ifT, ifF, n10, n01, pv_v, if_pos, if_neg, zI_nat, zI_add, zI_mul, zI_addl, zI_laddl, zI_mull, zI_lmul, zI_subl, zI_pred, zI_le, zI_lt, zI_eq, zI_lel, zI_lle, zI_ltl, zI_llt, zI_eql, zI_leq, zI_ne1, zI_1ne]
theorem p_rowOf (h : SR m.1 (m.2.1 6) w n) (hs : m.2.1 6 < 7) (hI : WI w n T) {r j : Nat} (hr : r < n) (hj : j < 10) : F_X3_rowOf (zI r) (zI j) m = some (.inl (rowT w r j)) := by
  obtain ⟨h1, h2, h3, h4, h5, h6, h7, h8⟩ := id h
  obtain ⟨i1, i2, i3, i4, i5, i6, i7, i8, i9, -⟩ := id hI
  unfold rowT
  by_cases h0 : j = 0
  · subst h0
    simp (discharger := omega) only [F_X3_rowOf, J_X3_rowOf_19, J_X3_rowOf_20, p_reqRow h hs hr, p_req1, h4 r hr, bd, bo_some, bm_some, bts_inl, bts_inr, btm_inl, btm_inr, bp_lt, ck_ib, ck_b0, ck_b1, ifT, ifF, n10, n01, pv_v, if_pos, if_neg, zI_nat, zI_add, zI_mul, zI_addl, zI_laddl, zI_mull, zI_lmul, zI_subl, zI_pred, zI_le, zI_lt, zI_eq, zI_lel, zI_lle, zI_ltl, zI_llt, zI_eql, zI_leq, zI_ne1, zI_1ne]
  · by_cases h9 : j = 9
    · subst h9
      simp (discharger := omega) only [F_X3_rowOf, J_X3_rowOf_19, J_X3_rowOf_20, p_reqRow h hs hr, p_req1, p_valuesIn h i4 hr, bd, bo_some, bm_some, bts_inl, bts_inr, btm_inl, btm_inr, bp_lt, ck_ib, ck_b0, ck_b1, ifT, ifF, n10, n01, pv_v, if_pos, if_neg, zI_nat, zI_add, zI_mul, zI_addl, zI_laddl, zI_mull, zI_lmul, zI_subl, zI_pred, zI_le, zI_lt, zI_eq, zI_lel, zI_lle, zI_ltl, zI_llt, zI_eql, zI_leq, zI_ne1, zI_1ne]
    · have e := pv_no (vok_no (i4 r hr (j - 1) (by omega)))
      by_cases hx : w (9 * r + 1 + (j - 1)) = -100000
      · simp (discharger := omega) only [F_X3_rowOf, J_X3_rowOf_19, J_X3_rowOf_20, J_X3_rowOf_79, p_reqRow h hs hr, p_req1, p_valueAt h hr (show j - 1 < 8 by omega), hx, bd, bo_some, bm_some, bts_inl, bts_inr, btm_inl, btm_inr, bp_lt, ck_ib, ck_b0, ck_b1, ifT, ifF, n10, n01, pv_v, if_pos, if_neg, zI_nat, zI_add, zI_mul, zI_addl, zI_laddl, zI_mull, zI_lmul, zI_subl, zI_pred, zI_le, zI_lt, zI_eq, zI_lel, zI_lle, zI_ltl, zI_llt, zI_eql, zI_leq, zI_ne1, zI_1ne]
      · have e2 : pv (w (9 * r + 1 + (j - 1))) = w (9 * r + 1 + (j - 1)) := by unfold pv; rw [if_neg hx]
        rw [e2] at e
        simp (discharger := omega) only [F_X3_rowOf, J_X3_rowOf_19, J_X3_rowOf_20, J_X3_rowOf_79, p_reqRow h hs hr, p_req1, p_valueAt h hr (show j - 1 < 8 by omega), e2, e, hx, bd, bo_some, bm_some, bts_inl, bts_inr, btm_inl, btm_inr, bp_lt, ck_ib, ck_b0, ck_b1, ifT, ifF, n10, n01, pv_v, if_pos, if_neg, zI_nat, zI_add, zI_mul, zI_addl, zI_laddl, zI_mull, zI_lmul, zI_subl, zI_pred, zI_le, zI_lt, zI_eq, zI_lel, zI_lle, zI_ltl, zI_llt, zI_eql, zI_leq, zI_ne1, zI_1ne]
end PE

