/-! what is told of columns, rows, tenants -/
def bA (p : Nat → Bool) : Nat → Bool
  | 0 => true
  | n + 1 => bA p n && p n
theorem bA_iff {p : Nat → Bool} {n : Nat} : bA p n = true ↔ ∀ k, k < n → p k = true := by
  induction n with
  | zero => exact ⟨fun _ k h => absurd h (Nat.not_lt_zero k), fun _ => rfl⟩
  | succ n ih =>
    show (bA p n && p n) = true ↔ _
    rw [Bool.and_eq_true, ih]
    refine ⟨fun h k hk => ?_, fun h => ⟨fun k hk => h k (by omega), h n (by omega)⟩⟩
    by_cases hkn : k = n
    · rw [hkn]; exact h.2
    · exact h.1 k (by omega)
theorem bA_step {p : Nat → Bool} {n : Nat} (h : bA p n = true) (h2 : p n = true) : bA p (n + 1) = true := by
  show (bA p n && p n) = true
  rw [h, h2]; rfl
theorem bA_not {p : Nat → Bool} {r n : Nat} (hr : r < n) (h : p r = false) : bA p n = false := by
  cases hb : bA p n with
  | false => rfl
  | true => rw [bA_iff.mp hb r hr] at h; cases h
theorem bA_congr {p q : Nat → Bool} {n : Nat} (h : ∀ k, k < n → p k = q k) : bA p n = bA q n := by
  induction n with
  | zero => rfl
  | succ n ih => show (bA p n && p n) = (bA q n && q n); rw [ih (fun k hk => h k (by omega)), h n (by omega)]
theorem pv_inj {a b : Int32} (ha : vok a) (hb : vok b) : (pv a = pv b) = (a = b) := by
  unfold pv
  have na := vok_no ha
  have nb := vok_no hb
  by_cases h1 : a = -100000
  · rw [if_pos h1]
    by_cases h2 : b = -100000
    · rw [if_pos h2]; exact propext ⟨fun _ => h1.trans h2.symm, fun _ => rfl⟩
    · rw [if_neg h2]; exact propext ⟨fun h => absurd h.symm nb, fun h => absurd (h.symm.trans h1) h2⟩
  · rw [if_neg h1]
    by_cases h2 : b = -100000
    · rw [if_pos h2]; exact propext ⟨fun h => absurd h na, fun h => absurd (h.trans h2) h1⟩
    · rw [if_neg h2]
theorem sg_app (f : Nat → Int32) (a b : Nat) : sg f (a + b) = sg f a + sg (fun r => f (a + r)) b := by
  induction b with
  | zero => exact (Int32.add_zero _).symm
  | succ b ih =>
    show sg f (a + b) + f (a + b) = sg f a + (sg (fun r => f (a + r)) b + f (a + b))
    rw [ih, Int32.add_assoc]
theorem sg01 (p : Nat → Prop) [∀ t, Decidable (p t)] (n : Nat) : ∃ k, k ≤ n ∧ sg (fun t => if p t then 0 else 1) n = zI k := by
  induction n with
  | zero => exact ⟨0, Nat.le_refl 0, rfl⟩
  | succ n ih =>
    obtain ⟨k, hk, e⟩ := ih
    show ∃ k, k ≤ n + 1 ∧ sg (fun t => if p t then 0 else 1) n + (if p n then 0 else 1) = zI k
    by_cases h : p n
    · exact ⟨k, by omega, by rw [if_pos h, e, Int32.add_zero]⟩
    · exact ⟨k + 1, by omega, by rw [if_neg h, e]; exact zI_addl k 1⟩
/-- the first of its tenant's with its value -/
def frst (w : Nat → Int32) (t : Nat) (c : Int32) (r : Nat) : Bool := bA (fun k => !(decide (w (9 * k) = zI t) && decide (vl w k c = vl w r c))) r
def nWith (w : Nat → Int32) (n t : Nat) (c : Int32) : Int32 := sg (fun r => if w (9 * r) = zI t then (if vl w r c = -100000 then 0 else 1) else 0) n
def smOf (w : Nat → Int32) (n t : Nat) (c : Int32) : Int32 := sg (fun r => if w (9 * r) = zI t then (if vl w r c = -100000 then 0 else vl w r c) else 0) n
def unOf (w : Nat → Int32) (n t : Nat) (c : Int32) : Int32 := sg (fun r => if w (9 * r) = zI t then (if vl w r c = -100000 then 0 else if frst w t c r = true then 1 else 0) else 0) n
theorem nWith_eq (w : Nat → Int32) (n t : Nat) (c : Int32) : rwsOf w n t - rwsWith w n t c (-100000) = nWith w n t c := by
  have h : rwsOf w n t = nWith w n t c + rwsWith w n t c (-100000) := by
    unfold rwsOf nWith rwsWith
    rw [← sg_add]
    refine sg_congr (fun r hr => ?_)
    by_cases h1 : w (9 * r) = zI t
    · by_cases h2 : vl w r c = -100000
      · simp only [if_pos h1, if_pos h2]; rfl
      · simp only [if_pos h1, if_neg h2]; rfl
    · simp only [if_neg h1]; rfl
  rw [h, Int32.add_sub_cancel]
section PD
variable {m : Mem} {s n : Nat} {w : Nat → Int32}
theorem p_rowsWith (h : SR m.1 s w n) (hv : VS w n) {t : Nat} (ht : t < 3) {c v : Int32} (hc : isC c) (hok : vok v) : F_X1_rowsWith s (zI t) c (pv v) m = some (rwsWith w n t c v) := by
  obtain ⟨h1, h2, h3, h4, h5, h6, h7, h8⟩ := id h
  unfold F_X1_rowsWith rwsWith
  refine loop_sg0 (c := some) ?_ ?_ fu (by rw [fu_eq]; omega)
  · intro k a r hr
    have e := pv_inj (vl_ok hv hr hc) hok
    by_cases hw : w (9 * r) = zI t
    · by_cases hx : vl w r c = v
      · simp (discharger := omega) only [L_X1_rowsWith_6, J_X1_rowsWith_43, J_X1_rowsWith_44, h3, h4 r hr, p_valueC h hr hc, e, hw, hx, p_asN, bd, bo_some, bm_some, bts_inl, bts_inr, btm_inl, btm_inr, bp_lt, ck_ib, ck_b0, ck_b1, ifT, ifF, n10, n01, pv_v, if_pos, if_neg, zI_nat, zI_add, zI_mul, zI_addl, zI_laddl, zI_mull, zI_lmul, zI_subl, zI_pred, zI_le, zI_lt, zI_eq, zI_lel, zI_lle, zI_ltl, zI_llt, zI_eql, zI_leq, zI_ne1, zI_1ne] <;> rfl
      · simp (discharger := omega) only [L_X1_rowsWith_6, J_X1_rowsWith_43, J_X1_rowsWith_44, h3, h4 r hr, p_valueC h hr hc, e, hw, hx, p_asN, bd, bo_some, bm_some, bts_inl, bts_inr, btm_inl, btm_inr, bp_lt, ck_ib, ck_b0, ck_b1, ifT, ifF, n10, n01, pv_v, if_pos, if_neg, zI_nat, zI_add, zI_mul, zI_addl, zI_laddl, zI_mull, zI_lmul, zI_subl, zI_pred, zI_le, zI_lt, zI_eq, zI_lel, zI_lle, zI_ltl, zI_llt, zI_eql, zI_leq, zI_ne1, zI_1ne]
    · simp (discharger := omega) only [L_X1_rowsWith_6, J_X1_rowsWith_43, J_X1_rowsWith_44, h3, h4 r hr, p_valueC h hr hc, e, hw, p_asN, bd, bo_some, bm_some, bts_inl, bts_inr, btm_inl, btm_inr, bp_lt, ck_ib, ck_b0, ck_b1, ifT, ifF, n10, n01, pv_v, if_pos, if_neg, zI_nat, zI_add, zI_mul, zI_addl, zI_laddl, zI_mull, zI_lmul, zI_subl, zI_pred, zI_le, zI_lt, zI_eq, zI_lel, zI_lle, zI_ltl, zI_llt, zI_eql, zI_leq, zI_ne1, zI_1ne]
  · intro k a
    simp (discharger := omega) only [L_X1_rowsWith_6, C_X1_rowsWith_56, h3, Nat.le_refl, bd, bo_some, bm_some, bts_inl, bts_inr, btm_inl, btm_inr, bp_lt, ck_ib, ck_b0, ck_b1, ifT, ifF, n10, n01, pv_v, if_pos, if_neg, zI_nat, zI_add, zI_mul, zI_addl, zI_laddl, zI_mull, zI_lmul, zI_subl, zI_pred, zI_le, zI_lt, zI_eq, zI_lel, zI_lle, zI_ltl, zI_llt, zI_eql, zI_leq, zI_ne1, zI_1ne]
theorem p_rowsWithValue (h : SR m.1 s w n) (hv : VS w n) {t : Nat} (ht : t < 3) {c : Int32} (hc : isC c) : F_X1_rowsWithValue s (zI t) c m = some (nWith w n t c) := by
  have e : (-1000000 : Int32) = pv (-100000) := rfl
  unfold F_X1_rowsWithValue
  rw [e, p_rowsOf2 h ht, p_rowsWith h hv ht hc (Or.inl rfl)]
  show some (rwsOf w n t - rwsWith w n t c (-100000)) = _
  rw [nWith_eq]
theorem p_sumOf (h : SR m.1 s w n) (hv : VS w n) {t : Nat} (ht : t < 3) {c : Int32} (hc : isC c) : F_X1_sumOf s (zI t) c m = some (smOf w n t c) := by
  obtain ⟨h1, h2, h3, h4, h5, h6, h7, h8⟩ := id h
  unfold F_X1_sumOf smOf
  refine loop_sg0 (c := some) ?_ ?_ fu (by rw [fu_eq]; omega)
  · intro k a r hr
    have e := pv_no (vok_no (vl_ok hv hr hc))
    by_cases hw : w (9 * r) = zI t
    · by_cases hx : vl w r c = -100000
      · simp (discharger := omega) only [L_X1_sumOf_5, J_X1_sumOf_47, J_X1_sumOf_48, h3, h4 r hr, p_valueC h hr hc, e, hw, hx, bd, bo_some, bm_some, bts_inl, bts_inr, btm_inl, btm_inr, bp_lt, ck_ib, ck_b0, ck_b1, ifT, ifF, n10, n01, pv_v, if_pos, if_neg, zI_nat, zI_add, zI_mul, zI_addl, zI_laddl, zI_mull, zI_lmul, zI_subl, zI_pred, zI_le, zI_lt, zI_eq, zI_lel, zI_lle, zI_ltl, zI_llt, zI_eql, zI_leq, zI_ne1, zI_1ne]
      · have e2 : pv (vl w r c) = vl w r c := by unfold pv; rw [if_neg hx]
        rw [e2] at e
        simp (discharger := omega) only [L_X1_sumOf_5, J_X1_sumOf_47, J_X1_sumOf_48, h3, h4 r hr, p_valueC h hr hc, e2, e, hw, hx, bd, bo_some, bm_some, bts_inl, bts_inr, btm_inl, btm_inr, bp_lt, ck_ib, ck_b0, ck_b1, ifT, ifF, n10, n01, pv_v, if_pos, if_neg, zI_nat, zI_add, zI_mul, zI_addl, zI_laddl, zI_mull, zI_lmul, zI_subl, zI_pred, zI_le, zI_lt, zI_eq, zI_lel, zI_lle, zI_ltl, zI_llt, zI_eql, zI_leq, zI_ne1, zI_1ne]
    · simp (discharger := omega) only [L_X1_sumOf_5, J_X1_sumOf_47, J_X1_sumOf_48, h3, h4 r hr, p_valueC h hr hc, hw, bd, bo_some, bm_some, bts_inl, bts_inr, btm_inl, btm_inr, bp_lt, ck_ib, ck_b0, ck_b1, ifT, ifF, n10, n01, pv_v, if_pos, if_neg, zI_nat, zI_add, zI_mul, zI_addl, zI_laddl, zI_mull, zI_lmul, zI_subl, zI_pred, zI_le, zI_lt, zI_eq, zI_lel, zI_lle, zI_ltl, zI_llt, zI_eql, zI_leq, zI_ne1, zI_1ne]
  · intro k a
    simp (discharger := omega) only [L_X1_sumOf_5, C_X1_sumOf_56, h3, Nat.le_refl, bd, bo_some, bm_some, bts_inl, bts_inr, btm_inl, btm_inr, bp_lt, ck_ib, ck_b0, ck_b1, ifT, ifF, n10, n01, pv_v, if_pos, if_neg, zI_nat, zI_add, zI_mul, zI_addl, zI_laddl, zI_mull, zI_lmul, zI_subl, zI_pred, zI_le, zI_lt, zI_eq, zI_lel, zI_lle, zI_ltl, zI_llt, zI_eql, zI_leq, zI_ne1, zI_1ne]
theorem p_ahead (h : SR m.1 s w n) (hv : VS w n) {t : Nat} (ht : t < 3) {c : Int32} (hc : isC c) {r : Nat} (hr : r < n) : F_X1_standsAhead s (zI t) c (zI r) m = some (if frst w t c r = true then 0 else 1) := by
  obtain ⟨h1, h2, h3, h4, h5, h6, h7, h8⟩ := id h
  unfold F_X1_standsAhead
  rw [p_valueC h hr hc, bo_some, ← zI_zero]
  refine loop_ex (L := fun k (_ : Unit) i => L_X1_standsAhead_11 s (zI t) c (zI r) m (pv (vl w r c)) k i) (P := fun j _ => bA (fun k => !(decide (w (9 * k) = zI t) && decide (vl w k c = vl w r c))) j = true) (R := fun x => x = some (if frst w t c r = true then 0 else 1)) (n := r) ?_ ?_ r 0 fu () (by omega) (by rw [fu_eq]; omega) rfl
  · intro k a j hj hp
    have e := pv_inj (vl_ok hv (show j < n by omega) hc) (vl_ok hv hr hc)
    have hjn : j < n := by omega
    by_cases hw : w (9 * j) = zI t
    · by_cases hx : vl w j c = vl w r c
      · refine Or.inr ?_
        have e3 : frst w t c r = false := bA_not hj (by simp only [hw, hx, decide_true, Bool.and_self, Bool.not_true])
        simp (discharger := omega) only [L_X1_standsAhead_11, h4 j hjn, p_valueC h hjn hc, e, hw, hx, e3, bd, bo_some, bm_some, bts_inl, bts_inr, btm_inl, btm_inr, bp_lt, ck_ib, ck_b0, ck_b1, ifT, ifF, n10, n01, pv_v, if_pos, if_neg, zI_nat, zI_add, zI_mul, zI_addl, zI_laddl, zI_mull, zI_lmul, zI_subl, zI_pred, zI_le, zI_lt, zI_eq, zI_lel, zI_lle, zI_ltl, zI_llt, zI_eql, zI_leq, zI_ne1, zI_1ne] <;> rfl
      · refine Or.inl ⟨(), ?_, ?_⟩
        · exact bA_step hp (by simp only [decide_eq_false hx, Bool.and_false, Bool.not_false])
        · simp (discharger := omega) only [L_X1_standsAhead_11, J_X1_standsAhead_42, h4 j hjn, p_valueC h hjn hc, e, hw, hx, bd, bo_some, bm_some, bts_inl, bts_inr, btm_inl, btm_inr, bp_lt, ck_ib, ck_b0, ck_b1, ifT, ifF, n10, n01, pv_v, if_pos, if_neg, zI_nat, zI_add, zI_mul, zI_addl, zI_laddl, zI_mull, zI_lmul, zI_subl, zI_pred, zI_le, zI_lt, zI_eq, zI_lel, zI_lle, zI_ltl, zI_llt, zI_eql, zI_leq, zI_ne1, zI_1ne]
    · refine Or.inl ⟨(), ?_, ?_⟩
      · exact bA_step hp (by simp only [decide_eq_false hw, Bool.false_and, Bool.not_false])
      · simp (discharger := omega) only [L_X1_standsAhead_11, J_X1_standsAhead_42, h4 j hjn, hw, bd, bo_some, bm_some, bts_inl, bts_inr, btm_inl, btm_inr, bp_lt, ck_ib, ck_b0, ck_b1, ifT, ifF, n10, n01, pv_v, if_pos, if_neg, zI_nat, zI_add, zI_mul, zI_addl, zI_laddl, zI_mull, zI_lmul, zI_subl, zI_pred, zI_le, zI_lt, zI_eq, zI_lel, zI_lle, zI_ltl, zI_llt, zI_eql, zI_leq, zI_ne1, zI_1ne]
  · intro k a hp
    have e3 : frst w t c r = true := hp
    simp (discharger := omega) only [L_X1_standsAhead_11, C_X1_standsAhead_48, Nat.le_refl, e3, bd, bo_some, bm_some, bts_inl, bts_inr, btm_inl, btm_inr, bp_lt, ck_ib, ck_b0, ck_b1, ifT, ifF, n10, n01, pv_v, if_pos, if_neg, zI_nat, zI_add, zI_mul, zI_addl, zI_laddl, zI_mull, zI_lmul, zI_subl, zI_pred, zI_le, zI_lt, zI_eq, zI_lel, zI_lle, zI_ltl, zI_llt, zI_eql, zI_leq, zI_ne1, zI_1ne]
theorem p_unlike (h : SR m.1 s w n) (hv : VS w n) {t : Nat} (ht : t < 3) {c : Int32} (hc : isC c) : F_X1_unlikeValues s (zI t) c m = some (unOf w n t c) := by
  obtain ⟨h1, h2, h3, h4, h5, h6, h7, h8⟩ := id h
  unfold F_X1_unlikeValues unOf
  refine loop_sg0 (c := some) ?_ ?_ fu (by rw [fu_eq]; omega)
  · intro k a r hr
    have e := pv_no (vok_no (vl_ok hv hr hc))
    by_cases hw : w (9 * r) = zI t
    · by_cases hx : vl w r c = -100000
      · simp (discharger := omega) only [L_X1_unlikeValues_5, J_X1_unlikeValues_54, J_X1_unlikeValues_59, h3, h4 r hr, p_valueC h hr hc, e, hw, hx, Int32.add_zero, bd, bo_some, bm_some, bts_inl, bts_inr, btm_inl, btm_inr, bp_lt, ck_ib, ck_b0, ck_b1, ifT, ifF, n10, n01, pv_v, if_pos, if_neg, zI_nat, zI_add, zI_mul, zI_addl, zI_laddl, zI_mull, zI_lmul, zI_subl, zI_pred, zI_le, zI_lt, zI_eq, zI_lel, zI_lle, zI_ltl, zI_llt, zI_eql, zI_leq, zI_ne1, zI_1ne]
      · by_cases hf : frst w t c r = true
        · simp (discharger := omega) only [L_X1_unlikeValues_5, J_X1_unlikeValues_54, J_X1_unlikeValues_59, h3, h4 r hr, p_valueC h hr hc, e, hw, hx, p_ahead h hv ht hc hr, hf, p_asN, bd, bo_some, bm_some, bts_inl, bts_inr, btm_inl, btm_inr, bp_lt, ck_ib, ck_b0, ck_b1, ifT, ifF, n10, n01, pv_v, if_pos, if_neg, zI_nat, zI_add, zI_mul, zI_addl, zI_laddl, zI_mull, zI_lmul, zI_subl, zI_pred, zI_le, zI_lt, zI_eq, zI_lel, zI_lle, zI_ltl, zI_llt, zI_eql, zI_leq, zI_ne1, zI_1ne] <;> rfl
        · simp (discharger := omega) only [L_X1_unlikeValues_5, J_X1_unlikeValues_54, J_X1_unlikeValues_59, h3, h4 r hr, p_valueC h hr hc, e, hw, hx, p_ahead h hv ht hc hr, hf, p_asN, bd, bo_some, bm_some, bts_inl, bts_inr, btm_inl, btm_inr, bp_lt, ck_ib, ck_b0, ck_b1, ifT, ifF, n10, n01, pv_v, if_pos, if_neg, zI_nat, zI_add, zI_mul, zI_addl, zI_laddl, zI_mull, zI_lmul, zI_subl, zI_pred, zI_le, zI_lt, zI_eq, zI_lel, zI_lle, zI_ltl, zI_llt, zI_eql, zI_leq, zI_ne1, zI_1ne] <;> rfl
    · simp (discharger := omega) only [L_X1_unlikeValues_5, J_X1_unlikeValues_54, J_X1_unlikeValues_59, h3, h4 r hr, hw, Int32.add_zero, bd, bo_some, bm_some, bts_inl, bts_inr, btm_inl, btm_inr, bp_lt, ck_ib, ck_b0, ck_b1, ifT, ifF, n10, n01, pv_v, if_pos, if_neg, zI_nat, zI_add, zI_mul, zI_addl, zI_laddl, zI_mull, zI_lmul, zI_subl, zI_pred, zI_le, zI_lt, zI_eq, zI_lel, zI_lle, zI_ltl, zI_llt, zI_eql, zI_leq, zI_ne1, zI_1ne]
  · intro k a
    simp (discharger := omega) only [L_X1_unlikeValues_5, C_X1_unlikeValues_65, h3, Nat.le_refl, bd, bo_some, bm_some, bts_inl, bts_inr, btm_inl, btm_inr, bp_lt, ck_ib, ck_b0, ck_b1, ifT, ifF, n10, n01, pv_v, if_pos, if_neg, zI_nat, zI_add, zI_mul, zI_addl, zI_laddl, zI_mull, zI_lmul, zI_subl, zI_pred, zI_le, zI_lt, zI_eq, zI_lel, zI_lle, zI_ltl, zI_llt, zI_eql, zI_leq, zI_ne1, zI_1ne]
end PD

