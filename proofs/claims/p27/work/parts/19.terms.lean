/-! a question's terms, and what answers it -/
def QP (f : Lb → Nat → Int32) (nt : Nat) (tl ts tn : Nat → Int32) : Prop := f (0, 0, 0, 3) 3 = zI nt ∧ ∀ k, k < nt → f (0, 0, 0, 5) k = tl k ∧ f (0, 0, 0, 6) k = ts k ∧ f (0, 0, 0, 7) k = tn k
def QM (f : Lb → Nat → Int32) (nt : Nat) (tl ts tn : Nat → Int32) : Prop := f (3, 0, 0, 0) 10 = zI nt ∧ ∀ k, k < nt → f (3, 0, 0, 5) (3 * k) = tl k ∧ f (3, 0, 0, 5) (3 * k + 1) = ts k ∧ f (3, 0, 0, 5) (3 * k + 2) = tn k
def TK (nt : Nat) (tl ts tn : Nat → Int32) : Prop := nt ≤ 10 ∧ ∀ k, k < nt → (∃ l, l < 8 ∧ tl k = zI l) ∧ (ts k = 60 ∨ ts k = 61 ∨ ts k = 62) ∧ (-9999 ≤ tn k ∧ tn k ≤ 9999)
def okV (sg v x : Int32) : Bool := if sg = 61 then decide (v = x) else if sg = 60 then decide (v < x) else decide (x < v)
def okT (w : Nat → Int32) (tl ts tn : Nat → Int32) (t r k : Nat) : Bool := !decide (vl w r (cO w t (tl k)) = -100000) && okV (ts k) (vl w r (cO w t (tl k))) (tn k)
def an (w : Nat → Int32) (nt : Nat) (tl ts tn : Nat → Int32) (t r : Nat) : Bool := decide (w (9 * r) = zI t) && bA (okT w tl ts tn t r) nt
section PG
variable {m : Mem} {n T nt : Nat} {w tl ts tn : Nat → Int32}
theorem TK_ne (h : TK nt tl ts tn) {k : Nat} (hk : k < nt) : tl k ≠ -1 := by
  obtain ⟨l, hl, e⟩ := (h.2 k hk).1
  rw [e]
  intro h2
  rw [zI_ne1 (by omega)] at h2
  exact h2
theorem p_allows (hq : QP m.1 nt tl ts tn) (ht : TK nt tl ts tn) {k : Nat} (hk : k < nt) (v : Int32) : F_X0_allows (zI k) v m = some (if okV (ts k) v (tn k) = true then 1 else 0) := by
  obtain ⟨q1, q2⟩ := hq
  obtain ⟨-, e2, e3⟩ := q2 k hk
  have h10 := ht.1
  unfold okV
  rcases (ht.2 k hk).2.1 with hs | hs | hs
  · have n1 : ¬ (60 : Int32) = 61 := by decide
    by_cases hx : v < tn k
    · have hx2 : ¬ tn k ≤ v := fun h => absurd hx (Int32.not_lt.mpr h)
      simp (discharger := omega) only [F_X0_allows, J_X0_allows_63, e2, e3, hs, n1, hx, hx2, decide_eq_true_eq, bd, bo_some, bm_some, bts_inl, bts_inr, btm_inl, btm_inr, bp_lt, ck_ib, ck_b0, ck_b1, ifT, ifF, n10, n01, pv_v, if_pos, if_neg, zI_nat, zI_add, zI_mul, zI_addl, zI_laddl, zI_mull, zI_lmul, zI_subl, zI_pred, zI_le, zI_lt, zI_eq, zI_lel, zI_lle, zI_ltl, zI_llt, zI_eql, zI_leq, zI_ne1, zI_1ne]
    · have hx2 : tn k ≤ v := Int32.not_lt.mp hx
      simp (discharger := omega) only [F_X0_allows, J_X0_allows_63, e2, e3, hs, n1, hx, hx2, decide_eq_true_eq, bd, bo_some, bm_some, bts_inl, bts_inr, btm_inl, btm_inr, bp_lt, ck_ib, ck_b0, ck_b1, ifT, ifF, n10, n01, pv_v, if_pos, if_neg, zI_nat, zI_add, zI_mul, zI_addl, zI_laddl, zI_mull, zI_lmul, zI_subl, zI_pred, zI_le, zI_lt, zI_eq, zI_lel, zI_lle, zI_ltl, zI_llt, zI_eql, zI_leq, zI_ne1, zI_1ne]
  · have n1 : ¬ (61 : Int32) = 60 := by decide
    by_cases hx : v = tn k
    · simp (discharger := omega) only [F_X0_allows, J_X0_allows_47, e2, e3, hs, n1, hx, decide_eq_true_eq, bd, bo_some, bm_some, bts_inl, bts_inr, btm_inl, btm_inr, bp_lt, ck_ib, ck_b0, ck_b1, ifT, ifF, n10, n01, pv_v, if_pos, if_neg, zI_nat, zI_add, zI_mul, zI_addl, zI_laddl, zI_mull, zI_lmul, zI_subl, zI_pred, zI_le, zI_lt, zI_eq, zI_lel, zI_lle, zI_ltl, zI_llt, zI_eql, zI_leq, zI_ne1, zI_1ne]
    · simp (discharger := omega) only [F_X0_allows, J_X0_allows_47, e2, e3, hs, n1, hx, decide_eq_true_eq, bd, bo_some, bm_some, bts_inl, bts_inr, btm_inl, btm_inr, bp_lt, ck_ib, ck_b0, ck_b1, ifT, ifF, n10, n01, pv_v, if_pos, if_neg, zI_nat, zI_add, zI_mul, zI_addl, zI_laddl, zI_mull, zI_lmul, zI_subl, zI_pred, zI_le, zI_lt, zI_eq, zI_lel, zI_lle, zI_ltl, zI_llt, zI_eql, zI_leq, zI_ne1, zI_1ne]
  · have n1 : ¬ (62 : Int32) = 60 := by decide
    have n2 : ¬ (62 : Int32) = 61 := by decide
    by_cases hx : tn k < v
    · have hx2 : ¬ v ≤ tn k := fun h => absurd hx (Int32.not_lt.mpr h)
      simp (discharger := omega) only [F_X0_allows, J_X0_allows_79, e2, e3, hs, n1, n2, hx, hx2, decide_eq_true_eq, bd, bo_some, bm_some, bts_inl, bts_inr, btm_inl, btm_inr, bp_lt, ck_ib, ck_b0, ck_b1, ifT, ifF, n10, n01, pv_v, if_pos, if_neg, zI_nat, zI_add, zI_mul, zI_addl, zI_laddl, zI_mull, zI_lmul, zI_subl, zI_pred, zI_le, zI_lt, zI_eq, zI_lel, zI_lle, zI_ltl, zI_llt, zI_eql, zI_leq, zI_ne1, zI_1ne]
    · have hx2 : v ≤ tn k := Int32.not_lt.mp hx
      simp (discharger := omega) only [F_X0_allows, J_X0_allows_79, e2, e3, hs, n1, n2, hx, hx2, decide_eq_true_eq, bd, bo_some, bm_some, bts_inl, bts_inr, btm_inl, btm_inr, bp_lt, ck_ib, ck_b0, ck_b1, ifT, ifF, n10, n01, pv_v, if_pos, if_neg, zI_nat, zI_add, zI_mul, zI_addl, zI_laddl, zI_mull, zI_lmul, zI_subl, zI_pred, zI_le, zI_lt, zI_eq, zI_lel, zI_lle, zI_ltl, zI_llt, zI_eql, zI_leq, zI_ne1, zI_1ne]
theorem p_isAnswer (h : SR m.1 (m.2.1 6) w n) (hs : m.2.1 6 < 7) (hI : WI w n T) (hq : QP m.1 nt tl ts tn) (hk : TK nt tl ts tn) {t r : Nat} (ht : t < 3) (hr : r < n) : F_X3_isAnswer (m.2.1 6) t (zI r) m = some (if bA (okT w tl ts tn t r) nt = true then 1 else 0) := by
  obtain ⟨i1, i2, i3, i4, i5, i6, i7, i8, i9, -⟩ := id hI
  have h10 := hk.1
  unfold F_X3_isAnswer
  refine loop_ex (L := fun k (_ : Unit) i => L_X3_isAnswer_2 (m.2.1 6) t (zI r) m k i) (P := fun j _ => bA (okT w tl ts tn t r) j = true) (R := fun x => x = some (if bA (okT w tl ts tn t r) nt = true then 1 else 0)) (n := nt) ?_ ?_ nt 0 fu () (by omega) (by rw [fu_eq]; omega) rfl
  · intro k a j hj hp
    have e1 := (hq.2 j hj).1
    have e2 := p_columnOf h i5 ht (TK_ne hk hj)
    have hC := cO_isC w t (tl j)
    have e3 := p_valueC h hr hC
    have e4 := pv_no (vok_no (vl_ok i4 hr hC))
    by_cases hx : vl w r (cO w t (tl j)) = -100000
    · refine Or.inr ?_
      have e5 : bA (okT w tl ts tn t r) nt = false := bA_not hj (by unfold okT; rw [hx]; rfl)
      simp (discharger := omega) only [L_X3_isAnswer_2, J_X3_isAnswer_56, hq.1, e1, e2, e3, hx, e5, Bool.false_eq_true, bd, bo_some, bm_some, bts_inl, bts_inr, btm_inl, btm_inr, bp_lt, ck_ib, ck_b0, ck_b1, ifT, ifF, n10, n01, pv_v, if_pos, if_neg, zI_nat, zI_add, zI_mul, zI_addl, zI_laddl, zI_mull, zI_lmul, zI_subl, zI_pred, zI_le, zI_lt, zI_eq, zI_lel, zI_lle, zI_ltl, zI_llt, zI_eql, zI_leq, zI_ne1, zI_1ne]
    · have e6 : pv (vl w r (cO w t (tl j))) = vl w r (cO w t (tl j)) := by unfold pv; rw [if_neg hx]
      rw [e6] at e3 e4
      have e7 := p_allows hq hk hj (vl w r (cO w t (tl j)))
      by_cases ho : okV (ts j) (vl w r (cO w t (tl j))) (tn j) = true
      · refine Or.inl ⟨(), bA_step hp (by unfold okT; rw [ho, decide_eq_false hx]; rfl), ?_⟩
        simp (discharger := omega) only [L_X3_isAnswer_2, J_X3_isAnswer_56, hq.1, e1, e2, e3, e4, hx, e7, ho, bd, bo_some, bm_some, bts_inl, bts_inr, btm_inl, btm_inr, bp_lt, ck_ib, ck_b0, ck_b1, ifT, ifF, n10, n01, pv_v, if_pos, if_neg, zI_nat, zI_add, zI_mul, zI_addl, zI_laddl, zI_mull, zI_lmul, zI_subl, zI_pred, zI_le, zI_lt, zI_eq, zI_lel, zI_lle, zI_ltl, zI_llt, zI_eql, zI_leq, zI_ne1, zI_1ne]
      · refine Or.inr ?_
        have ho2 : okV (ts j) (vl w r (cO w t (tl j))) (tn j) = false := Bool.eq_false_iff.mpr ho
        have e5 : bA (okT w tl ts tn t r) nt = false := bA_not hj (by unfold okT; rw [ho2, Bool.and_false])
        simp (discharger := omega) only [L_X3_isAnswer_2, J_X3_isAnswer_56, hq.1, e1, e2, e3, e4, hx, e7, ho2, e5, Bool.false_eq_true, bd, bo_some, bm_some, bts_inl, bts_inr, btm_inl, btm_inr, bp_lt, ck_ib, ck_b0, ck_b1, ifT, ifF, n10, n01, pv_v, if_pos, if_neg, zI_nat, zI_add, zI_mul, zI_addl, zI_laddl, zI_mull, zI_lmul, zI_subl, zI_pred, zI_le, zI_lt, zI_eq, zI_lel, zI_lle, zI_ltl, zI_llt, zI_eql, zI_leq, zI_ne1, zI_1ne]
  · intro k a hp
    have e5 : bA (okT w tl ts tn t r) nt = true := hp
    simp (discharger := omega) only [L_X3_isAnswer_2, C_X3_isAnswer_64, hq.1, e5, Nat.le_refl, bd, bo_some, bm_some, bts_inl, bts_inr, btm_inl, btm_inr, bp_lt, ck_ib, ck_b0, ck_b1, ifT, ifF, n10, n01, pv_v, if_pos, if_neg, zI_nat, zI_add, zI_mul, zI_addl, zI_laddl, zI_mull, zI_lmul, zI_subl, zI_pred, zI_le, zI_lt, zI_eq, zI_lel, zI_lle, zI_ltl, zI_llt, zI_eql, zI_leq, zI_ne1, zI_1ne]
def nAn (w : Nat → Int32) (n nt : Nat) (tl ts tn : Nat → Int32) (t : Nat) : Int32 := sg (fun r => if an w nt tl ts tn t r = true then 1 else 0) n
end PG

