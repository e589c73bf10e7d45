/-! how many rows are looked at -/
def cn (p : Nat → Bool) : Nat → Nat
  | 0 => 0
  | n + 1 => cn p n + (if p n = true then 1 else 0)
theorem cn_le (p : Nat → Bool) (n : Nat) : cn p n ≤ n := by
  induction n with
  | zero => exact Nat.le_refl 0
  | succ n ih =>
    show cn p n + (if p n = true then 1 else 0) ≤ n + 1
    by_cases h : p n = true
    · rw [if_pos h]; omega
    · rw [if_neg h]; omega
theorem cn_mono {p q : Nat → Bool} {n : Nat} (h : ∀ r, r < n → p r = true → q r = true) : cn p n ≤ cn q n := by
  induction n with
  | zero => exact Nat.le_refl 0
  | succ n ih =>
    have h1 := ih (fun r hr => h r (by omega))
    show cn p n + (if p n = true then 1 else 0) ≤ cn q n + (if q n = true then 1 else 0)
    by_cases hp : p n = true
    · rw [if_pos hp, if_pos (h n (by omega) hp)]; omega
    · rw [if_neg hp]; omega
theorem sg_cn {f : Nat → Int32} {p : Nat → Bool} {n : Nat} (h : ∀ r, r < n → f r = if p r = true then 1 else 0) : sg f n = zI (cn p n) := by
  induction n with
  | zero => rfl
  | succ n ih =>
    show sg f n + f n = zI (cn p n + (if p n = true then 1 else 0))
    rw [ih (fun r hr => h r (by omega)), h n (by omega)]
    by_cases hp : p n = true
    · rw [if_pos hp, if_pos hp]; exact zI_addl _ 1
    · rw [if_neg hp, if_neg hp]; exact Int32.add_zero _
theorem rwsWith_cn (w : Nat → Int32) (n t : Nat) (c v : Int32) : rwsWith w n t c v = zI (cn (fun r => decide (w (9 * r) = zI t) && decide (vl w r c = v)) n) := by
  refine sg_cn (fun r hr => ?_)
  by_cases h1 : w (9 * r) = zI t
  · by_cases h2 : vl w r c = v
    · rw [if_pos h1, if_pos h2, decide_eq_true h1, decide_eq_true h2]; rfl
    · rw [if_pos h1, if_neg h2, decide_eq_false h2, Bool.and_false]; rfl
  · rw [if_neg h1, decide_eq_false h1]; rfl
theorem inTb_cn {w : Nat → Int32} {n : Nat} (ho : OW w n) (hm : MV w) : inTb w n = zI (cn (fun r => decide (mvd w r = 0)) n) := by
  rw [inTb_sg ho hm]
  refine sg_cn (fun r hr => ?_)
  by_cases h1 : mvd w r = 0
  · rw [if_pos h1, decide_eq_true h1]; rfl
  · rw [if_neg h1, decide_eq_false h1]; rfl
theorem rw_le {w : Nat → Int32} {n t : Nat} (ht : t < 3) (h0 : w (1159 + t) = 0) (c v : Int32) : cn (fun r => decide (w (9 * r) = zI t) && decide (vl w r c = v)) n ≤ cn (fun r => decide (mvd w r = 0)) n := by
  refine cn_mono (fun r hr hp => ?_)
  rw [Bool.and_eq_true, decide_eq_true_eq] at hp
  show decide (mvd w r = 0) = true
  rw [decide_eq_true_eq, mvd_of ht hp.1, h0]
/-- the terms that an index serves: a letter more than has one -/
def cdP (w : Nat → Int32) (tl ts : Nat → Int32) (t : Nat) (lm : Int32) (k : Nat) : Bool := decide (ts k = 61) && (!decide (cO w t (tl k) = -1) && (decide (w (1129 + 8 * t + Int32.toNatClampNeg (cO w t (tl k))) = 1) || decide (tl k = lm)))
def itK (w : Nat → Int32) (n : Nat) (tl tn : Nat → Int32) (t k : Nat) : Int32 := rwsWith w n t (cO w t (tl k)) (tn k)
def lkS (w : Nat → Int32) (n : Nat) (tl ts tn : Nat → Int32) (t : Nat) (lm : Int32) (k : Nat) (a : Int32) : Int32 := if cdP w tl ts t lm k = true then (if itK w n tl tn t k < a then itK w n tl tn t k else a) else a
theorem lkS_t {w : Nat → Int32} {n : Nat} {tl ts tn : Nat → Int32} {t : Nat} {lm : Int32} {k : Nat} {a : Int32} (h : cdP w tl ts t lm k = true) : lkS w n tl ts tn t lm k a = if itK w n tl tn t k < a then itK w n tl tn t k else a := if_pos h
theorem lkS_f {w : Nat → Int32} {n : Nat} {tl ts tn : Nat → Int32} {t : Nat} {lm : Int32} {k : Nat} {a : Int32} (h : cdP w tl ts t lm k = false) : lkS w n tl ts tn t lm k a = a := if_neg (by rw [h]; exact Bool.false_ne_true)
def lkP (w : Nat → Int32) (n nt : Nat) (tl ts tn : Nat → Int32) (t : Nat) (lm : Int32) : Int32 := fo (lkS w n tl ts tn t lm) nt (inTb w n)
def lkT (w : Nat → Int32) (n nt : Nat) (tl ts tn : Nat → Int32) (t : Nat) (b lm : Int32) : Int32 := if b = 0 then lkP w n nt tl ts tn t lm else rwsOf w n t
section PH
variable {m : Mem} {n T nt : Nat} {w tl ts tn : Nat → Int32}
theorem tn_ok (hk : TK nt tl ts tn) {k : Nat} (h : k < nt) : vok (tn k) ∧ pv (tn k) = tn k := by
  have h1 := (hk.2 k h).2.2
  refine ⟨Or.inr h1, ?_⟩
  unfold pv
  rw [if_neg]
  intro e
  rw [e] at h1
  exact absurd h1.1 (by decide)
theorem p_looks (h : SR m.1 (m.2.1 6) w n) (hs : m.2.1 6 < 7) (hI : WI w n T) (hq : QP m.1 nt tl ts tn) (hk : TK nt tl ts tn) {t : Nat} (ht : t < 3) (b lm : Int32) : F_X3_rowsToLookAt (zI t) b lm m = some (lkT w n nt tl ts tn t b lm) := by
  obtain ⟨h1, h2, h3, h4, h5, h6, h7, h8⟩ := id h
  obtain ⟨i1, i2, i3, i4, i5, i6, i7, i8, i9, -⟩ := id hI
  have h10 := hk.1
  unfold lkT
  by_cases hb : b = 0
  · rw [if_pos hb]
    subst hb
    simp (discharger := omega) only [F_X3_rowsToLookAt, p_tableRows h i7, bd, bo_some, bm_some, bts_inl, bts_inr, btm_inl, btm_inr, bp_lt, ck_ib, ck_b0, ck_b1, ifT, ifF, n10, n01, pv_v, if_pos, if_neg, zI_nat, zI_add, zI_mul, zI_addl, zI_laddl, zI_mull, zI_lmul, zI_subl, zI_pred, zI_le, zI_lt, zI_eq, zI_lel, zI_lle, zI_ltl, zI_llt, zI_eql, zI_leq, zI_ne1, zI_1ne]
    unfold lkP
    refine loop_fo0 (g := lkS w n tl ts tn t lm) (c := some) ?_ ?_ fu (by rw [fu_eq]; omega) (inTb w n)
    · intro k a j hj
      obtain ⟨e1, e2, e3⟩ := hq.2 j hj
      have e4 := p_columnOf h i5 ht (TK_ne hk hj)
      have e5 := p_rowsWith h i4 ht (cO_isC w t (tl j)) (tn_ok hk hj).1
      rw [(tn_ok hk hj).2] at e5
      unfold lkS
      by_cases hg : ts j = 61
      · rcases cO_cases w t (tl j) with ⟨-, hc⟩ | ⟨c, hc8, hc, -⟩
        · have e6 : cdP w tl ts t lm j = false := by unfold cdP; rw [hc, hg]; rfl
          simp (discharger := omega) only [L_X3_rowsToLookAt_36, J_X3_rowsToLookAt_134, hq.1, e1, e2, e4, hc, hg, e6, Bool.false_eq_true, bd, bo_some, bm_some, bts_inl, bts_inr, btm_inl, btm_inr, bp_lt, ck_ib, ck_b0, ck_b1, ifT, ifF, n10, n01, pv_v, if_pos, if_neg, zI_nat, zI_add, zI_mul, zI_addl, zI_laddl, zI_mull, zI_lmul, zI_subl, zI_pred, zI_le, zI_lt, zI_eq, zI_lel, zI_lle, zI_ltl, zI_llt, zI_eql, zI_leq, zI_ne1, zI_1ne]
        · have e7 := (h6 t ht c hc8).2.1
          have e8 : ∀ x : Int32, cO w t (tl j) = x → cdP w tl ts t lm j = (decide (w (1129 + 8 * t + c) = 1) || decide (tl j = lm)) := by
            intro x _
            unfold cdP
            rw [hc, hg, zI_nat (by omega), decide_eq_false (show ¬ zI c = -1 by rw [zI_ne1 (by omega)]; exact not_false)]
            rfl
          have e8 := e8 _ rfl
          unfold itK
          rw [hc] at e5 ⊢
          rcases i9 t ht c hc8 with hx | hx
          · by_cases hl : tl j = lm
            · rw [hx, decide_eq_true hl, Bool.or_true] at e8
              subst hl
              simp (discharger := omega) only [L_X3_rowsToLookAt_36, J_X3_rowsToLookAt_134, J_X3_rowsToLookAt_107, hq.1, e1, e2, e3, e4, hc, hg, e7, hx, e5, e8, bd, bo_some, bm_some, bts_inl, bts_inr, btm_inl, btm_inr, bp_lt, ck_ib, ck_b0, ck_b1, ifT, ifF, n10, n01, pv_v, if_pos, if_neg, zI_nat, zI_add, zI_mul, zI_addl, zI_laddl, zI_mull, zI_lmul, zI_subl, zI_pred, zI_le, zI_lt, zI_eq, zI_lel, zI_lle, zI_ltl, zI_llt, zI_eql, zI_leq, zI_ne1, zI_1ne]
            · rw [hx, decide_eq_false hl] at e8
              have e8 : cdP w tl ts t lm j = false := e8
              simp (discharger := omega) only [L_X3_rowsToLookAt_36, J_X3_rowsToLookAt_134, J_X3_rowsToLookAt_107, hq.1, e1, e2, e3, e4, hc, hg, e7, hx, hl, e5, e8, Bool.false_eq_true, bd, bo_some, bm_some, bts_inl, bts_inr, btm_inl, btm_inr, bp_lt, ck_ib, ck_b0, ck_b1, ifT, ifF, n10, n01, pv_v, if_pos, if_neg, zI_nat, zI_add, zI_mul, zI_addl, zI_laddl, zI_mull, zI_lmul, zI_subl, zI_pred, zI_le, zI_lt, zI_eq, zI_lel, zI_lle, zI_ltl, zI_llt, zI_eql, zI_leq, zI_ne1, zI_1ne]
          · rw [hx, decide_eq_true rfl, Bool.true_or] at e8
            simp (discharger := omega) only [L_X3_rowsToLookAt_36, J_X3_rowsToLookAt_134, J_X3_rowsToLookAt_107, hq.1, e1, e2, e3, e4, hc, hg, e7, hx, e5, e8, bd, bo_some, bm_some, bts_inl, bts_inr, btm_inl, btm_inr, bp_lt, ck_ib, ck_b0, ck_b1, ifT, ifF, n10, n01, pv_v, if_pos, if_neg, zI_nat, zI_add, zI_mul, zI_addl, zI_laddl, zI_mull, zI_lmul, zI_subl, zI_pred, zI_le, zI_lt, zI_eq, zI_lel, zI_lle, zI_ltl, zI_llt, zI_eql, zI_leq, zI_ne1, zI_1ne]
      · have e6 : cdP w tl ts t lm j = false := by unfold cdP; rw [decide_eq_false hg]; rfl
        simp (discharger := omega) only [L_X3_rowsToLookAt_36, J_X3_rowsToLookAt_134, hq.1, e1, e2, e4, hg, e6, Bool.false_eq_true, bd, bo_some, bm_some, bts_inl, bts_inr, btm_inl, btm_inr, bp_lt, ck_ib, ck_b0, ck_b1, ifT, ifF, n10, n01, pv_v, if_pos, if_neg, zI_nat, zI_add, zI_mul, zI_addl, zI_laddl, zI_mull, zI_lmul, zI_subl, zI_pred, zI_le, zI_lt, zI_eq, zI_lel, zI_lle, zI_ltl, zI_llt, zI_eql, zI_leq, zI_ne1, zI_1ne]
    · intro k a
      simp (discharger := omega) only [L_X3_rowsToLookAt_36, C_X3_rowsToLookAt_140, hq.1, Nat.le_refl, bd, bo_some, bm_some, bts_inl, bts_inr, btm_inl, btm_inr, bp_lt, ck_ib, ck_b0, ck_b1, ifT, ifF, n10, n01, pv_v, if_pos, if_neg, zI_nat, zI_add, zI_mul, zI_addl, zI_laddl, zI_mull, zI_lmul, zI_subl, zI_pred, zI_le, zI_lt, zI_eq, zI_lel, zI_lle, zI_ltl, zI_llt, zI_eql, zI_leq, zI_ne1, zI_1ne]
  · rw [if_neg hb]
    simp (discharger := omega) only [F_X3_rowsToLookAt, hb, p_rowsOf2 h ht, bd, bo_some, bm_some, bts_inl, bts_inr, btm_inl, btm_inr, bp_lt, ck_ib, ck_b0, ck_b1, ifT, ifF, n10, n01, pv_v, if_pos, if_neg, zI_nat, zI_add, zI_mul, zI_addl, zI_laddl, zI_mull, zI_lmul, zI_subl, zI_pred, zI_le, zI_lt, zI_eq, zI_lel, zI_lle, zI_ltl, zI_llt, zI_eql, zI_leq, zI_ne1, zI_1ne]
end PH

