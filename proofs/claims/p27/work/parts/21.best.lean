/-! which index would be best -/
def EX (w w2 : Nat → Int32) : Prop := ∀ i, i < 1129 ∨ 1153 ≤ i → w2 i = w i
theorem vl_ex {w w2 : Nat → Int32} (h : EX w w2) {r : Nat} (hr : r < 120) {c : Int32} (hc : isC c) : vl w2 r c = vl w r c := by
  rcases hc with rfl | ⟨k, hk, rfl⟩
  · rfl
  · rw [vl_c w2 r hk, vl_c w r hk, h _ (by omega)]
theorem cO_ex {w w2 : Nat → Int32} (h : EX w w2) {t : Nat} (ht : t < 3) (l : Int32) : cO w2 t l = cO w t l := by
  unfold cO
  exact fo_congr (fun c b hc => by rw [h _ (by omega)])
theorem rwsOf_ex {w w2 : Nat → Int32} (h : EX w w2) {n : Nat} (hn : n ≤ 120) (t : Nat) : rwsOf w2 n t = rwsOf w n t := by
  unfold rwsOf
  exact sg_congr (fun r hr => by rw [h _ (by omega)])
theorem inTb_ex {w w2 : Nat → Int32} (h : EX w w2) {n : Nat} (hn : n ≤ 120) : inTb w2 n = inTb w n := by
  unfold inTb
  exact sg_congr (fun t ht => by rw [h _ (by omega), rwsOf_ex h hn])
theorem rwsWith_ex {w w2 : Nat → Int32} (h : EX w w2) {n : Nat} (hn : n ≤ 120) (t : Nat) {c : Int32} (hc : isC c) (v : Int32) : rwsWith w2 n t c v = rwsWith w n t c v := by
  unfold rwsWith
  exact sg_congr (fun r hr => by rw [h _ (by omega), vl_ex h (by omega) hc])
def lkX (w : Nat → Int32) (n nt : Nat) (tl ts tn : Nat → Int32) (t : Nat) (lm : Int32) : Int32 := lkT w n nt tl ts tn t (w (1159 + t)) lm
/-- a term whose column has no index yet -/
def cdB (w : Nat → Int32) (tl ts : Nat → Int32) (t : Nat) (k : Nat) : Bool := decide (ts k = 61) && (!decide (cO w t (tl k) = -1) && decide (w (1129 + 8 * t + Int32.toNatClampNeg (cO w t (tl k))) = 0))
def bsS (w : Nat → Int32) (n nt : Nat) (tl ts tn : Nat → Int32) (t : Nat) (k : Nat) (a : Int32 × Int32) : Int32 × Int32 := if cdB w tl ts t k = true then (if a.2 ≤ lkX w n nt tl ts tn t (tl k) then a else (tl k, lkX w n nt tl ts tn t (tl k))) else a
def bst (w : Nat → Int32) (n nt : Nat) (tl ts tn : Nat → Int32) (t : Nat) : Int32 := (fo (bsS w n nt tl ts tn t) nt (-1, lkX w n nt tl ts tn t (-1))).1
section PI
variable {m : Mem} {n T nt : Nat} {w tl ts tn : Nat → Int32}
theorem p_best (h : SR m.1 (m.2.1 6) w n) (hs : m.2.1 6 < 7) (hI : WI w n T) (hq : QP m.1 nt tl ts tn) (hk : TK nt tl ts tn) {t : Nat} (ht : t < 3) : F_X3_bestLetter (zI t) m = some (bst w n nt tl ts tn t) := by
  obtain ⟨h1, h2, h3, h4, h5, h6, h7, h8⟩ := id h
  obtain ⟨i1, i2, i3, i4, i5, i6, i7, i8, i9, -⟩ := id hI
  have h10 := hk.1
  have f5 := (h7 t ht).2.2.1
  simp (discharger := omega) only [F_X3_bestLetter, f5, p_looks h hs hI hq hk ht, bd, bo_some, bm_some, bts_inl, bts_inr, btm_inl, btm_inr, bp_lt, ck_ib, ck_b0, ck_b1, ifT, ifF, n10, n01, pv_v, if_pos, if_neg, zI_nat, zI_add, zI_mul, zI_addl, zI_laddl, zI_mull, zI_lmul, zI_subl, zI_pred, zI_le, zI_lt, zI_eq, zI_lel, zI_lle, zI_ltl, zI_llt, zI_eql, zI_leq, zI_ne1, zI_1ne]
  unfold bst lkX
  refine loop_fo0 (L := fun k (a : Int32 × Int32) i => L_X3_bestLetter_27 (zI t) m (m.2.1 6) t k a.1 a.2 i) (g := bsS w n nt tl ts tn t) (c := fun a => some a.1) ?_ ?_ fu (by rw [fu_eq]; omega) (-1, lkT w n nt tl ts tn t (w (1159 + t)) (-1))
  · intro k a j hj
    obtain ⟨e1, e2, e3⟩ := hq.2 j hj
    have e4 := p_columnOf h i5 ht (TK_ne hk hj)
    have e5 := p_looks h hs hI hq hk ht (w (1159 + t)) (tl j)
    by_cases hg : ts j = 61
    · rcases cO_cases w t (tl j) with ⟨-, hc⟩ | ⟨c, hc8, hc, -⟩
      · have e6 : cdB w tl ts t j = false := by unfold cdB; rw [hc, hg]; rfl
        simp (discharger := omega) only [L_X3_bestLetter_27, J_X3_bestLetter_117, hq.1, e1, e2, e4, hc, hg, bsS, e6, Bool.false_eq_true, bd, bo_some, bm_some, bts_inl, bts_inr, btm_inl, btm_inr, bp_lt, ck_ib, ck_b0, ck_b1, ifT, ifF, n10, n01, pv_v, if_pos, if_neg, zI_nat, zI_add, zI_mul, zI_addl, zI_laddl, zI_mull, zI_lmul, zI_subl, zI_pred, zI_le, zI_lt, zI_eq, zI_lel, zI_lle, zI_ltl, zI_llt, zI_eql, zI_leq, zI_ne1, zI_1ne]
      · have e7 := (h6 t ht c hc8).2.1
        have hd : decide (zI c = -1) = false := decide_eq_false (by rw [zI_ne1 (by omega)]; exact not_false)
        rcases i9 t ht c hc8 with hx | hx
        · have e6 : cdB w tl ts t j = true := by unfold cdB; rw [hc, hg, hd, zI_nat (by omega), hx]; rfl
          unfold bsS
          rw [if_pos e6]
          unfold lkX
          by_cases hle : a.2 ≤ lkT w n nt tl ts tn t (w (1159 + t)) (tl j)
          · simp (discharger := omega) only [L_X3_bestLetter_27, J_X3_bestLetter_117, hq.1, e1, e2, e4, hc, hg, e7, hx, f5, e5, hle, bd, bo_some, bm_some, bts_inl, bts_inr, btm_inl, btm_inr, bp_lt, ck_ib, ck_b0, ck_b1, ifT, ifF, n10, n01, pv_v, if_pos, if_neg, zI_nat, zI_add, zI_mul, zI_addl, zI_laddl, zI_mull, zI_lmul, zI_subl, zI_pred, zI_le, zI_lt, zI_eq, zI_lel, zI_lle, zI_ltl, zI_llt, zI_eql, zI_leq, zI_ne1, zI_1ne]
          · simp (discharger := omega) only [L_X3_bestLetter_27, J_X3_bestLetter_117, hq.1, e1, e2, e4, hc, hg, e7, hx, f5, e5, hle, bd, bo_some, bm_some, bts_inl, bts_inr, btm_inl, btm_inr, bp_lt, ck_ib, ck_b0, ck_b1, ifT, ifF, n10, n01, pv_v, if_pos, if_neg, zI_nat, zI_add, zI_mul, zI_addl, zI_laddl, zI_mull, zI_lmul, zI_subl, zI_pred, zI_le, zI_lt, zI_eq, zI_lel, zI_lle, zI_ltl, zI_llt, zI_eql, zI_leq, zI_ne1, zI_1ne]
        · have e6 : cdB w tl ts t j = false := by unfold cdB; rw [hc, hg, hd, zI_nat (by omega), hx]; rfl
          simp (discharger := omega) only [L_X3_bestLetter_27, J_X3_bestLetter_117, hq.1, e1, e2, e4, hc, hg, e7, hx, bsS, e6, Bool.false_eq_true, bd, bo_some, bm_some, bts_inl, bts_inr, btm_inl, btm_inr, bp_lt, ck_ib, ck_b0, ck_b1, ifT, ifF, n10, n01, pv_v, if_pos, if_neg, zI_nat, zI_add, zI_mul, zI_addl, zI_laddl, zI_mull, zI_lmul, zI_subl, zI_pred, zI_le, zI_lt, zI_eq, zI_lel, zI_lle, zI_ltl, zI_llt, zI_eql, zI_leq, zI_ne1, zI_1ne]
    · have e6 : cdB w tl ts t j = false := by unfold cdB; rw [decide_eq_false hg]; rfl
      simp (discharger := omega) only [L_X3_bestLetter_27, J_X3_bestLetter_117, hq.1, e1, e2, e4, hg, bsS, e6, Bool.false_eq_true, bd, bo_some, bm_some, bts_inl, bts_inr, btm_inl, btm_inr, bp_lt, ck_ib, ck_b0, ck_b1, ifT, ifF, n10, n01, pv_v, if_pos, if_neg, zI_nat, zI_add, zI_mul, zI_addl, zI_laddl, zI_mull, zI_lmul, zI_subl, zI_pred, zI_le, zI_lt, zI_eq, zI_lel, zI_lle, zI_ltl, zI_llt, zI_eql, zI_leq, zI_ne1, zI_1ne]
  · intro k a
    simp (discharger := omega) only [L_X3_bestLetter_27, C_X3_bestLetter_123, hq.1, Nat.le_refl, bd, bo_some, bm_some, bts_inl, bts_inr, btm_inl, btm_inr, bp_lt, ck_ib, ck_b0, ck_b1, ifT, ifF, n10, n01, pv_v, if_pos, if_neg, zI_nat, zI_add, zI_mul, zI_addl, zI_laddl, zI_mull, zI_lmul, zI_subl, zI_pred, zI_le, zI_lt, zI_eq, zI_lel, zI_lle, zI_ltl, zI_llt, zI_eql, zI_leq, zI_ne1, zI_1ne]
theorem lk_ex (hn : n ≤ 120) (hi : IX w) (hu : UL w) {w2 : Nat → Int32} (hk : TK nt tl ts tn) {t c j : Nat} (ht : t < 3) (hj : j < nt) (hc8 : c < 8) (hc : cO w t (tl j) = zI c) (hw2 : w2 = upd w (1129 + 8 * t + c) 1) (h0 : w (1159 + t) = 0) : lkP w2 n nt tl ts tn t (-1) = lkP w n nt tl ts tn t (tl j) := by
  have hE : EX w w2 := by
    intro i hi2
    rw [hw2]
    unfold upd
    rw [if_neg (by omega)]
  unfold lkP
  rw [inTb_ex hE hn]
  refine fo_congr (fun k b hkn => ?_)
  have e1 : cdP w2 tl ts t (-1) k = cdP w tl ts t (tl j) k := by
    unfold cdP
    rw [cO_ex hE ht]
    rcases cO_cases w t (tl k) with ⟨-, hck⟩ | ⟨ck2, hck8, hck, hckv⟩
    · rw [hck]; rfl
    · rw [hck, zI_nat (by omega), decide_eq_false (TK_ne hk hkn), Bool.or_false]
      by_cases he : ck2 = c
      · have e2 : tl k = tl j := by
          rcases cO_cases w t (tl j) with ⟨-, hcj⟩ | ⟨c3, hc38, hcj, hcjv⟩
          · rw [hc, zI_ne1 (by omega)] at hcj
            exact hcj.elim
          · rw [hc] at hcj
            have := zI_inj (by omega) (by omega) hcj
            rw [← hckv, ← hcjv, he, this]
        have e3 : w2 (1129 + 8 * t + ck2) = 1 := by rw [hw2, he]; exact if_pos rfl
        rw [e3, e2, decide_eq_true rfl, decide_eq_true rfl, Bool.or_true]
      · have e2 : tl k ≠ tl j := by
          intro e
          rw [e, hc] at hck
          exact he (zI_inj (by omega) (by omega) hck).symm
        have e3 : w2 (1129 + 8 * t + ck2) = w (1129 + 8 * t + ck2) := by rw [hw2]; exact if_neg (by omega)
        rw [e3, decide_eq_false e2, Bool.or_false]
  unfold lkS itK
  rw [e1, cO_ex hE ht, rwsWith_ex hE hn t (cO_isC w t (tl k))]
end PI

