/-! values leave a column; forget -/
def shR (w : Nat → Int32) (t fk tk : Nat) (i : Nat) : Int32 := if w (9 * (i / 9)) = zI t then (if i % 9 = fk then -100000 else if i % 9 = tk then w (9 * (i / 9) + fk) else w i) else w i
def shW (w : Nat → Int32) (n t fk tk : Nat) : Nat → Int32 := fun i => if i < 9 * n then shR w t fk tk i else w i
theorem shR_row (w : Nat → Int32) (t fk tk : Nat) {r k : Nat} (hk : k < 9) : shR w t fk tk (9 * r + k) = if w (9 * r) = zI t then (if k = fk then -100000 else if k = tk then w (9 * r + fk) else w (9 * r + k)) else w (9 * r + k) := by
  unfold shR
  rw [show (9 * r + k) / 9 = r by omega, show (9 * r + k) % 9 = k by omega]
theorem shW_row (w : Nat → Int32) (n t fk tk : Nat) {r k : Nat} (hr : r < n) (hk : k < 9) : shW w n t fk tk (9 * r + k) = if w (9 * r) = zI t then (if k = fk then -100000 else if k = tk then w (9 * r + fk) else w (9 * r + k)) else w (9 * r + k) := by
  unfold shW
  rw [if_pos (by omega), shR_row w t fk tk hk]
section QW
variable {m m1 m2 mi x : Mem} {n n0 k L T s q t r p c fk tk : Nat} {w w1 w2 v tx : Nat → Int32} {pa : Nat → Nat → Int32} {nn TT : Nat → Nat} {to : Int32}
theorem shW_own (hf : 1 ≤ fk) (htk : 1 ≤ tk) (hr : r < n) : shW w n t fk tk (9 * r) = w (9 * r) := by
  have h := shW_row w n t fk tk hr (k := 0) (by omega)
  rw [Nat.add_zero] at h
  rw [h]
  by_cases e : w (9 * r) = zI t
  · rw [if_pos e, if_neg (by omega), if_neg (by omega)]
  · rw [if_neg e]
theorem shW_hi {i : Nat} (hi : 9 * n ≤ i) : shW w n t fk tk i = w i := if_neg (by omega)
theorem sr_vals (h : SR m.1 s w n) (he : ∀ lb : Lb, lb ≠ (1, s, 0, 3) → m2.1 lb = m.1 lb) (h0 : ∀ r, r < n → w2 (9 * r) = w (9 * r)) (hh : ∀ i, 1080 ≤ i → i < 1174 → w2 i = w i) (hv : ∀ r, r < n → ∀ c, c < 8 → m2.1 (1, s, 0, 3) (r * 8 + c) = pv (w2 (9 * r + 1 + c))) : SR m2.1 s w2 n := by
  obtain ⟨a1, a2, a3, a4, a5, a6, a7, a8⟩ := h
  have e2 : ∀ a b, m2.1 (2, s, a, b) = m.1 (2, s, a, b) := fun a b => he _ (fun e => by injection e with e _; exact absurd e (by decide))
  refine ⟨a1, by rw [hh _ (by omega) (by omega)]; exact a2, by rw [he _ (lb1_ne (by decide))]; exact a3, fun r hr => by rw [he _ (lb1_ne (by decide)), h0 r hr]; exact a4 r hr, hv, fun t ht c hc => ?_, fun t ht => ?_, fun r hr => by rw [h0 r hr]; exact a8 r hr⟩
  · rw [e2, e2, e2, hh _ (by omega) (by omega), hh _ (by omega) (by omega), hh _ (by omega) (by omega)]
    exact a6 t ht c hc
  · rw [e2, hh _ (by omega) (by omega), hh _ (by omega) (by omega), hh _ (by omega) (by omega), hh _ (by omega) (by omega), hh _ (by omega) (by omega), hh _ (by omega) (by omega), hh _ (by omega) (by omega)]
    exact a7 t ht
theorem p_shift (h : SR m.1 s w n) (ht : t < 3) (hc : c < 8) (hto : (to = -1 ∧ tk = 99) ∨ ∃ c2, c2 < 8 ∧ c2 ≠ c ∧ to = zI c2 ∧ tk = c2 + 1) : ∃ m2, F_X1_shiftValues s (zI t) (zI c) to m = some ((), m2) ∧ FrT s m m2 ∧ SR m2.1 s (shW w n t (c + 1) tk) n := by
  obtain ⟨a1, a2, a3, a4, a5, a6, a7, a8⟩ := id h
  have tk1 : 1 ≤ tk := by
    rcases hto with ⟨-, e⟩ | ⟨c2, -, -, -, e⟩ <;> omega
  unfold F_X1_shiftValues
  refine loop_ex (L := fun k (y : Mem) i => L_X1_shiftValues_3 s (zI t) (zI c) to k i y) (P := fun j y => y.2 = m.2 ∧ (∀ lb : Lb, lb ≠ (1, s, 0, 3) → y.1 lb = m.1 lb) ∧ (∀ r, r < j → ∀ d, d < 8 → y.1 (1, s, 0, 3) (r * 8 + d) = pv (shW w n t (c + 1) tk (9 * r + 1 + d))) ∧ ∀ r, j ≤ r → r < n → ∀ d, d < 8 → y.1 (1, s, 0, 3) (r * 8 + d) = pv (w (9 * r + 1 + d))) (R := fun o => ∃ m2, o = some ((), m2) ∧ FrT s m m2 ∧ SR m2.1 s (shW w n t (c + 1) tk) n) (n := n) ?_ ?_ n 0 fu m (by omega) (by rw [fu_eq]; omega) ⟨rfl, fun _ _ => rfl, fun r hr => absurd hr (Nat.not_lt_zero r), fun r _ hr => a5 r hr⟩
  · intro k y r hr hp
    obtain ⟨p1, p2, p3, p4⟩ := hp
    refine Or.inl ?_
    have y3 : y.1 (1, s, 0, 0) 3 = zI n := by rw [p2 _ (lb1_ne (by decide))]; exact a3
    have y2 : y.1 (1, s, 0, 2) r = w (9 * r) := by rw [p2 _ (lb1_ne (by decide))]; exact a4 r hr
    have yv := p4 r (Nat.le_refl r) hr c hc
    have spec : ∀ d, d < 8 → shW w n t (c + 1) tk (9 * r + 1 + d) = if w (9 * r) = zI t then (if d = c then -100000 else if d + 1 = tk then w (9 * r + 1 + c) else w (9 * r + 1 + d)) else w (9 * r + 1 + d) := fun d hd => by
      rw [show 9 * r + 1 + d = 9 * r + (1 + d) by omega, shW_row _ _ _ _ _ hr (by omega)]
      by_cases h1 : w (9 * r) = zI t
      · rw [if_pos h1, if_pos h1]
        by_cases h2 : d = c
        · rw [if_pos (by omega), if_pos h2]
        · rw [if_neg (by omega), if_neg h2]
          by_cases h3 : d + 1 = tk
          · rw [if_pos (by omega), if_pos h3, show 9 * r + (c + 1) = 9 * r + 1 + c by omega]
          · rw [if_neg (by omega), if_neg h3]
      · rw [if_neg h1, if_neg h1]
    by_cases hw : w (9 * r) = zI t
    · have ev : F_X1_valueAt s (zI r) (zI c) y = some (pv (w (9 * r + 1 + c))) := by
        simp (discharger := omega) only [F_X1_valueAt, y3, yv, bd_e, bo_e, bm_e, bts_l, bts_r, btm_l, btm_r, bp_lt, ck_ib, ck_z, ck_o, ifT, ifF, n10, n01, pv_v, if_pos, if_neg, zI_nat, zI_add, zI_mul, zI_addl, zI_laddl, zI_mull, zI_lmul, zI_subl, zI_pred, zI_le, zI_lt, zI_eq, zI_lel, zI_lle, zI_ltl, zI_llt, zI_eql, zI_leq, zI_ne1, zI_1ne]
      -- the state behind the first writing
      have w1 : ∃ y1, F_X1_setValue s (zI r) to (pv (w (9 * r + 1 + c))) y = some ((), y1) ∧ y1.2 = y.2 ∧ (∀ lb : Lb, lb ≠ (1, s, 0, 3) → y1.1 lb = y.1 lb) ∧ ∀ i, y1.1 (1, s, 0, 3) i = if ∃ d, d < 8 ∧ d + 1 = tk ∧ i = r * 8 + d then pv (w (9 * r + 1 + c)) else y.1 (1, s, 0, 3) i := by
        rcases hto with ⟨e1, e2⟩ | ⟨c2, h1, h2, e1, e2⟩
        · subst e1
          refine ⟨y, ?_, rfl, fun _ _ => rfl, fun i => ?_⟩
          · have hm : (-1 : Int32) < 0 := by decide
            simp (discharger := omega) only [F_X1_setValue, J_X1_setValue_34, y3, hm, bd_e, bo_e, bm_e, bts_l, bts_r, btm_l, btm_r, bp_lt, ck_ib, ck_z, ck_o, ifT, ifF, n10, n01, pv_v, if_pos, if_neg, zI_nat, zI_add, zI_mul, zI_addl, zI_laddl, zI_mull, zI_lmul, zI_subl, zI_pred, zI_le, zI_lt, zI_eq, zI_lel, zI_lle, zI_ltl, zI_llt, zI_eql, zI_leq, zI_ne1, zI_1ne]
          · rw [if_neg (by rintro ⟨d, h1, h2, -⟩; omega)]
        · subst e1
          refine ⟨wI y (1, s, 0, 3) (r * 8 + c2) (pv (w (9 * r + 1 + c))), ?_, rfl, fun lb hl => wI_ne hl _ _ _, fun i => ?_⟩
          · simp (discharger := omega) only [F_X1_setValue, J_X1_setValue_34, y3, bd_e, bo_e, bm_e, bts_l, bts_r, btm_l, btm_r, bp_lt, ck_ib, ck_z, ck_o, ifT, ifF, n10, n01, pv_v, if_pos, if_neg, zI_nat, zI_add, zI_mul, zI_addl, zI_laddl, zI_mull, zI_lmul, zI_subl, zI_pred, zI_le, zI_lt, zI_eq, zI_lel, zI_lle, zI_ltl, zI_llt, zI_eql, zI_leq, zI_ne1, zI_1ne]
          · rw [wI_eq]
            by_cases e : i = r * 8 + c2
            · rw [e, upd_eq, if_pos ⟨c2, h1, by omega, rfl⟩]
            · rw [upd_ne _ e, if_neg (by rintro ⟨d, h3, h4, h5⟩; omega)]
      obtain ⟨y1, z1, z2, z3, z4⟩ := w1
      have n1 : y1.1 (1, s, 0, 0) 3 = zI n := by rw [z3 _ (lb1_ne (by decide))]; exact y3
      have s2 : F_X1_setValue s (zI r) (zI c) (-1000000) y1 = some ((), wI y1 (1, s, 0, 3) (r * 8 + c) (-1000000)) := by
        simp (discharger := omega) only [F_X1_setValue, J_X1_setValue_34, n1, bd_e, bo_e, bm_e, bts_l, bts_r, btm_l, btm_r, bp_lt, ck_ib, ck_z, ck_o, ifT, ifF, n10, n01, pv_v, if_pos, if_neg, zI_nat, zI_add, zI_mul, zI_addl, zI_laddl, zI_mull, zI_lmul, zI_subl, zI_pred, zI_le, zI_lt, zI_eq, zI_lel, zI_lle, zI_ltl, zI_llt, zI_eql, zI_leq, zI_ne1, zI_1ne]
      refine ⟨wI y1 (1, s, 0, 3) (r * 8 + c) (-1000000), ⟨z2.trans p1, fun lb hl => by rw [wI_ne hl, z3 lb hl]; exact p2 lb hl, fun q hq d hd => ?_, fun q h1 h2 d hd => ?_⟩, ?_⟩
      · rw [wI_eq]
        by_cases e : q = r
        · subst e
          rw [spec d hd, if_pos hw]
          by_cases e1 : d = c
          · rw [e1, upd_eq, if_pos rfl]; rfl
          · rw [upd_ne _ (by omega), if_neg e1, z4]
            by_cases e2 : d + 1 = tk
            · rw [if_pos ⟨d, hd, e2, rfl⟩, if_pos e2]
            · rw [if_neg (by rintro ⟨d2, h3, h4, h5⟩; omega), if_neg e2]
              exact p4 q (Nat.le_refl q) hr d hd
        · rw [upd_ne _ (by omega), z4, if_neg (by rintro ⟨d2, h3, h4, h5⟩; omega)]
          exact p3 q (by omega) d hd
      · rw [wI_eq, upd_ne _ (by omega), z4, if_neg (by rintro ⟨d2, h3, h4, h5⟩; omega)]
        exact p4 q (by omega) h2 d hd
      · simp (discharger := omega) only [L_X1_shiftValues_3, y3, y2, hw, ev, z1, s2, J_X1_shiftValues_46, bd_e, bo_e, bm_e, bts_l, bts_r, btm_l, btm_r, bp_lt, ck_ib, ck_z, ck_o, ifT, ifF, n10, n01, pv_v, if_pos, if_neg, zI_nat, zI_add, zI_mul, zI_addl, zI_laddl, zI_mull, zI_lmul, zI_subl, zI_pred, zI_le, zI_lt, zI_eq, zI_lel, zI_lle, zI_ltl, zI_llt, zI_eql, zI_leq, zI_ne1, zI_1ne]
    · refine ⟨y, ⟨p1, p2, fun q hq d hd => ?_, fun q h1 h2 => p4 q (by omega) h2⟩, ?_⟩
      · by_cases e : q = r
        · subst e
          rw [spec d hd, if_neg hw]
          exact p4 q (Nat.le_refl q) hr d hd
        · exact p3 q (by omega) d hd
      · simp (discharger := omega) only [L_X1_shiftValues_3, y3, y2, hw, J_X1_shiftValues_46, bd_e, bo_e, bm_e, bts_l, bts_r, btm_l, btm_r, bp_lt, ck_ib, ck_z, ck_o, ifT, ifF, n10, n01, pv_v, if_pos, if_neg, zI_nat, zI_add, zI_mul, zI_addl, zI_laddl, zI_mull, zI_lmul, zI_subl, zI_pred, zI_le, zI_lt, zI_eq, zI_lel, zI_lle, zI_ltl, zI_llt, zI_eql, zI_leq, zI_ne1, zI_1ne]
  · intro k y hp
    obtain ⟨p1, p2, p3, p4⟩ := hp
    have y3 : y.1 (1, s, 0, 0) 3 = zI n := by rw [p2 _ (lb1_ne (by decide))]; exact a3
    refine ⟨y, ?_, ⟨fun lb hl => p2 lb (fun e => hl (by rw [e]; exact wr1 _ _ _)), p1⟩, sr_vals h p2 (fun r hr => shW_own (by omega) tk1 hr) (fun i h1 _ => shW_hi (by omega)) p3⟩
    simp (discharger := omega) only [L_X1_shiftValues_3, C_X1_shiftValues_52, y3, Nat.le_refl, bd_e, bo_e, bm_e, bts_l, bts_r, btm_l, btm_r, bp_lt, ck_ib, ck_z, ck_o, ifT, ifF, n10, n01, pv_v, if_pos, if_neg, zI_nat, zI_add, zI_mul, zI_addl, zI_laddl, zI_mull, zI_lmul, zI_subl, zI_pred, zI_le, zI_lt, zI_eq, zI_lel, zI_lle, zI_ltl, zI_llt, zI_eql, zI_leq, zI_ne1, zI_1ne]
theorem wi_shift (h : WI w n T) (hc : c < 8) (htk : tk = 99 ∨ (1 ≤ tk ∧ tk ≤ 8)) : WI (shW w n t (c + 1) tk) n T := by
  have hn := h.1
  refine wi_vs h (fun r hr => shW_own (by omega) (by omega) hr) (fun i h1 _ => shW_hi (by omega)) (fun r hr d hd => ?_)
  have hv := h.2.2.2.1
  rw [show 9 * r + 1 + d = 9 * r + (1 + d) by omega, shW_row _ _ _ _ _ hr (by omega)]
  by_cases h1 : w (9 * r) = zI t
  · rw [if_pos h1]
    by_cases h2 : 1 + d = c + 1
    · rw [if_pos h2]; exact Or.inl rfl
    · rw [if_neg h2]
      by_cases h3 : 1 + d = tk
      · rw [if_pos h3, show 9 * r + (c + 1) = 9 * r + 1 + c by omega]; exact hv r hr c hc
      · rw [if_neg h3, show 9 * r + (1 + d) = 9 * r + 1 + d by omega]; exact hv r hr d hd
  · rw [if_neg h1, show 9 * r + (1 + d) = 9 * r + 1 + d by omega]; exact hv r hr d hd
/- the reference's loop of forget -/
end QW

