/-! values leave a column; forget -/
def shR (w : Nat → Int32) (t fk tk : Nat) (i : Nat) : Int32 := if w (9 * (i / 9)) = zI t then (if i % 9 = fk then -100000 else if i % 9 = tk then w (9 * (i / 9) + fk) else w i) else w i
def shW (w : Nat → Int32) (n t fk tk : Nat) : Nat → Int32 := fun i => if i < 9 * n then shR w t fk tk i else w i
theorem shR_row (w : Nat → Int32) (t fk tk : Nat) {r k : Nat} (hk : k < 9) : shR w t fk tk (9 * r + k) = if w (9 * r) = zI t then (if k = fk then -100000 else if k = tk then w (9 * r + fk) else w (9 * r + k)) else w (9 * r + k) := by
  unfold shR
  rw [show (9 * r + k) / 9 = r by omega, show (9 * r + k) % 9 = k by omega]
theorem shW_row (w : Nat → Int32) (n t fk tk : Nat) {r k : Nat} (hr : r < n) (hk : k < 9) : shW w n t fk tk (9 * r + k) = if w (9 * r) = zI t then (if k = fk then -100000 else if k = tk then w (9 * r + fk) else w (9 * r + k)) else w (9 * r + k) := by
  unfold shW
  rw [if_pos (by omega), shR_row w t fk tk hk]
section QW
variable {m m1 m2 mi x : Mem} {n n0 k L T s q t r p c fk tk : Nat} {w w1 w2 v tx : Nat → Int32} {pa : Nat → Nat → Int32} {nn TT : Nat → Nat} {to : Int32}
theorem shW_own (hf : 1 ≤ fk) (htk : 1 ≤ tk) (hr : r < n) : shW w n t fk tk (9 * r) = w (9 * r) := by
  have h := shW_row w n t fk tk hr (k := 0) (by omega)
  rw [Nat.add_zero] at h
  rw [h]
  by_cases e : w (9 * r) = zI t
  · rw [if_pos e, if_neg (by omega), if_neg (by omega)]
  · rw [if_neg e]
theorem shW_hi {i : Nat} (hi : 9 * n ≤ i) : shW w n t fk tk i = w i := if_neg (by omega)
theorem sr_vals (h : SR m.1 s w n) (he : ∀ lb : Lb, lb ≠ (1, s, 0, 3) → m2.1 lb = m.1 lb) (h0 : ∀ r, r < n → w2 (9 * r) = w (9 * r)) (hh : ∀ i, 1080 ≤ i → i < 1174 → w2 i = w i) (hv : ∀ r, r < n → ∀ c, c < 8 → m2.1 (1, s, 0, 3) (r * 8 + c) = pv (w2 (9 * r + 1 + c))) : SR m2.1 s w2 n := by
  obtain ⟨a1, a2, a3, a4, a5, a6, a7, a8⟩ := h
  have e2 : ∀ a b, m2.1 (2, s, a, b) = m.1 (2, s, a, b) := fun a b => he _ (fun e => by injection e with e _; exact absurd e (by decide))
  refine ⟨a1, by rw [hh _ (by omega) (by omega)]; exact a2, by rw [he _ (lb1_ne (by decide))]; exact a3, fun r hr => by rw [he _ (lb1_ne (by decide)), h0 r hr]; exact a4 r hr, hv, fun t ht c hc => ?_, fun t ht => ?_, fun r hr => by rw [h0 r hr]; exact a8 r hr⟩
  · rw [e2, e2, e2, hh _ (by omega) (by omega), hh _ (by omega) (by omega), hh _ (by omega) (by omega)]
    exact a6 t ht c hc
  · rw [e2, hh _ (by omega) (by omega), hh _ (by omega) (by omega), hh _ (by omega) (by omega), hh _ (by omega) (by omega), hh _ (by omega) (by omega), hh _ (by omega) (by omega), hh _ (by omega) (by omega)]
    exact a7 t ht
theorem p_shift (h : SR m.1 s w n) (ht : t < 3) (hc : c < 8) (hto : (to = -1 ∧ tk = 99) ∨ ∃ c2, c2 < 8 ∧ c2 ≠ c ∧ to = zI c2 ∧ tk = c2 + 1) : ∃ m2, F_X1_shiftValues s (zI t) (zI c) to m = some ((), m2) ∧ FrT s m m2 ∧ SR m2.1 s (shW w n t (c + 1) tk) n := by
  obtain ⟨a1, a2, a3, a4, a5, a6, a7, a8⟩ := id h
  have tk1 : 1 ≤ tk := by
    rcases hto with ⟨-, e⟩ | ⟨c2, -, -, -, e⟩ <;> omega
  unfold F_X1_shiftValues
  refine loop_ex (L := fun k (y : Mem) i => L_X1_shiftValues_3 s (zI t) (zI c) to k i y) (P := fun j y => y.2 = m.2 ∧ (∀ lb : Lb, lb ≠ (1, s, 0, 3) → y.1 lb = m.1 lb) ∧ (∀ r, r < j → ∀ d, d < 8 → y.1 (1, s, 0, 3) (r * 8 + d) = pv (shW w n t (c + 1) tk (9 * r + 1 + d))) ∧ ∀ r, j ≤ r → r < n → ∀ d, d < 8 → y.1 (1, s, 0, 3) (r * 8 + d) = pv (w (9 * r + 1 + d))) (R := fun o => ∃ m2, o = some ((), m2) ∧ FrT s m m2 ∧ SR m2.1 s (shW w n t (c + 1) tk) n) (n := n) ?_ ?_ n 0 fu m (by omega) (by rw [fu_eq]; omega) ⟨rfl, fun _ _ => rfl, fun r hr => absurd hr (Nat.not_lt_zero r), fun r _ hr => a5 r hr⟩
  · intro k y r hr hp
    obtain ⟨p1, p2, p3, p4⟩ := hp
    refine Or.inl ?_
    have y3 : y.1 (1, s, 0, 0) 3 = zI n := by rw [p2 _ (lb1_ne (by decide))]; exact a3
    have y2 : y.1 (1, s, 0, 2) r = w (9 * r) := by rw [p2 _ (lb1_ne (by decide))]; exact a4 r hr
    have yv := p4 r (Nat.le_refl r) hr c hc
    have spec : ∀ d, d < 8 → shW w n t (c + 1) tk (9 * r + 1 + d) = if w (9 * r) = zI t then (if d = c then -100000 else if d + 1 = tk then w (9 * r + 1 + c) else w (9 * r + 1 + d)) else w (9 * r + 1 + d) := fun d hd => by
      rw [show 9 * r + 1 + d = 9 * r + (1 + d) by omega, shW_row _ _ _ _ _ hr (by omega)]
      by_cases h1 : w (9 * r) = zI t
      · rw [if_pos h1, if_pos h1]
        by_cases h2 : d = c
        · rw [if_pos (by omega), if_pos h2]
        · rw [if_neg (by omega), if_neg h2]
          by_cases h3 : d + 1 = tk
          · rw [if_pos (by omega), if_pos h3, show 9 * r + (c + 1) = 9 * r + 1 + c by omega]
          · rw [if_neg (by omega), if_neg h3]
      · rw [if_neg h1, if_neg h1]
    by_cases hw : w (9 * r) = zI t
    · have ev : F_X1_valueAt s (zI r) (zI c) y = some (pv (w (9 * r + 1 + c))) := by
        simp (discharger := omega) only [F_X1_valueAt, y3, yv, bd_e, bo_e, bm_e, bts_l, bts_r, btm_l, btm_r, bp_lt, ck_ib, ck_z, ck_o, ifT, ifF, n10, n01, pv_v, if_pos, if_neg, zI_nat, zI_add, zI_mul, zI_addl, zI_laddl, zI_mull, zI_lmul, zI_subl, zI_pred, zI_le, zI_lt, zI_eq, zI_lel, zI_lle, zI_ltl, zI_llt, zI_eql, zI_leq, zI_ne1, zI_1ne]
      -- the state behind the first writing
      have w1 : ∃ y1, F_X1_setValue s (zI r) to (pv (w (9 * r + 1 + c))) y = some ((), y1) ∧ y1.2 = y.2 ∧ (∀ lb : Lb, lb ≠ (1, s, 0, 3) → y1.1 lb = y.1 lb) ∧ ∀ i, y1.1 (1, s, 0, 3) i = if ∃ d, d < 8 ∧ d + 1 = tk ∧ i = r * 8 + d then pv (w (9 * r + 1 + c)) else y.1 (1, s, 0, 3) i := by
        rcases hto with ⟨e1, e2⟩ | ⟨c2, h1, h2, e1, e2⟩
        · subst e1
          refine ⟨y, ?_, rfl, fun _ _ => rfl, fun i => ?_⟩
          · have hm : (-1 : Int32) < 0 := by decide
            simp (discharger := omega) only [F_X1_setValue, J_X1_setValue_34, y3, hm, bd_e, bo_e, bm_e, bts_l, bts_r, btm_l, btm_r, bp_lt, ck_ib, ck_z, ck_o, ifT, ifF, n10, n01, pv_v, if_pos, if_neg, zI_nat, zI_add, zI_mul, zI_addl, zI_laddl, zI_mull, zI_lmul, zI_subl, zI_pred, zI_le, zI_lt, zI_eq, zI_lel, zI_lle, zI_ltl, zI_llt, zI_eql, zI_leq, zI_ne1, zI_1ne]
          · rw [if_neg (by rintro ⟨d, h1, h2, -⟩; omega)]
        · subst e1
          refine ⟨wI y (1, s, 0, 3) (r * 8 + c2) (pv (w (9 * r + 1 + c))), ?_, rfl, fun lb hl => wI_ne hl _ _ _, fun i => ?_⟩
          · simp (discharger := omega) only [F_X1_setValue, J_X1_setValue_34, y3, bd_e, bo_e, bm_e, bts_l, bts_r, btm_l, btm_r, bp_lt, ck_ib, ck_z, ck_o, ifT, ifF, n10, n01, pv_v, if_pos, if_neg, zI_nat, zI_add, zI_mul, zI_addl, zI_laddl, zI_mull, zI_lmul, zI_subl, zI_pred, zI_le, zI_lt, zI_eq, zI_lel, zI_lle, zI_ltl, zI_llt, zI_eql, zI_leq, zI_ne1, zI_1ne]
          · rw [wI_eq]
            by_cases e : i = r * 8 + c2
            · rw [e, upd_eq, if_pos ⟨c2, h1, by omega, rfl⟩]
            · rw [upd_ne _ e, if_neg (by rintro ⟨d, h3, h4, h5⟩; omega)]
      obtain ⟨y1, z1, z2, z3, z4⟩ := w1
      have n1 : y1.1 (1, s, 0, 0) 3 = zI n := by rw [z3 _ (lb1_ne (by decide))]; exact y3
      have s2 : F_X1_setValue s (zI r) (zI c) (-1000000) y1 = some ((), wI y1 (1, s, 0, 3) (r * 8 + c) (-1000000)) := by
        simp (discharger := omega) only [F_X1_setValue, J_X1_setValue_34, n1, bd_e, bo_e, bm_e, bts_l, bts_r, btm_l, btm_r, bp_lt, ck_ib, ck_z, ck_o, ifT, ifF, n10, n01, pv_v, if_pos, if_neg, zI_nat, zI_add, zI_mul, zI_addl, zI_laddl, zI_mull, zI_lmul, zI_subl, zI_pred, zI_le, zI_lt, zI_eq, zI_lel, zI_lle, zI_ltl, zI_llt, zI_eql, zI_leq, zI_ne1, zI_1ne]
      refine ⟨wI y1 (1, s, 0, 3) (r * 8 + c) (-1000000), ⟨z2.trans p1, fun lb hl => by rw [wI_ne hl, z3 lb hl]; exact p2 lb hl, fun q hq d hd => ?_, fun q h1 h2 d hd => ?_⟩, ?_⟩
      · rw [wI_eq]
        by_cases e : q = r
        · subst e
          rw [spec d hd, if_pos hw]
          by_cases e1 : d = c
          · rw [e1, upd_eq, if_pos rfl]; rfl
          · rw [upd_ne _ (by omega), if_neg e1, z4]
            by_cases e2 : d + 1 = tk
            · rw [if_pos ⟨d, hd, e2, rfl⟩, if_pos e2]
            · rw [if_neg (by rintro ⟨d2, h3, h4, h5⟩; omega), if_neg e2]
              exact p4 q (Nat.le_refl q) hr d hd
        · rw [upd_ne _ (by omega), z4, if_neg (by rintro ⟨d2, h3, h4, h5⟩; omega)]
          exact p3 q (by omega) d hd
      · rw [wI_eq, upd_ne _ (by omega), z4, if_neg (by rintro ⟨d2, h3, h4, h5⟩; omega)]
        exact p4 q (by omega) h2 d hd
      · simp (discharger := omega) only [L_X1_shiftValues_3, y3, y2, hw, ev, z1, s2, J_X1_shiftValues_46, bd_e, bo_e, bm_e, bts_l, bts_r, btm_l, btm_r, bp_lt, ck_ib, ck_z, ck_o, ifT, ifF, n10, n01, pv_v, if_pos, if_neg, zI_nat, zI_add, zI_mul, zI_addl, zI_laddl, zI_mull, zI_lmul, zI_subl, zI_pred, zI_le, zI_lt, zI_eq, zI_lel, zI_lle, zI_ltl, zI_llt, zI_eql, zI_leq, zI_ne1, zI_1ne]
    · refine ⟨y, ⟨p1, p2, fun q hq d hd => ?_, fun q h1 h2 => p4 q (by omega) h2⟩, ?_⟩
      · by_cases e : q = r
        · subst e
          rw [spec d hd, if_neg hw]
          exact p4 q (Nat.le_refl q) hr d hd
        · exact p3 q (by omega) d hd
      · simp (discharger := omega) only [L_X1_shiftValues_3, y3, y2, hw, J_X1_shiftValues_46, bd_e, bo_e, bm_e, bts_l, bts_r, btm_l, btm_r, bp_lt, ck_ib, ck_z, ck_o, ifT, ifF, n10, n01, pv_v, if_pos, if_neg, zI_nat, zI_add, zI_mul, zI_addl, zI_laddl, zI_mull, zI_lmul, zI_subl, zI_pred, zI_le, zI_lt, zI_eq, zI_lel, zI_lle, zI_ltl, zI_llt, zI_eql, zI_leq, zI_ne1, zI_1ne]
  · intro k y hp
    obtain ⟨p1, p2, p3, p4⟩ := hp
    have y3 : y.1 (1, s, 0, 0) 3 = zI n := by rw [p2 _ (lb1_ne (by decide))]; exact a3
    refine ⟨y, ?_, ⟨fun lb hl => p2 lb (fun e => hl (by rw [e]; exact wr1 _ _ _)), p1⟩, sr_vals h p2 (fun r hr => shW_own (by omega) tk1 hr) (fun i h1 _ => shW_hi (by omega)) p3⟩
    simp (discharger := omega) only [L_X1_shiftValues_3, C_X1_shiftValues_52, y3, Nat.le_refl, bd_e, bo_e, bm_e, bts_l, bts_r, btm_l, btm_r, bp_lt, ck_ib, ck_z, ck_o, ifT, ifF, n10, n01, pv_v, if_pos, if_neg, zI_nat, zI_add, zI_mul, zI_addl, zI_laddl, zI_mull, zI_lmul, zI_subl, zI_pred, zI_le, zI_lt, zI_eq, zI_lel, zI_lle, zI_ltl, zI_llt, zI_eql, zI_leq, zI_ne1, zI_1ne]
theorem wi_shift (h : WI w n T) (hc : c < 8) (htk : tk = 99 ∨ (1 ≤ tk ∧ tk ≤ 8)) : WI (shW w n t (c + 1) tk) n T := by
  have hn := h.1
  refine wi_vs h (fun r hr => shW_own (by omega) (by omega) hr) (fun i h1 _ => shW_hi (by omega)) (fun r hr d hd => ?_)
  have hv := h.2.2.2.1
  rw [show 9 * r + 1 + d = 9 * r + (1 + d) by omega, shW_row _ _ _ _ _ hr (by omega)]
  by_cases h1 : w (9 * r) = zI t
  · rw [if_pos h1]
    by_cases h2 : 1 + d = c + 1
    · rw [if_pos h2]; exact Or.inl rfl
    · rw [if_neg h2]
      by_cases h3 : 1 + d = tk
      · rw [if_pos h3, show 9 * r + (c + 1) = 9 * r + 1 + c by omega]; exact hv r hr c hc
      · rw [if_neg h3, show 9 * r + (1 + d) = 9 * r + 1 + d by omega]; exact hv r hr d hd
  · rw [if_neg h1, show 9 * r + (1 + d) = 9 * r + 1 + d by omega]; exact hv r hr d hd
/-- the reference's loop of forget -/
theorem m_forgetL (hM : MRel x w k pa L tx) (h80 : w 1080 = zI n) (hn : n ≤ 120) (ht : t < 3) (hc : c < 8) : ∃ g, L_X4_forget_54 (zI t) (zI c) fu 0 0 x = C_X4_forget_113 (zI t) (zI c) (nWith w n t (zI c)) (wA x (3, 0, 0, 1) g) ∧ ∀ i, g i = shW w n t (c + 1) 99 i := by
  have k1 : Int32.toNatClampNeg 1080 = 1080 := rfl
  have k2 : ∀ {α : Type} (y : Option α), ck (ib 1080 1174) y = y := fun _ => rfl
  have g1 := hM.1
  refine loop_ex (L := fun k (a : Int32 × Mem) i => L_X4_forget_54 (zI t) (zI c) k a.1 i a.2) (P := fun j a => a.1 = sg (fun r => if w (9 * r) = zI t then (if vl w r (zI c) = -100000 then 0 else 1) else 0) j ∧ ∃ g, a.2 = wA x (3, 0, 0, 1) g ∧ ∀ i, g i = if i < 9 * j then shR w t (c + 1) 99 i else w i) (R := fun o => ∃ g, o = C_X4_forget_113 (zI t) (zI c) (nWith w n t (zI c)) (wA x (3, 0, 0, 1) g) ∧ ∀ i, g i = shW w n t (c + 1) 99 i) (n := n) ?_ ?_ n 0 fu (0, x) (by omega) (by rw [fu_eq]; omega) ⟨rfl, x.1 (3, 0, 0, 1), (wA_self2 x _).symm, fun i => by rw [if_neg (by omega), g1]⟩
  · rintro k ⟨a, y⟩ r hr ⟨p1, g, p2, p3⟩
    simp only at p1 p2
    subst p2
    have y1 : (wA x (3, 0, 0, 1) g).1 (3, 0, 0, 1) = g := wA_self _ _ _
    have e80 : g 1080 = zI n := by rw [p3, if_neg (by omega)]; exact h80
    have eo : g (9 * r) = w (9 * r) := by rw [p3, if_neg (by omega)]
    have ev : g (9 * r + 1 + c) = w (9 * r + 1 + c) := by rw [p3, if_neg (by omega)]
    have to : F_X4_tenantOf (zI r) (wA x (3, 0, 0, 1) g) = some (w (9 * r)) := by
      simp (discharger := omega) only [F_X4_tenantOf, y1, eo, bd_e, bo_e, bm_e, bts_l, bts_r, btm_l, btm_r, bp_lt, ck_ib, ck_z, ck_o, ifT, ifF, n10, n01, pv_v, if_pos, if_neg, zI_nat, zI_add, zI_mul, zI_addl, zI_laddl, zI_mull, zI_lmul, zI_subl, zI_pred, zI_le, zI_lt, zI_eq, zI_lel, zI_lle, zI_ltl, zI_llt, zI_eql, zI_leq, zI_ne1, zI_1ne]
    have hvl := vl_c w r hc
    refine Or.inl ?_
    have sgs : sg (fun r => if w (9 * r) = zI t then (if vl w r (zI c) = -100000 then 0 else 1) else 0) (r + 1) = sg (fun r => if w (9 * r) = zI t then (if vl w r (zI c) = -100000 then 0 else 1) else 0) r + (if w (9 * r) = zI t then (if vl w r (zI c) = -100000 then 0 else 1) else 0) := rfl
    by_cases hw : w (9 * r) = zI t
    · have hg2 : ∀ i, upd g (9 * r + 1 + c) (-100000) i = if i < 9 * (r + 1) then shR w t (c + 1) 99 i else w i := fun i => by
        by_cases e : i = 9 * r + 1 + c
        · rw [e, upd_eq, if_pos (by omega), show 9 * r + 1 + c = 9 * r + (1 + c) by omega, shR_row _ _ _ _ (by omega), if_pos hw, if_pos (by omega)]
        · rw [upd_ne _ e, p3]
          by_cases e1 : i < 9 * r
          · rw [if_pos e1, if_pos (by omega)]
          · rw [if_neg e1]
            by_cases e2 : i < 9 * (r + 1)
            · rw [if_pos e2, show i = 9 * r + i % 9 by omega, shR_row _ _ _ _ (by omega), if_pos hw, if_neg (by omega), if_neg (by omega)]
            · rw [if_neg e2]
      by_cases hx : w (9 * r + 1 + c) = -100000
      · refine ⟨(a, wA x (3, 0, 0, 1) (upd g (9 * r + 1 + c) (-100000))), ⟨by rw [sgs, if_pos hw, if_pos (by rw [hvl]; exact hx), Int32.add_zero]; exact p1, _, rfl, hg2⟩, ?_⟩
        simp (discharger := omega) only [L_X4_forget_54, k1, k2, y1, e80, to, hw, F_X4_changes, ev, hx, J_X4_forget_104, J_X4_forget_107, wI_wA, Int32.add_zero, bd_e, bo_e, bm_e, bts_l, bts_r, btm_l, btm_r, bp_lt, ck_ib, ck_z, ck_o, ifT, ifF, n10, n01, pv_v, if_pos, if_neg, zI_nat, zI_add, zI_mul, zI_addl, zI_laddl, zI_mull, zI_lmul, zI_subl, zI_pred, zI_le, zI_lt, zI_eq, zI_lel, zI_lle, zI_ltl, zI_llt, zI_eql, zI_leq, zI_ne1, zI_1ne]
      · refine ⟨(a + 1, wA x (3, 0, 0, 1) (upd g (9 * r + 1 + c) (-100000))), ⟨by rw [sgs, if_pos hw, if_neg (by rw [hvl]; exact hx), ← p1], _, rfl, hg2⟩, ?_⟩
        simp (discharger := omega) only [L_X4_forget_54, k1, k2, y1, e80, to, hw, F_X4_changes, ev, hx, J_X4_forget_104, J_X4_forget_107, wI_wA, bd_e, bo_e, bm_e, bts_l, bts_r, btm_l, btm_r, bp_lt, ck_ib, ck_z, ck_o, ifT, ifF, n10, n01, pv_v, if_pos, if_neg, zI_nat, zI_add, zI_mul, zI_addl, zI_laddl, zI_mull, zI_lmul, zI_subl, zI_pred, zI_le, zI_lt, zI_eq, zI_lel, zI_lle, zI_ltl, zI_llt, zI_eql, zI_leq, zI_ne1, zI_1ne]
    · refine ⟨(a, wA x (3, 0, 0, 1) g), ⟨by rw [sgs, if_neg hw, Int32.add_zero]; exact p1, g, rfl, fun i => ?_⟩, ?_⟩
      · rw [p3]
        by_cases e1 : i < 9 * r
        · rw [if_pos e1, if_pos (by omega)]
        · rw [if_neg e1]
          by_cases e2 : i < 9 * (r + 1)
          · rw [if_pos e2, show i = 9 * r + i % 9 by omega, shR_row _ _ _ _ (by omega), if_neg hw]
          · rw [if_neg e2]
      · simp (discharger := omega) only [L_X4_forget_54, k1, k2, y1, e80, to, hw, J_X4_forget_107, bd_e, bo_e, bm_e, bts_l, bts_r, btm_l, btm_r, bp_lt, ck_ib, ck_z, ck_o, ifT, ifF, n10, n01, pv_v, if_pos, if_neg, zI_nat, zI_add, zI_mul, zI_addl, zI_laddl, zI_mull, zI_lmul, zI_subl, zI_pred, zI_le, zI_lt, zI_eq, zI_lel, zI_lle, zI_ltl, zI_llt, zI_eql, zI_leq, zI_ne1, zI_1ne]
  · rintro k ⟨a, y⟩ ⟨p1, g, p2, p3⟩
    simp only at p1 p2
    subst p2
    have y1 : (wA x (3, 0, 0, 1) g).1 (3, 0, 0, 1) = g := wA_self _ _ _
    have e80 : g 1080 = zI n := by rw [p3, if_neg (by omega)]; exact h80
    refine ⟨g, ?_, p3⟩
    have ea : a = nWith w n t (zI c) := p1
    rw [← ea]
    simp (discharger := omega) only [L_X4_forget_54, k1, k2, y1, e80, Nat.le_refl, bd_e, bo_e, bm_e, bts_l, bts_r, btm_l, btm_r, bp_lt, ck_ib, ck_z, ck_o, ifT, ifF, n10, n01, pv_v, if_pos, if_neg, zI_nat, zI_add, zI_mul, zI_addl, zI_laddl, zI_mull, zI_lmul, zI_subl, zI_pred, zI_le, zI_lt, zI_eq, zI_lel, zI_lle, zI_ltl, zI_llt, zI_eql, zI_leq, zI_ne1, zI_1ne]
theorem call_forget (h : St mi) (p q : Int32) : CallOK (F_L_forget p q mi) (fun m' => F_X4_forget p q m') := by
  obtain ⟨w, n, T, k, pa, nn, TT, L, tx, hP, hM, hA⟩ := h
  have bad : F_X3_forget p q mi = some (.inr 0, mi) → (∀ m', F_X4_forget p q m' = some (0, wI (wI m' (3, 0, 0, 0) 6 0) (3, 0, 0, 0) 6 1)) → CallOK (F_L_forget p q mi) (fun m' => F_X4_forget p q m') := by
    intro e e2
    refine ok_err (c := 0) (code := 1) (m1 := mi) hM e rfl (by decide) hP (frp_rf _) hA (v' := 0) (fun m' hm => ?_)
    rw [e2]
    exact mok_fail hm 1
  rcases rng3 p with ⟨t, ht, rfl⟩ | hp
  · rcases rng8 q with ⟨l, hl, rfl⟩ | hq
    · have hkk := svK_le hA.2.1
      obtain ⟨i1, i2, i3, i4, i5, i6, i7, i8, i9, i10, i11, i12⟩ := id hA.1
      obtain ⟨q5, m2, e1, e2, e3, e4, e5, e6, e7, e8⟩ := p_save hP hA.2.1 i9 i7
      have hs2 := e5.1 6 (by omega)
      have ql : zI l ≠ -1 := fun e => by rw [zI_ne1 (by omega)] at e; exact e
      have fc := p_columnOf e5.2.2.2.1 i5 ht ql
      have pF : F_X3_forget (zI t) (zI l) mi = J_X3_forget_19 (zI t) (zI l) mi 1 := by
        simp (discharger := omega) only [F_X3_forget, p_isT ht, p_isL hl, bd_e, bo_e, bm_e, bts_l, bts_r, btm_l, btm_r, bp_lt, ck_ib, ck_z, ck_o, ifT, ifF, n10, n01, pv_v, if_pos, if_neg, zI_nat, zI_add, zI_mul, zI_addl, zI_laddl, zI_mull, zI_lmul, zI_subl, zI_pred, zI_le, zI_lt, zI_eq, zI_lel, zI_lle, zI_ltl, zI_llt, zI_eql, zI_leq, zI_ne1, zI_1ne]
      rcases cO_cases w t (zI l) with ⟨hn, hc⟩ | ⟨c, hc8, hc, hcv⟩
      · rw [hc] at fc
        refine ok_refuse hM hA ht 5 e5 e6 rfl (fun m3 z => ?_) (fun m' x2 o1 o2 => ?_)
        · rw [pF]
          simp (discharger := omega) only [J_X3_forget_19, p_req1, e1, e2, hs2, fc, z, bd_e, bo_e, bm_e, bts_l, bts_r, btm_l, btm_r, bp_lt, ck_ib, ck_z, ck_o, ifT, ifF, n10, n01, pv_v, if_pos, if_neg, zI_nat, zI_add, zI_mul, zI_addl, zI_laddl, zI_mull, zI_lmul, zI_subl, zI_pred, zI_le, zI_lt, zI_eq, zI_lel, zI_lle, zI_ltl, zI_llt, zI_eql, zI_leq, zI_ne1, zI_1ne]
        · have a3 := m_columnOf (mw_of o2 hA.1) ht (zI l)
          rw [hc] at a3
          have z := (m_refuse o2 ht 5).1
          simp (discharger := omega) only [F_X4_forget, m_isT ht, m_isL hl, o1, a3, z, bd_e, bo_e, bm_e, bts_l, bts_r, btm_l, btm_r, bp_lt, ck_ib, ck_z, ck_o, ifT, ifF, n10, n01, pv_v, if_pos, if_neg, zI_nat, zI_add, zI_mul, zI_addl, zI_laddl, zI_mull, zI_lmul, zI_subl, zI_pred, zI_le, zI_lt, zI_eq, zI_lel, zI_lle, zI_ltl, zI_llt, zI_eql, zI_leq, zI_ne1, zI_1ne]
      · rw [hc] at fc
        have c1 : ¬ zI c = -1 := fun e => by rw [zI_ne1 (by omega)] at e; exact e
        have fw := p_rowsWithValue e5.2.2.2.1 i4 ht (Or.inr ⟨c, hc8, rfl⟩ : isC (zI c))
        obtain ⟨m12, s1, s2, s3⟩ := p_shift (to := -1) (tk := 99) e5.2.2.2.1 ht hc8 (Or.inl ⟨rfl, rfl⟩)
        have hd := p_define (m := m12) (i0 := m2.2.1 6) (j0 := t) hc8 (v := 0) (Or.inl rfl) (-1) 0
        obtain ⟨w3, hw3⟩ : ∃ w3, w3 = upd (upd (shW w n t (c + 1) 99) (1081 + 8 * t + c) (-1)) (1129 + 8 * t + c) 0 := ⟨_, rfl⟩
        have u1 : w3 (1081 + 8 * t + c) = -1 := by rw [hw3, upd_ne _ (by omega), upd_eq]
        have u3 : w3 (1129 + 8 * t + c) = 0 := by rw [hw3, upd_eq]
        have u4 : ∀ i, i ≠ 1081 + 8 * t + c → i ≠ 1105 + 8 * t + c → i ≠ 1129 + 8 * t + c → w3 i = shW w n t (c + 1) 99 i := fun i a b d => by rw [hw3, upd_ne _ d, upd_ne _ a]
        have hW : WI w3 n T := wi_cell (wi_shift hA.1 hc8 (Or.inl rfl)) ht hc8 (Or.inl u1) (Or.inl u3) u4
        obtain ⟨r1, r2⟩ := e5.step hkk.1 (s2.tr (frt_def m12 _ t c (-1) 0 0)) (sr_def s3 ht hc8 u1 u3 (fun h => absurd rfl h) u4)
        have e : F_X3_forget (zI t) (zI l) mi = some (.inl (nWith w n t (zI c)), defM m12 (m2.2.1 6) t c (-1) 0 0) := by
          rw [pF]
          unfold defM
          simp (discharger := omega) only [J_X3_forget_19, p_req1, e1, e2, hs2, fc, c1, fw, s1, F_X2_makeSpare, hd, bd_e, bo_e, bm_e, bts_l, bts_r, btm_l, btm_r, bp_lt, ck_ib, ck_z, ck_o, ifT, ifF, n10, n01, pv_v, if_pos, if_neg, zI_nat, zI_add, zI_mul, zI_addl, zI_laddl, zI_mull, zI_lmul, zI_subl, zI_pred, zI_le, zI_lt, zI_eq, zI_lel, zI_lle, zI_ltl, zI_llt, zI_eql, zI_leq, zI_ne1, zI_1ne]
        refine ok_val hM e r1 (frp_tr e6 r2) (ainv_w hA.saved hW) (fun m' hm => ?_)
        obtain ⟨x2, o1, o2, o3, o4⟩ := m_pre hm hA.2.1
        have a3 := m_columnOf (mw_of o2 hA.1) ht (zI l)
        rw [hc] at a3
        obtain ⟨g, z1, z2⟩ := m_forgetL o2 i2 i1 ht hc8
        have e9 : F_X4_forget (zI t) (zI l) m' = some (nWith w n t (zI c), wI (wI (wA x2 (3, 0, 0, 1) g) (3, 0, 0, 1) (1081 + 8 * t + c) (-1)) (3, 0, 0, 1) (1129 + 8 * t + c) 0) := by
          have e0 : F_X4_forget (zI t) (zI l) m' = L_X4_forget_54 (zI t) (zI c) fu 0 0 x2 := by
            simp (discharger := omega) only [F_X4_forget, m_isT ht, m_isL hl, o1, a3, c1, bd_e, bo_e, bm_e, bts_l, bts_r, btm_l, btm_r, bp_lt, ck_ib, ck_z, ck_o, ifT, ifF, n10, n01, pv_v, if_pos, if_neg, zI_nat, zI_add, zI_mul, zI_addl, zI_laddl, zI_mull, zI_lmul, zI_subl, zI_pred, zI_le, zI_lt, zI_eq, zI_lel, zI_lle, zI_ltl, zI_llt, zI_eql, zI_leq, zI_ne1, zI_1ne]
          rw [e0, z1]
          simp (discharger := omega) only [C_X4_forget_113, bd_e, bo_e, bm_e, bts_l, bts_r, btm_l, btm_r, bp_lt, ck_ib, ck_z, ck_o, ifT, ifF, n10, n01, pv_v, if_pos, if_neg, zI_nat, zI_add, zI_mul, zI_addl, zI_laddl, zI_mull, zI_lmul, zI_subl, zI_pred, zI_le, zI_lt, zI_eq, zI_lel, zI_lle, zI_ltl, zI_llt, zI_eql, zI_leq, zI_ne1, zI_1ne]
        have eg : g = shW w n t (c + 1) 99 := funext z2
        rw [e9]
        have MA : MRel (wA x2 (3, 0, 0, 1) g) (shW w n t (c + 1) 99) (svK k) (svF k pa w) L tx := by
          obtain ⟨y1, y2, y3, y4, y5⟩ := o2
          exact ⟨by rw [wA_self, eg], by rw [wA_ne _ _ (by decide)]; exact y2, by rw [wA_ne _ _ (by decide)]; exact y3, by rw [wA_ne _ _ (by decide)]; exact y4, by rw [wA_ne _ _ (by decide)]; exact y5⟩
        refine ⟨_, w3, rfl, ?_, eqw_rf _ _, frm_tr o3 (frm_tr (frm_wA rfl _ _) (frm_tr (frm_wI rfl _ _ _) (frm_wI rfl _ _ _))), by rw [wI_ne (by decide), wI_ne (by decide), wA_ne _ _ (by decide)]; exact o4⟩
        rw [hw3]
        exact mrel_1 (mrel_1 MA _ _) _ _
    · refine bad ?_ (fun m' => ?_)
      · simp (discharger := omega) only [F_X3_forget, p_isT ht, p_isL0' hq, jb_forget, bd_e, bo_e, bm_e, bts_l, bts_r, btm_l, btm_r, bp_lt, ck_ib, ck_z, ck_o, ifT, ifF, n10, n01, pv_v, if_pos, if_neg, zI_nat, zI_add, zI_mul, zI_addl, zI_laddl, zI_mull, zI_lmul, zI_subl, zI_pred, zI_le, zI_lt, zI_eq, zI_lel, zI_lle, zI_ltl, zI_llt, zI_eql, zI_leq, zI_ne1, zI_1ne]
      · simp (discharger := omega) only [F_X4_forget, m_isT ht, m_isL0 hq, m_fails, J_X4_forget_19, bd_e, bo_e, bm_e, bts_l, bts_r, btm_l, btm_r, bp_lt, ck_ib, ck_z, ck_o, ifT, ifF, n10, n01, pv_v, if_pos, if_neg, zI_nat, zI_add, zI_mul, zI_addl, zI_laddl, zI_mull, zI_lmul, zI_subl, zI_pred, zI_le, zI_lt, zI_eq, zI_lel, zI_lle, zI_ltl, zI_llt, zI_eql, zI_leq, zI_ne1, zI_1ne]
  · refine bad ?_ (fun m' => ?_)
    · simp (discharger := omega) only [F_X3_forget, p_isT0' hp, jb_forget, bd_e, bo_e, bm_e, bts_l, bts_r, btm_l, btm_r, bp_lt, ck_ib, ck_z, ck_o, ifT, ifF, n10, n01, pv_v, if_pos, if_neg, zI_nat, zI_add, zI_mul, zI_addl, zI_laddl, zI_mull, zI_lmul, zI_subl, zI_pred, zI_le, zI_lt, zI_eq, zI_lel, zI_lle, zI_ltl, zI_llt, zI_eql, zI_leq, zI_ne1, zI_1ne]
    · simp (discharger := omega) only [F_X4_forget, m_isT0 hp, m_fails, J_X4_forget_19, bd_e, bo_e, bm_e, bts_l, bts_r, btm_l, btm_r, bp_lt, ck_ib, ck_z, ck_o, ifT, ifF, n10, n01, pv_v, if_pos, if_neg, zI_nat, zI_add, zI_mul, zI_addl, zI_laddl, zI_mull, zI_lmul, zI_subl, zI_pred, zI_le, zI_lt, zI_eq, zI_lel, zI_lle, zI_ltl, zI_llt, zI_eql, zI_leq, zI_ne1, zI_1ne]
end QW
