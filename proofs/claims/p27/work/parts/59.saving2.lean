/-! the calls that save: forget, pack, remove, move, row *-/
section RC
variable {mi : Mem} {n k L T t l r c d fk tk : Nat} {w w1 tx : Nat → Int32} {pa : Nat → Nat → Int32} {nn TT : Nat → Nat}
theorem nWith_m1 (w : Nat → Int32) (n t : Nat) (c : Int32) (hn : n ≤ 120) : -1 ≤ nWith w n t c := by
  have e : nWith w n t c = zI (cn (fun r => decide (w (9 * r) = zI t) && !decide (vl w r c = -100000)) n) := by
    unfold nWith
    refine sg_cn (fun r hr => ?_)
    by_cases h1 : w (9 * r) = zI t
    · rw [if_pos h1, decide_eq_true h1, Bool.true_and]
      by_cases h2 : vl w r c = -100000
      · rw [if_pos h2, decide_eq_true h2]; rfl
      · rw [if_neg h2, decide_eq_false h2]; rfl
    · rw [if_neg h1, decide_eq_false h1]; rfl
  rw [e]
  have := cn_le (fun r => decide (w (9 * r) = zI t) && !decide (vl w r c = -100000)) n
  exact m1_le (by omega)
theorem s_forget (h : IS mi w n T k pa nn TT L tx) (ht : t < 3) (hl : l < 8) : SOut (F_X3_forget (zI t) (zI l) mi) (fun _ _ _ => True) w n T k pa nn TT L tx := by
  obtain ⟨hP, hA, hJ, hp⟩ := h
  have hkk := svK_le hA.2.1
  obtain ⟨i1, i2, i3, i4, i5, i6, i7, i8, i9, i10, i11, i12⟩ := id hA.1
  obtain ⟨q5, m2, e1, e2, e3, e4, e5, e6, e7, e8⟩ := p_save hP hA.2.1 i9 i7
  have hs2 := e5.1 6 (by omega)
  have ql : zI l ≠ -1 := fun e => by rw [zI_ne1 (by omega)] at e; exact e
  have fc := p_columnOf e5.2.2.2.1 i5 ht ql
  have pF : F_X3_forget (zI t) (zI l) mi = J_X3_forget_19 (zI t) (zI l) mi 1 := by
    simp (discharger := omega) only [F_X3_forget, p_isT ht, p_isL hl, bd_e, bo_e, bm_e, bts_l, bts_r, btm_l, btm_r, bp_lt, ck_ib, ck_z, ck_o, ifT, ifF, n10, n01, pv_v, if_pos, if_neg, zI_nat, zI_add, zI_mul, zI_addl, zI_laddl, zI_mull, zI_lmul, zI_subl, zI_pred, zI_le, zI_lt, zI_eq, zI_lel, zI_lle, zI_ltl, zI_llt, zI_eql, zI_leq, zI_ne1, zI_1ne]
  rcases cO_cases w t (zI l) with ⟨hn, hc⟩ | ⟨c, hc8, hc, hcv⟩
  · rw [hc] at fc
    refine so_refuse hA hJ hp ht 5 (by decide) e5 rfl (fun m3 z => ?_) trivial
    rw [pF]
    simp (discharger := omega) only [J_X3_forget_19, p_req1, e1, e2, hs2, fc, z, bd_e, bo_e, bm_e, bts_l, bts_r, btm_l, btm_r, bp_lt, ck_ib, ck_z, ck_o, ifT, ifF, n10, n01, pv_v, if_pos, if_neg, zI_nat, zI_add, zI_mul, zI_addl, zI_laddl, zI_mull, zI_lmul, zI_subl, zI_pred, zI_le, zI_lt, zI_eq, zI_lel, zI_lle, zI_ltl, zI_llt, zI_eql, zI_leq, zI_ne1, zI_1ne]
  · rw [hc] at fc
    have c1 : ¬ zI c = -1 := fun e => by rw [zI_ne1 (by omega)] at e; exact e
    have fw := p_rowsWithValue e5.2.2.2.1 i4 ht (Or.inr ⟨c, hc8, rfl⟩ : isC (zI c))
    obtain ⟨m12, s1, s2, s3⟩ := p_shift (to := -1) (tk := 99) e5.2.2.2.1 ht hc8 (Or.inl ⟨rfl, rfl⟩)
    have hd := p_define (m := m12) (i0 := m2.2.1 6) (j0 := t) hc8 (v := 0) (Or.inl rfl) (-1) 0
    obtain ⟨w3, hw3⟩ : ∃ w3, w3 = upd (upd (shW w n t (c + 1) 99) (1081 + 8 * t + c) (-1)) (1129 + 8 * t + c) 0 := ⟨_, rfl⟩
    have u1 : w3 (1081 + 8 * t + c) = -1 := by rw [hw3, upd_ne _ (by omega), upd_eq]
    have u3 : w3 (1129 + 8 * t + c) = 0 := by rw [hw3, upd_eq]
    have u4 : ∀ i, i ≠ 1081 + 8 * t + c → i ≠ 1105 + 8 * t + c → i ≠ 1129 + 8 * t + c → w3 i = shW w n t (c + 1) 99 i := fun i a b d => by rw [hw3, upd_ne _ d, upd_ne _ a]
    have hW : WI w3 n T := wi_cell (wi_shift hA.1 hc8 (Or.inl rfl)) ht hc8 (Or.inl u1) (Or.inl u3) u4
    obtain ⟨r1, r2⟩ := e5.step hkk.1 (s2.tr (frt_def m12 _ t c (-1) 0 0)) (sr_def s3 ht hc8 u1 u3 (fun h => absurd rfl h) u4)
    have e : F_X3_forget (zI t) (zI l) mi = some (.inl (nWith w n t (zI c)), defM m12 (m2.2.1 6) t c (-1) 0 0) := by
      rw [pF]
      unfold defM
      simp (discharger := omega) only [J_X3_forget_19, p_req1, e1, e2, hs2, fc, c1, fw, s1, F_X2_makeSpare, hd, bd_e, bo_e, bm_e, bts_l, bts_r, btm_l, btm_r, bp_lt, ck_ib, ck_z, ck_o, ifT, ifF, n10, n01, pv_v, if_pos, if_neg, zI_nat, zI_add, zI_mul, zI_addl, zI_laddl, zI_mull, zI_lmul, zI_subl, zI_pred, zI_le, zI_lt, zI_eq, zI_lel, zI_lle, zI_ltl, zI_llt, zI_eql, zI_leq, zI_ne1, zI_1ne]
    have hi : ∀ i, 9 * n ≤ i → i ≠ 1081 + 8 * t + c → i ≠ 1105 + 8 * t + c → i ≠ 1129 + 8 * t + c → w3 i = w i := fun i h0 a b d => by
      rw [u4 i a b d, shW_hi h0]
    have hJ3 : JV w3 n := by
      refine ⟨fun r hr t1 h1 ho c2 hc2 => ?_, fun t1 h1 c2 hc2 hl2 => ?_, fun t1 h1 => ?_⟩
      · have o1 : w3 (9 * r) = w (9 * r) := by
          rw [u4 _ (by omega) (by omega) (by omega)]
          exact shW_own (by omega) (by omega) hr
        rw [o1] at ho
        have o2 : w3 (9 * r + 1 + c2) = if w (9 * r) = zI t then (if 1 + c2 = c + 1 then -100000 else if 1 + c2 = 99 then w (9 * r + (c + 1)) else w (9 * r + (1 + c2))) else w (9 * r + (1 + c2)) := by
          rw [u4 _ (by omega) (by omega) (by omega), Nat.add_assoc]
          exact shW_row w n t (c + 1) 99 hr (by omega)
        by_cases e : t1 = t
        · subst e
          rw [if_pos ho] at o2
          by_cases e2 : c2 = c
          · rw [if_pos (by omega)] at o2
            exact Or.inl o2
          · rw [if_neg (by omega), if_neg (by omega), ← Nat.add_assoc] at o2
            rw [o2, hi (1081 + 8 * t1 + c2) (by omega) (by omega) (by omega) (by omega), hi (1105 + 8 * t1 + c2) (by omega) (by omega) (by omega) (by omega)]
            exact hJ.1 r hr t1 h1 ho c2 hc2
        · rw [if_neg (by rw [ho, zI_eq (by omega) (by omega)]; exact e), ← Nat.add_assoc] at o2
          rw [o2, hi (1081 + 8 * t1 + c2) (by omega) (by omega) (by omega) (by omega), hi (1105 + 8 * t1 + c2) (by omega) (by omega) (by omega) (by omega)]
          exact hJ.1 r hr t1 h1 ho c2 hc2
      · by_cases e : t1 = t ∧ c2 = c
        · obtain ⟨rfl, rfl⟩ := e
          exact absurd u1 hl2
        · rw [hi (1081 + 8 * t1 + c2) (by omega) (by omega) (by omega) (by omega)] at hl2
          rw [hi (1105 + 8 * t1 + c2) (by omega) (by omega) (by omega) (by omega)]
          exact hJ.2.1 t1 h1 c2 hc2 hl2
      · rw [hi (1156 + t1) (by omega) (by omega) (by omega) (by omega)]
        exact hJ.2.2 t1 h1
    exact so_val hA hJ hp e r1 hW hJ3 (Or.inr ⟨nWith_m1 w n t (zI c) i1, rfs_eq (fun i h1 h2 => hi i (by omega) (by omega) (by omega) (by omega))⟩) trivial
/-- packing keeps what fits -/
theorem jv_mv (h : JV w n) (hn : n ≤ 120) (ht : t < 3) (hc : c < 8) (hd : d < c) (hl : w (1081 + 8 * t + c) ≠ -1) : JV (mvW w n t c d) n := by
  obtain ⟨f1, f2, f3, f4, f5, f6⟩ := clW_f (w := w) ht hc hd
  have hi : ∀ i, 9 * n ≤ i → mvW w n t c d i = clW w t c d i := fun i h0 => shW_hi h0
  have lo : ∀ i, i < 1080 → clW w t c d i = w i := fun i h0 => f6 i (by omega) (by omega) (by omega) (by omega) (by omega)
  refine ⟨fun r hr t1 h1 ho c2 hc2 => ?_, fun t1 h1 c2 hc2 hl2 => ?_, fun t1 h1 => ?_⟩
  · have o1 : mvW w n t c d (9 * r) = w (9 * r) := by
      have := shW_own (w := clW w t c d) (n := n) (t := t) (fk := c + 1) (tk := d + 1) (by omega) (by omega) hr
      rw [lo _ (by omega)] at this
      exact this
    rw [o1] at ho
    have o2 : mvW w n t c d (9 * r + 1 + c2) = if clW w t c d (9 * r) = zI t then (if 1 + c2 = c + 1 then -100000 else if 1 + c2 = d + 1 then clW w t c d (9 * r + (c + 1)) else clW w t c d (9 * r + (1 + c2))) else clW w t c d (9 * r + (1 + c2)) := by
      rw [Nat.add_assoc]
      exact shW_row (clW w t c d) n t (c + 1) (d + 1) hr (by omega)
    rw [lo (9 * r) (by omega), lo (9 * r + (c + 1)) (by omega), lo (9 * r + (1 + c2)) (by omega)] at o2
    rw [hi (1081 + 8 * t1 + c2) (by omega), hi (1105 + 8 * t1 + c2) (by omega)]
    by_cases e : t1 = t
    · subst e
      rw [if_pos ho] at o2
      by_cases e2 : c2 = c
      · rw [if_pos (by omega)] at o2
        exact Or.inl o2
      · rw [if_neg (by omega)] at o2
        by_cases e3 : c2 = d
        · subst e3
          rw [if_pos (by omega)] at o2
          rw [o2, f1, f2]
          have := h.1 r hr t1 h1 ho c hc
          rw [Nat.add_assoc, Nat.add_comm 1 c] at this
          exact this
        · rw [if_neg (by omega), ← Nat.add_assoc] at o2
          rw [o2, f6 (1081 + 8 * t1 + c2) (by omega) (by omega) (by omega) (by omega) (by omega), f6 (1105 + 8 * t1 + c2) (by omega) (by omega) (by omega) (by omega) (by omega)]
          exact h.1 r hr t1 h1 ho c2 hc2
    · rw [if_neg (by rw [ho, zI_eq (by omega) (by omega)]; exact e), ← Nat.add_assoc] at o2
      rw [o2, f6 (1081 + 8 * t1 + c2) (by omega) (by omega) (by omega) (by omega) (by omega), f6 (1105 + 8 * t1 + c2) (by omega) (by omega) (by omega) (by omega) (by omega)]
      exact h.1 r hr t1 h1 ho c2 hc2
  · rw [hi (1081 + 8 * t1 + c2) (by omega)] at hl2
    rw [hi (1105 + 8 * t1 + c2) (by omega)]
    by_cases e : t1 = t ∧ c2 = c
    · obtain ⟨rfl, rfl⟩ := e
      exact absurd f4 hl2
    · by_cases e3 : t1 = t ∧ c2 = d
      · obtain ⟨rfl, rfl⟩ := e3
        rw [f2]
        exact h.2.1 t1 h1 c hc hl
      · rw [f6 (1081 + 8 * t1 + c2) (by omega) (by omega) (by omega) (by omega) (by omega)] at hl2
        rw [f6 (1105 + 8 * t1 + c2) (by omega) (by omega) (by omega) (by omega) (by omega)]
        exact h.2.1 t1 h1 c2 hc2 hl2
  · rw [hi (1156 + t1) (by omega), f6 (1156 + t1) (by omega) (by omega) (by omega) (by omega) (by omega)]
    exact h.2.2 t1 h1
theorem rfs_mv (w : Nat → Int32) (hn : n ≤ 120) (ht : t < 3) (hc : c < 8) (hd : d < c) : RFS (mvW w n t c d) = RFS w := by
  obtain ⟨f1, f2, f3, f4, f5, f6⟩ := clW_f (w := w) ht hc hd
  refine rfs_eq (fun i h1 h2 => ?_)
  have e : mvW w n t c d i = clW w t c d i := shW_hi (by omega)
  rw [e]
  exact f6 i (by omega) (by omega) (by omega) (by omega) (by omega)
theorem jv_pk (h : JV w n) (hI : WI w n T) (ht : t < 3) : ∀ c, c ≤ 8 → JV (pkF w n t c).2.2 n ∧ RFS (pkF w n t c).2.2 = RFS w := by
  have inv := pk_inv hI ht
  have hn := hI.1
  intro c
  induction c with
  | zero => exact fun _ => ⟨h, rfl⟩
  | succ c ih =>
    intro hc
    obtain ⟨h1, h2⟩ := ih (by omega)
    show JV (pkS n t c (pkF w n t c)).2.2 n ∧ RFS (pkS n t c (pkF w n t c)).2.2 = RFS w
    unfold pkS
    by_cases e : (pkF w n t c).2.2 (1081 + 8 * t + c) = -1
    · rw [if_pos e]; exact ⟨h1, h2⟩
    · rw [if_neg e]
      by_cases e2 : c ≤ (pkF w n t c).1
      · rw [if_pos e2]; exact ⟨h1, h2⟩
      · rw [if_neg e2]
        exact ⟨jv_mv h1 hn ht (by omega) (by omega) e, (rfs_mv _ hn ht (by omega) (by omega)).trans h2⟩
theorem s_pack (h : IS mi w n T k pa nn TT L tx) (ht : t < 3) : SOut (F_X3_pack (zI t) mi) (fun _ _ _ => True) w n T k pa nn TT L tx := by
  obtain ⟨hP, hA, hJ, hp⟩ := h
  have hkk := svK_le hA.2.1
  obtain ⟨i1, i2, i3, i4, i5, i6, i7, i8, i9, i10, i11, i12⟩ := id hA.1
  obtain ⟨q5, m2, e1, e2, e3, e4, e5, e6, e7, e8⟩ := p_save hP hA.2.1 i9 i7
  have hs2 := e5.1 6 (by omega)
  have inv := pk_inv hA.1 ht
  have loop : ∃ m3, L_X3_pack_30 (zI t) (m2.2.1 6) t fu 0 0 0 m2 = some (.inl (zI (pkF w n t 8).2.1), m3) ∧ FrT (m2.2.1 6) m2 m3 ∧ SR m3.1 (m2.2.1 6) (pkF w n t 8).2.2 n := by
    refine loop_ex (L := fun k (a : Nat × Nat × Mem) i => L_X3_pack_30 (zI t) (m2.2.1 6) t k (zI a.1) (zI a.2.1) i a.2.2) (P := fun c a => a.1 = (pkF w n t c).1 ∧ a.2.1 = (pkF w n t c).2.1 ∧ FrT (m2.2.1 6) m2 a.2.2 ∧ SR a.2.2.1 (m2.2.1 6) (pkF w n t c).2.2 n) (R := fun o => ∃ m3, o = some (.inl (zI (pkF w n t 8).2.1), m3) ∧ FrT (m2.2.1 6) m2 m3 ∧ SR m3.1 (m2.2.1 6) (pkF w n t 8).2.2 n) (n := 8) ?_ ?_ 8 0 fu (0, 0, m2) (by omega) (by rw [fu_eq]; omega) ⟨rfl, rfl, frt_rf _ _, e5.2.2.2.1⟩
    · rintro k ⟨a, b, y⟩ c hc ⟨p1, p2, p3, p4⟩
      simp only at p1 p2 p3 p4
      refine Or.inl ?_
      obtain ⟨j1, j2, j3⟩ := inv c (by omega)
      have st : pkF w n t (c + 1) = pkS n t c (pkF w n t c) := rfl
      rw [← p1] at j2
      rw [← p2] at j3
      have y1 := (p4.2.2.2.2.2.1 t ht c hc).1
      have y3 := (p4.2.2.2.2.2.1 t ht c hc).2.1
      have y2 := (p4.2.2.2.2.2.1 t ht c hc).2.2
      have ys : y.2.1 6 = m2.2.1 6 := by rw [p3.2]
      by_cases e : (pkF w n t c).2.2 (1081 + 8 * t + c) = -1
      · have s1 : pkF w n t (c + 1) = pkF w n t c := by rw [st]; unfold pkS; rw [if_pos e]
        rw [s1]
        refine ⟨(a, b, y), ⟨p1, p2, p3, p4⟩, ?_⟩
        simp (discharger := omega) only [L_X3_pack_30, y1, e, J_X3_pack_103, bd_e, bo_e, bm_e, bts_l, bts_r, btm_l, btm_r, bp_lt, ck_ib, ck_z, ck_o, ifT, ifF, n10, n01, pv_v, if_pos, if_neg, zI_nat, zI_add, zI_mul, zI_addl, zI_laddl, zI_mull, zI_lmul, zI_subl, zI_pred, zI_le, zI_lt, zI_eq, zI_lel, zI_lle, zI_ltl, zI_llt, zI_eql, zI_leq, zI_ne1, zI_1ne]
      · by_cases e2c : c ≤ (pkF w n t c).1
        · have s1 : pkF w n t (c + 1) = ((pkF w n t c).1 + 1, (pkF w n t c).2.1, (pkF w n t c).2.2) := by rw [st]; unfold pkS; rw [if_neg e, if_pos e2c]
          rw [s1]
          refine ⟨(a + 1, b, y), ⟨by rw [← p1], p2, p3, p4⟩, ?_⟩
          rw [← p1] at e2c
          simp (discharger := omega) only [L_X3_pack_30, y1, e, e2c, J_X3_pack_103, J_X3_pack_100, bd_e, bo_e, bm_e, bts_l, bts_r, btm_l, btm_r, bp_lt, ck_ib, ck_z, ck_o, ifT, ifF, n10, n01, pv_v, if_pos, if_neg, zI_nat, zI_add, zI_mul, zI_addl, zI_laddl, zI_mull, zI_lmul, zI_subl, zI_pred, zI_le, zI_lt, zI_eq, zI_lel, zI_lle, zI_ltl, zI_llt, zI_eql, zI_leq, zI_ne1, zI_1ne]
        · have s1 : pkF w n t (c + 1) = ((pkF w n t c).1 + 1, (pkF w n t c).2.1 + 1, mvW (pkF w n t c).2.2 n t c (pkF w n t c).1) := by rw [st]; unfold pkS; rw [if_neg e, if_neg e2c]
          rw [s1]
          rw [← p1] at e2c ⊢
          have y2' := y2 e
          have jx := j1.2.2.2.2.2.2.2.2.1
          obtain ⟨m3, c1, c2, c3⟩ := p_mv p4 jx ht hc (show a < c by omega) e
          have hd1 := p_define (m := y) (i0 := m2.2.1 6) (j0 := t) (c := a) (by omega) (jx t ht c hc) ((pkF w n t c).2.2 (1081 + 8 * t + c)) ((pkF w n t c).2.2 (1105 + 8 * t + c))
          have hd2 := fun z => p_define (m := z) (i0 := m2.2.1 6) (j0 := t) (c := c) (by omega) (v := 0) (Or.inl rfl) (-1) 0
          refine ⟨(a + 1, b + 1, m3), ⟨rfl, by rw [← p2], p3.tr c2, c3⟩, ?_⟩
          unfold defM at c1
          have zs : ∀ (z : Mem) lb i v, (wI z lb i v).2.1 6 = z.2.1 6 := fun _ _ _ _ => rfl
          simp (discharger := omega) only [L_X3_pack_30, y1, y2', y3, e, e2c, hd1, F_X2_makeSpare, hd2, zs, ys, hs2, c1, J_X3_pack_103, J_X3_pack_100, bd_e, bo_e, bm_e, bts_l, bts_r, btm_l, btm_r, bp_lt, ck_ib, ck_z, ck_o, ifT, ifF, n10, n01, pv_v, if_pos, if_neg, zI_nat, zI_add, zI_mul, zI_addl, zI_laddl, zI_mull, zI_lmul, zI_subl, zI_pred, zI_le, zI_lt, zI_eq, zI_lel, zI_lle, zI_ltl, zI_llt, zI_eql, zI_leq, zI_ne1, zI_1ne]
    · rintro k ⟨a, b, y⟩ ⟨p1, p2, p3, p4⟩
      simp only at p1 p2 p3 p4
      refine ⟨y, ?_, p3, p4⟩
      rw [← p2]
      simp (discharger := omega) only [L_X3_pack_30, C_X3_pack_109, Nat.le_refl, bd_e, bo_e, bm_e, bts_l, bts_r, btm_l, btm_r, bp_lt, ck_ib, ck_z, ck_o, ifT, ifF, n10, n01, pv_v, if_pos, if_neg, zI_nat, zI_add, zI_mul, zI_addl, zI_laddl, zI_mull, zI_lmul, zI_subl, zI_pred, zI_le, zI_lt, zI_eq, zI_lel, zI_lle, zI_ltl, zI_llt, zI_eql, zI_leq, zI_ne1, zI_1ne]
  obtain ⟨m3, l1, l2, l3⟩ := loop
  obtain ⟨r1, r2⟩ := e5.step hkk.1 l2 l3
  have e : F_X3_pack (zI t) mi = some (.inl (zI (pkF w n t 8).2.1), m3) := by
    simp (discharger := omega) only [F_X3_pack, p_isT ht, p_req1, e1, e2, hs2, bd_e, bo_e, bm_e, bts_l, bts_r, btm_l, btm_r, bp_lt, ck_ib, ck_z, ck_o, ifT, ifF, n10, n01, pv_v, if_pos, if_neg, zI_nat, zI_add, zI_mul, zI_addl, zI_laddl, zI_mull, zI_lmul, zI_subl, zI_pred, zI_le, zI_lt, zI_eq, zI_lel, zI_lle, zI_ltl, zI_llt, zI_eql, zI_leq, zI_ne1, zI_1ne]
    exact l1
  obtain ⟨z1, z2, z3⟩ := inv 8 (Nat.le_refl 8)
  obtain ⟨y1, y2⟩ := jv_pk hJ hA.1 ht 8 (Nat.le_refl 8)
  exact so_val hA hJ hp e r1 z1 y1 (Or.inr ⟨m1_le (by omega), y2⟩) trivial
theorem rfs_list {l : List Nat} (w : Nat → Int32) (hl : l.length ≤ 120) : RFS (lsW l w) = RFS w := rfs_eq (fun i h1 h2 => lsW_hi w hl (by omega))
theorem s_remove (h : IS mi w n T k pa nn TT L tx) (hr : r < n) : SOut (F_X3_remove (zI r) mi) (fun _ _ n2 => n2 + 1 = n) w n T k pa nn TT L tx := by
  obtain ⟨hP, hA, hJ, hp⟩ := h
  have hs := hP.1 6 (by omega)
  have hreq := p_reqRow hP.2.2.2.1 hs hr
  have hkk := svK_le hA.2.1
  obtain ⟨i1, i2, i3, i4, i5, i6, i7, i8, i9, i10, i11, i12⟩ := id hA.1
  obtain ⟨q5, m2, e1, e2, e3, e4, e5, e6, e7, e8⟩ := p_save hP hA.2.1 i9 i7
  have hs2 := e5.1 6 (by omega)
  have fo := e5.2.2.2.1.2.2.2.1 r hr
  obtain ⟨m5, hm5⟩ : ∃ m5, m5 = wI m2 (0, 0, 0, 4) 0 (zI r) := ⟨_, rfl⟩
  have F5 : FrT (m2.2.1 6) m2 m5 := by rw [hm5]; exact frt_wI (wr4 _) m2 0 _
  have S5 : SR m5.1 (m2.2.1 6) w n := by rw [hm5]; exact sr_wA e5.2.2.2.1 4 _
  have s5 : m5.2.1 6 = m2.2.1 6 := by rw [F5.2]
  have hfh : FH (m5.1 (0, 0, 0, 4)) (fL (fun y => decide (y = r)) n) := by
    rw [fL_single n hr, hm5, wI_eq]
    intro i y hy
    match i, hy with
    | 0, hy => cases hy; exact upd_eq _ _ _
    | i + 1, hy => cases hy
  obtain ⟨m7, c1, c2, c3⟩ := p_removeRows S5 _ hfh
  rw [fL_single n hr] at c1
  have c1' : F_X1_removeRows (m2.2.1 6) 1 m5 = some ((), m7) := c1
  have e : F_X3_remove (zI r) mi = some (.inl (w (9 * r)), m7) := by
    have z0 : Int32.toNatClampNeg 0 = 0 := rfl
    have i0 : ∀ {α : Type} (y : Option α), ck (ib 0 120) y = y := fun _ => rfl
    simp (discharger := omega) only [F_X3_remove, hreq, e1, e2, hs2, fo, i0, z0, bd_e, bo_e, bm_e, bts_l, bts_r, btm_l, btm_r, bp_lt, ck_ib, ck_z, ck_o, ifT, ifF, n10, n01, pv_v, if_pos, if_neg, zI_nat, zI_add, zI_mul, zI_addl, zI_laddl, zI_mull, zI_lmul, zI_subl, zI_pred, zI_le, zI_lt, zI_eq, zI_lel, zI_lle, zI_ltl, zI_llt, zI_eql, zI_leq, zI_ne1, zI_1ne]
    rw [← hm5]
    simp (discharger := omega) only [s5, hs2, c1', bd_e, bo_e, bm_e, bts_l, bts_r, btm_l, btm_r, bp_lt, ck_ib, ck_z, ck_o, ifT, ifF, n10, n01, pv_v, if_pos, if_neg, zI_nat, zI_add, zI_mul, zI_addl, zI_laddl, zI_mull, zI_lmul, zI_subl, zI_pred, zI_le, zI_lt, zI_eq, zI_lel, zI_lle, zI_ltl, zI_llt, zI_eql, zI_leq, zI_ne1, zI_1ne]
  obtain ⟨r1, r2⟩ := e5.step hkk.1 (F5.tr c2) c3
  obtain ⟨T2, hW⟩ := wi_sub hA.1 (fL_sub (fun y => !decide (y = r)) n)
  have hlen : (fL (fun y => !decide (y = r)) n).length ≤ n := fL_len _ n
  have hl1 : (fL (fun y => !decide (y = r)) n).length + 1 = n := by
    rw [← erase_range n hr, List.length_eraseIdx, List.length_range, if_pos hr]
    omega
  obtain ⟨t, ht, how⟩ := i3 r hr
  exact so_val hA hJ hp e r1 hW (jv_list hJ (by omega) (fun i hi => (fL_mem (gt0_mem hi)).1)) (Or.inr ⟨by rw [how]; exact m1_le (by omega), rfs_list w (by omega)⟩) hl1
theorem s_move (h : IS mi w n T k pa nn TT L tx) (ht : t < 3) : SOut (F_X3_move (zI t) mi) (fun _ _ _ => True) w n T k pa nn TT L tx := by
  obtain ⟨hP, hA, hJ, hp⟩ := h
  have hkk := svK_le hA.2.1
  obtain ⟨i1, i2, i3, i4, i5, i6, i7, i8, i9, i10, i11, i12, i13⟩ := id hA.1
  obtain ⟨q5, m2, e1, e2, e3, e4, e5, e6, e7, e8⟩ := p_save hP hA.2.1 i9 i7
  have hs2 := e5.1 6 (by omega)
  have q5s : q5 ≠ m2.2.1 6 := by rw [e4]; exact e3
  have f5 := (e5.2.2.2.1.2.2.2.2.2.2.1 t ht).2.2.1
  have fr := p_rowsOf2 e5.2.2.2.1 ht
  have ftr := p_tableRows e5.2.2.2.1 i7
  have hT := inTb_T i3 i7 i8
  have fin : ∀ b : Int32, (b = 0 ∨ b = 1) → cn (fun r => decide (mvd (upd w (1159 + t) b) r = 0)) n ≤ 40 → F_X3_move (zI t) mi = J_X3_move_69 q5 m2 (m2.2.1 6) t b → SOut (F_X3_move (zI t) mi) (fun _ _ _ => True) w n T k pa nn TT L tx := by
    intro b hb hT2 hF
    obtain ⟨v, hv⟩ : ∃ v, v = upd w (1159 + t) b := ⟨_, rfl⟩
    rw [← hv] at hT2
    have vr : ∀ i, i < 9 * n → v i = w i := fun i hi => by rw [hv, upd_ne _ (by omega)]
    have vh : ∀ i, i ≠ 1159 + t → v i = w i := fun i hi => by rw [hv, upd_ne _ hi]
    have vb : v (1159 + t) = b := by rw [hv, upd_eq]
    obtain ⟨m11, hm11⟩ : ∃ m11, m11 = wI m2 (2, m2.2.1 6, t, 0) 5 b := ⟨_, rfl⟩
    have F11 : FrT (m2.2.1 6) m2 m11 := by rw [hm11]; exact frt_wI (wr2 _ _ _) m2 5 b
    have S11 : SR m11.1 (m2.2.1 6) v n := by rw [hm11, hv]; exact sr_field e5.2.2.2.1 ht (j := 5) (by omega) (by omega) b
    have B11 : SR m11.1 q5 w n := sr_frt e7 F11 q5s
    have s11 : m11.2.1 6 = m2.2.1 6 := by rw [F11.2]
    obtain ⟨m13, o1, o2, o3, o4⟩ := p_order S11 B11 q5s vr
    have oV : OW v n := fun r hr => by rw [vr _ (by omega)]; exact i3 r hr
    have hlen : (slp (cls v) n 4).length = n := slp4_len (fun r hr => cls_lt oV hr)
    have mV : MV v := fun t2 ht2 => by
      by_cases e : t2 = t
      · rw [e, vb]; exact hb
      · rw [vh _ (by omega)]; exact i7 t2 ht2
    have c5 : m13.1 (2, m2.2.1 6, t, 0) 5 = b := by rw [o3, hm11, wI_eq, upd_eq]
    have e : F_X3_move (zI t) mi = some (.inl b, m13) := by
      rw [hF]
      unfold J_X3_move_69
      rw [ck_b hb, bd_e, ← hm11, s11, bp_lt hs2, o1, bm_someU, bd_e, c5, p_asN, bo_e, asN01 hb]
    obtain ⟨r1, r2⟩ := e5.step hkk.1 (F11.tr o2) o4
    have hso : ∀ i j, i < j → j < (slp (cls v) n 4).length → cls v (gt0 (slp (cls v) n 4) i) ≤ cls v (gt0 (slp (cls v) n 4) j) := by
      intro i j hij hj
      have h2 := List.pairwise_iff_getElem.mp (slp_sorted (cls v) n 4) i j (by omega) hj hij
      unfold gt0
      rw [List.getD_eq_getElem?_getD, List.getElem?_eq_getElem (by omega), List.getD_eq_getElem?_getD, List.getElem?_eq_getElem hj]
      exact h2
    obtain ⟨T2, hW⟩ := wi_list (l := slp (cls v) n 4) oV (fun r hr c hc => by rw [vr _ (by omega)]; exact i4 r hr c hc) (fun t1 h1 c hc c2 hc2 => by
        rw [vh (1081 + 8 * t1 + c) (by omega), vh (1081 + 8 * t1 + c2) (by omega)]; exact i5 t1 h1 c hc c2 hc2) (fun t1 h1 c hc => by rw [vh _ (by omega)]; exact i6 t1 h1 c hc) mV (fun t1 h1 c hc => by rw [vh _ (by omega)]; exact i9 t1 h1 c hc) (fun t1 h1 => by rw [vh _ (by omega)]; exact i10 t1 h1) (by omega) (fun i hi => (slp_mem (gt0_mem hi)).1) hso (fun t1 h1 => by
        rw [slp4 (fun r hr => cls_lt oV hr)]
        have h2 := rt_cn hA.1 h1
        rw [cn_range] at h2
        rw [cn_congr (q := fun r => decide (w (9 * r) = zI t1)) (fun r hr => by rw [vr _ (by omega)])]
        exact h2) (by rw [slp4 (fun r hr => cls_lt oV hr)]; exact hT2)
    have jv : JV v n := jv_low hJ (fun i hi => vh i (by omega))
    exact so_val hA hJ hp e r1 hW (jv_list jv (by omega) (fun i hi => (slp_mem (gt0_mem hi)).1)) (Or.inr ⟨by rcases hb with rfl | rfl <;> decide, (rfs_list v (by omega)).trans (rfs_eq (fun i h1 h2 => vh i (by omega)))⟩) trivial
  rcases i7 t ht with hv | hv
  · refine fin 1 (Or.inr rfl) ?_ ?_
    · refine Nat.le_trans (cn_mono (q := fun r => decide (mvd w r = 0)) (fun r hr h => ?_)) (by rw [t_cn hA.1]; exact i12)
      rw [decide_eq_true_eq] at h ⊢
      obtain ⟨t2, ht2, how⟩ := i3 r hr
      rw [mvd_of ht2 (by rw [upd_ne _ (by omega)]; exact how)] at h
      rw [mvd_of ht2 how]
      by_cases e : t2 = t
      · rw [e, upd_eq] at h; exact absurd h (by decide)
      · rw [upd_ne _ (by omega)] at h; exact h
    · rw [hv] at f5
      simp (discharger := omega) only [F_X3_move, p_isT ht, p_req1, e1, e2, hs2, f5, J_X3_move_56, bd_e, bo_e, bm_e, bts_l, bts_r, btm_l, btm_r, bp_lt, ck_ib, ck_z, ck_o, ifT, ifF, n10, n01, pv_v, if_pos, if_neg, zI_nat, zI_add, zI_mul, zI_addl, zI_laddl, zI_mull, zI_lmul, zI_subl, zI_pred, zI_le, zI_lt, zI_eq, zI_lel, zI_lle, zI_ltl, zI_llt, zI_eql, zI_leq, zI_ne1, zI_1ne]
  · have hcl := cn_le (fun r => decide (w (9 * r) = zI t)) n
    by_cases hle : T + cn (fun r => decide (w (9 * r) = zI t)) n ≤ 40
    · have hle' : inTb w n + rwsOf w n t ≤ 40 := by
        rw [hT, own_cn, zI_add]
        show _ ≤ zI 40
        rw [zI_le (by omega) (by omega)]; exact hle
      refine fin 0 (Or.inl rfl) ?_ ?_
      · refine Nat.le_trans (cn_or (q := fun r => decide (mvd w r = 0)) (r := fun r => decide (w (9 * r) = zI t)) (fun r hr h => ?_)) (by rw [t_cn hA.1]; exact hle)
        rw [decide_eq_true_eq] at h ⊢
        rw [decide_eq_true_eq]
        obtain ⟨t2, ht2, how⟩ := i3 r hr
        by_cases e : t2 = t
        · rw [e] at how; exact Or.inr how
        · refine Or.inl ?_
          rw [mvd_of ht2 (by rw [upd_ne _ (by omega)]; exact how), upd_ne _ (by omega)] at h
          rw [mvd_of ht2 how]; exact h
      · rw [hv] at f5
        simp (discharger := omega) only [F_X3_move, p_isT ht, p_req1, e1, e2, hs2, f5, ftr, fr, hle', J_X3_move_56, bd_e, bo_e, bm_e, bts_l, bts_r, btm_l, btm_r, bp_lt, ck_ib, ck_z, ck_o, ifT, ifF, n10, n01, pv_v, if_pos, if_neg, zI_nat, zI_add, zI_mul, zI_addl, zI_laddl, zI_mull, zI_lmul, zI_subl, zI_pred, zI_le, zI_lt, zI_eq, zI_lel, zI_lle, zI_ltl, zI_llt, zI_eql, zI_leq, zI_ne1, zI_1ne]
    · have hle' : ¬ inTb w n + rwsOf w n t ≤ 40 := by
        rw [hT, own_cn, zI_add]
        show ¬ _ ≤ zI 40
        rw [zI_le (by omega) (by omega)]; exact hle
      refine so_refuse hA hJ hp ht 2 (by decide) e5 rfl (fun m3 z => ?_) trivial
      rw [hv] at f5
      simp (discharger := omega) only [F_X3_move, p_isT ht, p_req1, e1, e2, hs2, f5, ftr, fr, hle', z, bd_e, bo_e, bm_e, bts_l, bts_r, btm_l, btm_r, bp_lt, ck_ib, ck_z, ck_o, ifT, ifF, n10, n01, pv_v, if_pos, if_neg, zI_nat, zI_add, zI_mul, zI_addl, zI_laddl, zI_mull, zI_lmul, zI_subl, zI_pred, zI_le, zI_lt, zI_eq, zI_lel, zI_lle, zI_ltl, zI_llt, zI_eql, zI_leq, zI_ne1, zI_1ne]
end RC
