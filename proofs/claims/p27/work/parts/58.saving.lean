/-! the calls that save: limit, mean, index, put *-/
section RB
variable {mi : Mem} {n k L T t l r : Nat} {w tx : Nat → Int32} {pa : Nat → Nat → Int32} {nn TT : Nat → Nat}
theorem s_limit (h : IS mi w n T k pa nn TT L tx) (ht : t < 3) (b : Int32) {a : Nat} (ha : a ≤ 8) : SOut (F_X3_limit (zI t) b (zI a) mi) (fun _ _ _ => True) w n T k pa nn TT L tx := by
  obtain ⟨hP, hA, hJ, hp⟩ := h
  have hkk := svK_le hA.2.1
  obtain ⟨i1, i2, i3, i4, i5, i6, i7, i8, i9, i10, i11, i12⟩ := id hA.1
  obtain ⟨q5, m2, e1, e2, e3, e4, e5, e6, e7, e8⟩ := p_save hP hA.2.1 i9 i7
  have hs2 := e5.1 6 (by omega)
  by_cases h0 : b = 0
  · have f3 := (e5.2.2.2.1.2.2.2.2.2.2.1 t ht).1
    have hS := sr_field e5.2.2.2.1 ht (j := 3) (by omega) (by omega) (zI a)
    obtain ⟨r1, r2⟩ := e5.step hkk.1 (frt_wI (wr2 _ _ _) m2 3 (zI a)) hS
    have e : F_X3_limit (zI t) b (zI a) mi = some (.inl (w (1153 + t)), wI m2 (2, m2.2.1 6, t, 0) 3 (zI a)) := by
      simp (discharger := omega) only [F_X3_limit, p_isT ht, h0, J_X3_limit_23, J_X3_limit_31, J_X3_limit_67, J_X3_limit_88, p_req1, e1, e2, hs2, f3, bd_e, bo_e, bm_e, bts_l, bts_r, btm_l, btm_r, bp_lt, ck_ib, ck_z, ck_o, ifT, ifF, n10, n01, pv_v, if_pos, if_neg, zI_nat, zI_add, zI_mul, zI_addl, zI_laddl, zI_mull, zI_lmul, zI_subl, zI_pred, zI_le, zI_lt, zI_eq, zI_lel, zI_lle, zI_ltl, zI_llt, zI_eql, zI_leq, zI_ne1, zI_1ne]
    have hW : WI (upd w (1153 + t) (zI a)) n T := by
      have lo : ∀ i, i < 9 * n ∨ (1080 ≤ i ∧ i < 1105) ∨ (1129 ≤ i ∧ i < 1153) ∨ (1159 ≤ i ∧ i < 1162) → upd w (1153 + t) (zI a) i = w i := fun i hi => upd_ne _ (by omega) _
      have hlm : LM (upd w (1153 + t) (zI a)) := by
        intro t2 ht2
        by_cases e : t2 = t
        · subst e; exact ⟨a, by omega, upd_eq _ _ _⟩
        · obtain ⟨a2, h2, h3⟩ := i10 t2 ht2
          exact ⟨a2, h2, by rw [upd_ne _ (by omega)]; exact h3⟩
      exact wi_lm hA.1 hlm (fun i hi => lo i (by omega))
    obtain ⟨a0, a1, a2⟩ := i10 t ht
    exact so_val hA hJ hp e r1 hW (jv_low hJ (fun i hi => upd_ne _ (by omega) _)) (Or.inr ⟨by rw [a2]; exact m1_le (by omega), rfs_eq (fun i h1 h2 => upd_ne _ (by omega) _)⟩) trivial
  · have f3 := (e5.2.2.2.1.2.2.2.2.2.2.1 t ht).2.1
    have hS := sr_field e5.2.2.2.1 ht (j := 4) (by omega) (by omega) (zI a)
    obtain ⟨r1, r2⟩ := e5.step hkk.1 (frt_wI (wr2 _ _ _) m2 4 (zI a)) hS
    have e : F_X3_limit (zI t) b (zI a) mi = some (.inl (w (1156 + t)), wI m2 (2, m2.2.1 6, t, 0) 4 (zI a)) := by
      simp (discharger := omega) only [F_X3_limit, p_isT ht, h0, J_X3_limit_23, J_X3_limit_31, J_X3_limit_67, J_X3_limit_88, p_req1, e1, e2, hs2, f3, bd_e, bo_e, bm_e, bts_l, bts_r, btm_l, btm_r, bp_lt, ck_ib, ck_z, ck_o, ifT, ifF, n10, n01, pv_v, if_pos, if_neg, zI_nat, zI_add, zI_mul, zI_addl, zI_laddl, zI_mull, zI_lmul, zI_subl, zI_pred, zI_le, zI_lt, zI_eq, zI_lel, zI_lle, zI_ltl, zI_llt, zI_eql, zI_leq, zI_ne1, zI_1ne]
    obtain ⟨a0, a1, a2⟩ := hJ.2.2 t ht
    have hJ2 : JV (upd w (1156 + t) (zI a)) n := by
      obtain ⟨j1, j2, j3⟩ := jv_low (w2 := fun i => if i = 1156 + t then w i else upd w (1156 + t) (zI a) i) hJ (fun i hi => by
        by_cases e : i = 1156 + t
        · rw [if_pos e]
        · rw [if_neg e, upd_ne _ e])
      refine ⟨fun r hr t1 h1 ho c hc => ?_, fun t1 h1 c hc hl => ?_, fun t1 h1 => ?_⟩
      · rw [upd_ne _ (by omega)] at ho
        rw [upd_ne (j := 9 * r + 1 + c) _ (by omega), upd_ne (j := 1081 + 8 * t1 + c) _ (by omega), upd_ne (j := 1105 + 8 * t1 + c) _ (by omega)]
        exact hJ.1 r hr t1 h1 ho c hc
      · rw [upd_ne _ (by omega)] at hl
        rw [upd_ne _ (by omega)]
        exact hJ.2.1 t1 h1 c hc hl
      · by_cases e : t1 = t
        · subst e; exact ⟨a, ha, upd_eq _ _ _⟩
        · rw [upd_ne _ (by omega)]; exact hJ.2.2 t1 h1
    exact so_val hA hJ hp e r1 (wi_low hA.1 (fun i hi => upd_ne _ (by omega) _)) hJ2 (Or.inr ⟨by rw [a2]; exact m1_le (by omega), rfs_eq (fun i h1 h2 => upd_ne _ (by omega) _)⟩) trivial
set_option maxHeartbeats 4000000 in
theorem s_mean (h : IS mi w n T k pa nn TT L tx) (ht : t < 3) (hl : l < 8) {kd : Nat} (hkd : kd < 3) : SOut (F_X3_mean (zI t) (zI l) (zI kd) mi) (fun _ _ _ => True) w n T k pa nn TT L tx := by
  obtain ⟨hP, hA, hJ, hp⟩ := h
  have hkk := svK_le hA.2.1
  obtain ⟨i1, i2, i3, i4, i5, i6, i7, i8, i9, i10, i11, i12⟩ := id hA.1
  obtain ⟨q5, m2, e1, e2, e3, e4, e5, e6, e7, e8⟩ := p_save hP hA.2.1 i9 i7
  have hs2 := e5.1 6 (by omega)
  have f4 := (e5.2.2.2.1.2.2.2.2.2.2.1 t ht).2.1
  have fm := p_meanings e5.2.2.2.1 ht
  have ql : zI l ≠ -1 := fun e => by rw [zI_ne1 (by omega)] at e; exact e
  have fc := p_columnOf e5.2.2.2.1 i5 ht ql
  have pF : F_X3_mean (zI t) (zI l) (zI kd) mi = J_X3_mean_28 (zI t) (zI l) (zI kd) mi 1 := by
    simp (discharger := omega) only [F_X3_mean, p_isT ht, p_isL hl, bd_e, bo_e, bm_e, bts_l, bts_r, btm_l, btm_r, bp_lt, ck_ib, ck_z, ck_o, ifT, ifF, n10, n01, pv_v, if_pos, if_neg, zI_nat, zI_add, zI_mul, zI_addl, zI_laddl, zI_mull, zI_lmul, zI_subl, zI_pred, zI_le, zI_lt, zI_eq, zI_lel, zI_lle, zI_ltl, zI_llt, zI_eql, zI_leq, zI_ne1, zI_1ne]
  by_cases hlt : mngs w t < w (1156 + t)
  · rcases cO_cases w t (zI l) with ⟨hn, hc⟩ | ⟨c, hc8, hc, hcv⟩
    · rw [hc] at fc
      rcases p_spare e5.2.2.2.1 ht with ⟨c, hc8, k1, k2, k3⟩ | ⟨k1, k2⟩
      · have hd := p_define (m := m2) (i0 := m2.2.1 6) (j0 := t) hc8 (v := 0) (Or.inl rfl) (zI l) (zI kd)
        obtain ⟨w3, hw3⟩ : ∃ w3, w3 = upd (upd (upd w (1081 + 8 * t + c) (zI l)) (1105 + 8 * t + c) (zI kd)) (1129 + 8 * t + c) 0 := ⟨_, rfl⟩
        have u1 : w3 (1081 + 8 * t + c) = zI l := by rw [hw3, upd_ne _ (by omega), upd_ne _ (by omega), upd_eq]
        have u2 : w3 (1105 + 8 * t + c) = zI kd := by rw [hw3, upd_ne _ (by omega), upd_eq]
        have u3 : w3 (1129 + 8 * t + c) = 0 := by rw [hw3, upd_eq]
        have u4 : ∀ i, i ≠ 1081 + 8 * t + c → i ≠ 1105 + 8 * t + c → i ≠ 1129 + 8 * t + c → w3 i = w i := fun i a b d => by rw [hw3, upd_ne _ d, upd_ne _ b, upd_ne _ a]
        obtain ⟨r1, r2⟩ := e5.step hkk.1 (frt_def m2 _ t c (zI l) (zI kd) 0) (sr_def e5.2.2.2.1 ht hc8 u1 u3 (fun _ => u2) u4)
        have hW : WI w3 n T := wi_cell hA.1 ht hc8 (Or.inr ⟨⟨l, hl, u1⟩, fun c2 h2 _ => by rw [u1]; exact hn c2 h2⟩) (Or.inl u3) u4
        have c1 : ¬ zI c = -1 := fun e => by rw [zI_ne1 (by omega)] at e; exact e
        have e : F_X3_mean (zI t) (zI l) (zI kd) mi = some (.inl (zI c), defM m2 (m2.2.1 6) t c (zI l) (zI kd) 0) := by
          rw [pF]
          unfold defM
          simp (discharger := omega) only [J_X3_mean_28, p_req1, e1, e2, hs2, fm, f4, hlt, fc, k1, c1, hd, bd_e, bo_e, bm_e, bts_l, bts_r, btm_l, btm_r, bp_lt, ck_ib, ck_z, ck_o, ifT, ifF, n10, n01, pv_v, if_pos, if_neg, zI_nat, zI_add, zI_mul, zI_addl, zI_laddl, zI_mull, zI_lmul, zI_subl, zI_pred, zI_le, zI_lt, zI_eq, zI_lel, zI_lle, zI_ltl, zI_llt, zI_eql, zI_leq, zI_ne1, zI_1ne]
        have hJ3 : JV w3 n := by
          refine ⟨fun r hr t1 h1 ho c2 hc2 => ?_, fun t1 h1 c2 hc2 hl2 => ?_, fun t1 h1 => ?_⟩
          · rw [u4 _ (by omega) (by omega) (by omega)] at ho
            rw [u4 (9 * r + 1 + c2) (by omega) (by omega) (by omega)]
            by_cases e : t1 = t ∧ c2 = c
            · obtain ⟨rfl, rfl⟩ := e
              rcases hJ.1 r hr t1 h1 ho c2 hc2 with h | ⟨h, -⟩
              · exact Or.inl h
              · exact absurd k2 h
            · rw [u4 (1081 + 8 * t1 + c2) (by omega) (by omega) (by omega), u4 (1105 + 8 * t1 + c2) (by omega) (by omega) (by omega)]
              exact hJ.1 r hr t1 h1 ho c2 hc2
          · by_cases e : t1 = t ∧ c2 = c
            · obtain ⟨rfl, rfl⟩ := e
              exact ⟨kd, hkd, u2⟩
            · rw [u4 (1081 + 8 * t1 + c2) (by omega) (by omega) (by omega)] at hl2
              rw [u4 (1105 + 8 * t1 + c2) (by omega) (by omega) (by omega)]
              exact hJ.2.1 t1 h1 c2 hc2 hl2
          · rw [u4 (1156 + t1) (by omega) (by omega) (by omega)]
            exact hJ.2.2 t1 h1
        exact so_val hA hJ hp e r1 hW hJ3 (Or.inr ⟨m1_le (by omega), rfs_eq (fun i h1 h2 => u4 i (by omega) (by omega) (by omega))⟩) trivial
      · refine so_refuse hA hJ hp ht 4 (by decide) e5 rfl (fun m3 z => ?_) trivial
        rw [pF]
        simp (discharger := omega) only [J_X3_mean_28, p_req1, e1, e2, hs2, fm, f4, hlt, fc, k1, z, bd_e, bo_e, bm_e, bts_l, bts_r, btm_l, btm_r, bp_lt, ck_ib, ck_z, ck_o, ifT, ifF, n10, n01, pv_v, if_pos, if_neg, zI_nat, zI_add, zI_mul, zI_addl, zI_laddl, zI_mull, zI_lmul, zI_subl, zI_pred, zI_le, zI_lt, zI_eq, zI_lel, zI_lle, zI_ltl, zI_llt, zI_eql, zI_leq, zI_ne1, zI_1ne]
    · rw [hc] at fc
      have c1 : ¬ zI c = -1 := fun e => by rw [zI_ne1 (by omega)] at e; exact e
      refine so_refuse hA hJ hp ht 3 (by decide) e5 rfl (fun m3 z => ?_) trivial
      rw [pF]
      simp (discharger := omega) only [J_X3_mean_28, p_req1, e1, e2, hs2, fm, f4, hlt, fc, c1, z, bd_e, bo_e, bm_e, bts_l, bts_r, btm_l, btm_r, bp_lt, ck_ib, ck_z, ck_o, ifT, ifF, n10, n01, pv_v, if_pos, if_neg, zI_nat, zI_add, zI_mul, zI_addl, zI_laddl, zI_mull, zI_lmul, zI_subl, zI_pred, zI_le, zI_lt, zI_eq, zI_lel, zI_lle, zI_ltl, zI_llt, zI_eql, zI_leq, zI_ne1, zI_1ne]
  · refine so_refuse hA hJ hp ht 1 (by decide) e5 rfl (fun m3 z => ?_) trivial
    rw [pF]
    simp (discharger := omega) only [J_X3_mean_28, p_req1, e1, e2, hs2, fm, f4, hlt, z, bd_e, bo_e, bm_e, bts_l, bts_r, btm_l, btm_r, bp_lt, ck_ib, ck_z, ck_o, ifT, ifF, n10, n01, pv_v, if_pos, if_neg, zI_nat, zI_add, zI_mul, zI_addl, zI_laddl, zI_mull, zI_lmul, zI_subl, zI_pred, zI_le, zI_lt, zI_eq, zI_lel, zI_lle, zI_ltl, zI_llt, zI_eql, zI_leq, zI_ne1, zI_1ne]
theorem s_index (h : IS mi w n T k pa nn TT L tx) (ht : t < 3) (hl : l < 8) : SOut (F_X3_index (zI t) (zI l) mi) (fun _ _ _ => True) w n T k pa nn TT L tx := by
  obtain ⟨hP, hA, hJ, hp⟩ := h
  have hkk := svK_le hA.2.1
  obtain ⟨i1, i2, i3, i4, i5, i6, i7, i8, i9, i10, i11, i12⟩ := id hA.1
  obtain ⟨q5, m2, e1, e2, e3, e4, e5, e6, e7, e8⟩ := p_save hP hA.2.1 i9 i7
  have hs2 := e5.1 6 (by omega)
  have ql : zI l ≠ -1 := fun e => by rw [zI_ne1 (by omega)] at e; exact e
  have fc := p_columnOf e5.2.2.2.1 i5 ht ql
  have pF : F_X3_index (zI t) (zI l) mi = J_X3_index_19 (zI t) (zI l) mi 1 := by
    simp (discharger := omega) only [F_X3_index, p_isT ht, p_isL hl, bd_e, bo_e, bm_e, bts_l, bts_r, btm_l, btm_r, bp_lt, ck_ib, ck_z, ck_o, ifT, ifF, n10, n01, pv_v, if_pos, if_neg, zI_nat, zI_add, zI_mul, zI_addl, zI_laddl, zI_mull, zI_lmul, zI_subl, zI_pred, zI_le, zI_lt, zI_eq, zI_lel, zI_lle, zI_ltl, zI_llt, zI_eql, zI_leq, zI_ne1, zI_1ne]
  rcases cO_cases w t (zI l) with ⟨hn, hc⟩ | ⟨c, hc8, hc, hcv⟩
  · rw [hc] at fc
    refine so_refuse hA hJ hp ht 5 (by decide) e5 rfl (fun m3 z => ?_) trivial
    rw [pF]
    simp (discharger := omega) only [J_X3_index_19, p_req1, e1, e2, hs2, fc, z, bd_e, bo_e, bm_e, bts_l, bts_r, btm_l, btm_r, bp_lt, ck_ib, ck_z, ck_o, ifT, ifF, n10, n01, pv_v, if_pos, if_neg, zI_nat, zI_add, zI_mul, zI_addl, zI_laddl, zI_mull, zI_lmul, zI_subl, zI_pred, zI_le, zI_lt, zI_eq, zI_lel, zI_lle, zI_ltl, zI_llt, zI_eql, zI_leq, zI_ne1, zI_1ne]
  · rw [hc] at fc
    have c1 : ¬ zI c = -1 := fun e => by rw [zI_ne1 (by omega)] at e; exact e
    have fx := (e5.2.2.2.1.2.2.2.2.2.1 t ht c hc8).2.1
    have fin : ∀ v : Int32, (v = 0 ∨ v = 1) → F_X3_index (zI t) (zI l) mi = some (.inl v, wI m2 (2, m2.2.1 6, t, 3) c v) → SOut (F_X3_index (zI t) (zI l) mi) (fun _ _ _ => True) w n T k pa nn TT L tx := by
      intro v hv e
      obtain ⟨r1, r2⟩ := e5.step hkk.1 (frt_wI (wr2 _ _ _) m2 c v) (sr_idx e5.2.2.2.1 ht hc8 v)
      have hW : WI (upd w (1129 + 8 * t + c) v) n T := wi_cell hA.1 ht hc8 (Or.inr ⟨⟨l, hl, by rw [upd_ne _ (by omega)]; exact hcv⟩, fun c2 h2 h3 h4 => h3 (i5 t ht c2 h2 c hc8 (by rw [h4, upd_ne _ (by omega)]) (by rw [h4, upd_ne _ (by omega), hcv]; exact ql))⟩) (by rw [upd_eq]; exact hv) (fun i _ _ d => upd_ne _ d _)
      exact so_val hA hJ hp e r1 hW (jv_low hJ (fun i hi => upd_ne _ (by omega) _)) (Or.inr ⟨by rcases hv with rfl | rfl <;> decide, rfs_eq (fun i h1 h2 => upd_ne _ (by omega) _)⟩) trivial
    rcases i9 t ht c hc8 with hx | hx
    · rw [hx] at fx
      refine fin 1 (Or.inr rfl) ?_
      rw [pF]
      simp (discharger := omega) only [J_X3_index_19, p_req1, e1, e2, hs2, fc, c1, fx, J_X3_index_77, wI_eq, upd_eq, p_asN, bd_e, bo_e, bm_e, bts_l, bts_r, btm_l, btm_r, bp_lt, ck_ib, ck_z, ck_o, ifT, ifF, n10, n01, pv_v, if_pos, if_neg, zI_nat, zI_add, zI_mul, zI_addl, zI_laddl, zI_mull, zI_lmul, zI_subl, zI_pred, zI_le, zI_lt, zI_eq, zI_lel, zI_lle, zI_ltl, zI_llt, zI_eql, zI_leq, zI_ne1, zI_1ne]
    · rw [hx] at fx
      refine fin 0 (Or.inl rfl) ?_
      rw [pF]
      simp (discharger := omega) only [J_X3_index_19, p_req1, e1, e2, hs2, fc, c1, fx, J_X3_index_77, wI_eq, upd_eq, p_asN, bd_e, bo_e, bm_e, bts_l, bts_r, btm_l, btm_r, bp_lt, ck_ib, ck_z, ck_o, ifT, ifF, n10, n01, pv_v, if_pos, if_neg, zI_nat, zI_add, zI_mul, zI_addl, zI_laddl, zI_mull, zI_lmul, zI_subl, zI_pred, zI_le, zI_lt, zI_eq, zI_lel, zI_lle, zI_ltl, zI_llt, zI_eql, zI_leq, zI_ne1, zI_1ne]
theorem ftK_01 (kd v : Int32) : ftK kd v = 0 ∨ ftK kd v = 1 := by
  unfold ftK
  by_cases h0 : kd = 0
  · rw [if_pos h0]; exact ite3
  · rw [if_neg h0]
    by_cases h1 : kd = 1
    · rw [if_pos h1]; exact ite3
    · rw [if_neg h1]; exact ite3
theorem s_put (h : IS mi w n T k pa nn TT L tx) (hr : r < n) (hl : l < 8) {v : Int32} (hv1 : ¬ v < -9999) (hv2 : ¬ 9999 < v) : SOut (F_X3_put (zI r) (zI l) v mi) (fun _ _ n2 => n2 = n) w n T k pa nn TT L tx := by
  obtain ⟨hP, hA, hJ, hp⟩ := h
  have hs := hP.1 6 (by omega)
  have hreq := p_reqRow hP.2.2.2.1 hs hr
  have hvk : vok v := Or.inr ⟨Int32.not_lt.mp hv1, Int32.not_lt.mp hv2⟩
  have hvp : v = pv v := by
    unfold pv
    rw [if_neg (fun e => by rw [e] at hv1; exact hv1 (by decide))]
  have hkk := svK_le hA.2.1
  obtain ⟨i1, i2, i3, i4, i5, i6, i7, i8, i9, i10, i11, i12⟩ := id hA.1
  obtain ⟨q5, m2, e1, e2, e3, e4, e5, e6, e7, e8⟩ := p_save hP hA.2.1 i9 i7
  have hs2 := e5.1 6 (by omega)
  have ql : zI l ≠ -1 := fun e => by rw [zI_ne1 (by omega)] at e; exact e
  obtain ⟨t, ht, how⟩ := i3 r hr
  have fo := p_owner e5.2.2.2.1 hr ht how
  have fc := p_columnOf e5.2.2.2.1 i5 ht ql
  have pF : F_X3_put (zI r) (zI l) v mi = J_X3_put_31 (zI r) (zI l) v mi 1 := by
    simp (discharger := omega) only [F_X3_put, hreq, p_isL hl, hv1, hv2, bd_e, bo_e, bm_e, bts_l, bts_r, btm_l, btm_r, bp_lt, ck_ib, ck_z, ck_o, ifT, ifF, n10, n01, pv_v, if_pos, if_neg, zI_nat, zI_add, zI_mul, zI_addl, zI_laddl, zI_mull, zI_lmul, zI_subl, zI_pred, zI_le, zI_lt, zI_eq, zI_lel, zI_lle, zI_ltl, zI_llt, zI_eql, zI_leq, zI_ne1, zI_1ne]
  rcases cO_cases w t (zI l) with ⟨hn, hc⟩ | ⟨c, hc8, hc, hcv⟩
  · rw [hc] at fc
    refine so_refuse hA hJ hp ht 5 (by decide) e5 rfl (fun m3 z => ?_) rfl
    rw [pF]
    simp (discharger := omega) only [J_X3_put_31, p_req1, e1, e2, hs2, fo, fc, z, bd_e, bo_e, bm_e, bts_l, bts_r, btm_l, btm_r, bp_lt, ck_ib, ck_z, ck_o, ifT, ifF, n10, n01, pv_v, if_pos, if_neg, zI_nat, zI_add, zI_mul, zI_addl, zI_laddl, zI_mull, zI_lmul, zI_subl, zI_pred, zI_le, zI_lt, zI_eq, zI_lel, zI_lle, zI_ltl, zI_llt, zI_eql, zI_leq, zI_ne1, zI_1ne]
  · rw [hc] at fc
    have c1 : ¬ zI c = -1 := fun e => by rw [zI_ne1 (by omega)] at e; exact e
    have fk := (e5.2.2.2.1.2.2.2.2.2.1 t ht c hc8).2.2 (by rw [hcv]; exact ql)
    have ff := p_fits (w (1105 + 8 * t + c)) v m2
    by_cases hft : ftK (w (1105 + 8 * t + c)) v = 0
    · refine so_refuse hA hJ hp ht 6 (by decide) e5 rfl (fun m3 z => ?_) rfl
      rw [pF]
      simp (discharger := omega) only [J_X3_put_31, p_req1, e1, e2, hs2, fo, fc, c1, fk, ff, hft, z, bd_e, bo_e, bm_e, bts_l, bts_r, btm_l, btm_r, bp_lt, ck_ib, ck_z, ck_o, ifT, ifF, n10, n01, pv_v, if_pos, if_neg, zI_nat, zI_add, zI_mul, zI_addl, zI_laddl, zI_mull, zI_lmul, zI_subl, zI_pred, zI_le, zI_lt, zI_eq, zI_lel, zI_lle, zI_ltl, zI_llt, zI_eql, zI_leq, zI_ne1, zI_1ne]
    · have fv := p_valueAt e5.2.2.2.1 hr hc8
      have fn := pv_no (vok_no (i4 r hr c hc8))
      have fs := p_setV e5.2.2.2.1 hr hc8 v
      obtain ⟨r1, r2⟩ := e5.step hkk.1 (frt_wI (wr1 _ _ _) m2 (r * 8 + c) v) (sr_val e5.2.2.2.1 hr hc8 hvp)
      have hW : WI (upd w (9 * r + 1 + c) v) n T := wi_vs hA.1 (fun q hq => upd_ne _ (by omega) _) (fun i h1 _ => upd_ne _ (by omega) _) (fun q hq c2 hc2 => by
        unfold upd
        by_cases e : 9 * q + 1 + c2 = 9 * r + 1 + c
        · rw [if_pos e]; exact hvk
        · rw [if_neg e]; exact i4 q hq c2 hc2)
      have hJ2 : JV (upd w (9 * r + 1 + c) v) n := by
        refine ⟨fun q hq t1 h1 ho c2 hc2 => ?_, fun t1 h1 c2 hc2 hl2 => ?_, fun t1 h1 => ?_⟩
        · rw [upd_ne _ (by omega)] at ho
          rw [upd_ne (j := 1081 + 8 * t1 + c2) _ (by omega), upd_ne (j := 1105 + 8 * t1 + c2) _ (by omega)]
          by_cases e : 9 * q + 1 + c2 = 9 * r + 1 + c
          · have e1 : q = r := by omega
            have e2 : c2 = c := by omega
            subst e1
            subst e2
            rw [how, zI_eq (by omega) (by omega)] at ho
            subst ho
            rw [upd_eq]
            exact Or.inr ⟨by rw [hcv]; exact ql, (ftK_01 _ _).resolve_left hft⟩
          · rw [upd_ne _ e]
            exact hJ.1 q hq t1 h1 ho c2 hc2
        · rw [upd_ne _ (by omega)] at hl2
          rw [upd_ne _ (by omega)]
          exact hJ.2.1 t1 h1 c2 hc2 hl2
        · rw [upd_ne _ (by omega)]
          exact hJ.2.2 t1 h1
      have fin : ∀ d : Int32, (d = 0 ∨ d = 1) → F_X3_put (zI r) (zI l) v mi = some (.inl d, wI m2 (1, m2.2.1 6, 0, 3) (r * 8 + c) v) → SOut (F_X3_put (zI r) (zI l) v mi) (fun _ _ n2 => n2 = n) w n T k pa nn TT L tx := by
        intro d hd e
        exact so_val hA hJ hp e r1 hW hJ2 (Or.inr ⟨by rcases hd with rfl | rfl <;> decide, rfs_eq (fun i h1 h2 => upd_ne _ (by omega) _)⟩) rfl
      by_cases hw : w (9 * r + 1 + c) = -100000
      · refine fin 0 (Or.inl rfl) ?_
        rw [pF]
        simp (discharger := omega) only [J_X3_put_31, p_req1, e1, e2, hs2, fo, fc, c1, fk, ff, hft, fv, fn, hw, J_X3_put_113, fs, p_asN, bd_e, bo_e, bm_e, bts_l, bts_r, btm_l, btm_r, bp_lt, ck_ib, ck_z, ck_o, ifT, ifF, n10, n01, pv_v, if_pos, if_neg, zI_nat, zI_add, zI_mul, zI_addl, zI_laddl, zI_mull, zI_lmul, zI_subl, zI_pred, zI_le, zI_lt, zI_eq, zI_lel, zI_lle, zI_ltl, zI_llt, zI_eql, zI_leq, zI_ne1, zI_1ne]
      · refine fin 1 (Or.inr rfl) ?_
        rw [pF]
        simp (discharger := omega) only [J_X3_put_31, p_req1, e1, e2, hs2, fo, fc, c1, fk, ff, hft, fv, fn, hw, J_X3_put_113, fs, p_asN, bd_e, bo_e, bm_e, bts_l, bts_r, btm_l, btm_r, bp_lt, ck_ib, ck_z, ck_o, ifT, ifF, n10, n01, pv_v, if_pos, if_neg, zI_nat, zI_add, zI_mul, zI_addl, zI_laddl, zI_mull, zI_lmul, zI_subl, zI_pred, zI_le, zI_lt, zI_eq, zI_lel, zI_lle, zI_ltl, zI_llt, zI_eql, zI_leq, zI_ne1, zI_1ne]
end RB
