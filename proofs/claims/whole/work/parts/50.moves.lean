/-! move -/
section QT
variable {m m2 mi x : Mem} {n k L T s q t r : Nat} {w w2 v tx : Nat → Int32} {pa : Nat → Nat → Int32} {nn TT : Nat → Nat}
theorem own_cn (w : Nat → Int32) (n t : Nat) : rwsOf w n t = zI (cn (fun r => decide (w (9 * r) = zI t)) n) := by
  unfold rwsOf
  refine sg_cn (fun r hr => ?_)
  by_cases e : w (9 * r) = zI t
  · rw [if_pos e, decide_eq_true e]; rfl
  · rw [if_neg e, decide_eq_false e]; rfl
theorem call_move (h : St mi) (p : Int32) : CallOK (F_L_move p mi) (fun m' => F_X4_move p m') := by
  obtain ⟨w, n, T, k, pa, nn, TT, L, tx, hP, hM, hA⟩ := h
  rcases rng3 p with ⟨t, ht, rfl⟩ | hp
  · have hkk := svK_le hA.2.1
    obtain ⟨i1, i2, i3, i4, i5, i6, i7, i8, i9, i10, i11, i12, i13⟩ := id hA.1
    obtain ⟨q5, m2, e1, e2, e3, e4, e5, e6, e7, e8⟩ := p_save hP hA.2.1 i9 i7
    have hs2 := e5.1 6 (by omega)
    have q5s : q5 ≠ m2.2.1 6 := by rw [e4]; exact e3
    have f5 := (e5.2.2.2.1.2.2.2.2.2.2.1 t ht).2.2.1
    have fr := p_rowsOf2 e5.2.2.2.1 ht
    have ftr := p_tableRows e5.2.2.2.1 i7
    have hT := inTb_T i3 i7 i8
    have fin : ∀ b : Int32, (b = 0 ∨ b = 1) → 1 - w (1159 + t) = b → cn (fun r => decide (mvd (upd w (1159 + t) b) r = 0)) n ≤ 40 → F_X3_move (zI t) mi = J_X3_move_69 q5 m2 (m2.2.1 6) t b → (∀ m' x2, F_X4_saves (wI m' (3, 0, 0, 0) 6 0) = some ((), x2) → MRel x2 w (svK k) (svF k pa w) L tx → F_X4_move (zI t) m' = J_X4_move_58 (zI t) x2) → CallOK (F_L_move (zI t) mi) (fun m' => F_X4_move (zI t) m') := by
      intro b hb h1 hT2 hF hG
      obtain ⟨v, hv⟩ : ∃ v, v = upd w (1159 + t) b := ⟨_, rfl⟩
      rw [← hv] at hT2
      have vr : ∀ i, i < 9 * n → v i = w i := fun i hi => by rw [hv, upd_ne _ (by omega)]
      have vh : ∀ i, i ≠ 1159 + t → v i = w i := fun i hi => by rw [hv, upd_ne _ hi]
      have vb : v (1159 + t) = b := by rw [hv, upd_eq]
      obtain ⟨m11, hm11⟩ : ∃ m11, m11 = wI m2 (2, m2.2.1 6, t, 0) 5 b := ⟨_, rfl⟩
      have F11 : FrT (m2.2.1 6) m2 m11 := by rw [hm11]; exact frt_wI (wr2 _ _ _) m2 5 b
      have S11 : SR m11.1 (m2.2.1 6) v n := by rw [hm11, hv]; exact sr_field e5.2.2.2.1 ht (j := 5) (by omega) (by omega) b
      have B11 : SR m11.1 q5 w n := sr_frt e7 F11 q5s
      have s11 : m11.2.1 6 = m2.2.1 6 := by rw [F11.2]
      obtain ⟨m13, o1, o2, o3, o4⟩ := p_order S11 B11 q5s vr
      have oV : OW v n := fun r hr => by rw [vr _ (by omega)]; exact i3 r hr
      have hlen : (slp (cls v) n 4).length = n := slp4_len (fun r hr => cls_lt oV hr)
      have mV : MV v := fun t2 ht2 => by
        by_cases e : t2 = t
        · rw [e, vb]; exact hb
        · rw [vh _ (by omega)]; exact i7 t2 ht2
      have c5 : m13.1 (2, m2.2.1 6, t, 0) 5 = b := by rw [o3, hm11, wI_eq, upd_eq]
      have e : F_X3_move (zI t) mi = some (.inl b, m13) := by
        rw [hF]
        unfold J_X3_move_69
        rw [ck_b hb, bd_e, ← hm11, s11, bp_lt hs2, o1, bm_someU, bd_e, c5, p_asN, bo_e, asN01 hb]
      obtain ⟨r1, r2⟩ := e5.step hkk.1 (F11.tr o2) o4
      have hso : ∀ i j, i < j → j < (slp (cls v) n 4).length → cls v (gt0 (slp (cls v) n 4) i) ≤ cls v (gt0 (slp (cls v) n 4) j) := by
        intro i j hij hj
        have h2 := List.pairwise_iff_getElem.mp (slp_sorted (cls v) n 4) i j (by omega) hj hij
        unfold gt0
        rw [List.getD_eq_getElem?_getD, List.getElem?_eq_getElem (by omega), List.getD_eq_getElem?_getD, List.getElem?_eq_getElem hj]
        exact h2
      obtain ⟨T2, hW⟩ := wi_list (l := slp (cls v) n 4) oV (fun r hr c hc => by rw [vr _ (by omega)]; exact i4 r hr c hc) (fun t1 h1 c hc c2 hc2 => by
          rw [vh (1081 + 8 * t1 + c) (by omega), vh (1081 + 8 * t1 + c2) (by omega)]; exact i5 t1 h1 c hc c2 hc2) (fun t1 h1 c hc => by rw [vh _ (by omega)]; exact i6 t1 h1 c hc) mV (fun t1 h1 c hc => by rw [vh _ (by omega)]; exact i9 t1 h1 c hc) (fun t1 h1 => by rw [vh _ (by omega)]; exact i10 t1 h1) (by omega) (fun i hi => (slp_mem (gt0_mem hi)).1) hso (fun t1 h1 => by
          rw [slp4 (fun r hr => cls_lt oV hr)]
          have h2 := rt_cn hA.1 h1
          rw [cn_range] at h2
          rw [cn_congr (q := fun r => decide (w (9 * r) = zI t1)) (fun r hr => by rw [vr _ (by omega)])]
          exact h2) (by rw [slp4 (fun r hr => cls_lt oV hr)]; exact hT2)
      refine ok_val hM e r1 (frp_tr e6 r2) (ainv_w hA.saved hW) (fun m' hm => ?_)
      obtain ⟨x2, u1, u2, u3, u4⟩ := m_pre hm hA.2.1
      have g1 := u2.1
      have M1 := mrel_1 u2 (1159 + t) b
      rw [← hv] at M1
      obtain ⟨x3, w3, z1, z2, z3, z4, z5, z6⟩ := m_sorts M1 i1 (by rw [vh _ (by omega)]; exact i2) oV mV
      have z7 : w3 (1159 + t) = b := by rw [z6 _ (by omega), vb]
      have gz := z2.1
      have e9 : F_X4_move (zI t) m' = some (b, x3) := by
        rw [hG m' x2 u1 u2]
        simp (discharger := omega) only [J_X4_move_58, g1, h1, z1, gz, z7, bd_e, bo_e, bm_e, bts_l, bts_r, btm_l, btm_r, bp_lt, ck_ib, ck_z, ck_o, ifT, ifF, n10, n01, pv_v, if_pos, if_neg, zI_nat, zI_add, zI_mul, zI_addl, zI_laddl, zI_mull, zI_lmul, zI_subl, zI_pred, zI_le, zI_lt, zI_eq, zI_lel, zI_lle, zI_ltl, zI_llt, zI_eql, zI_leq, zI_ne1, zI_1ne]
      rw [e9]
      refine ⟨x3, w3, rfl, z2, by rw [hlen]; exact z3, frm_tr u3 (frm_tr (frm_wI rfl _ _ _) z4), ?_⟩
      rw [z5, wI_ne (by decide)]; exact u4
    rcases i7 t ht with hv | hv
    · refine fin 1 (Or.inr rfl) (by rw [hv]; rfl) ?_ ?_ (fun m' x2 o1 o2 => ?_)
      · refine Nat.le_trans (cn_mono (q := fun r => decide (mvd w r = 0)) (fun r hr h => ?_)) (by rw [t_cn hA.1]; exact i12)
        rw [decide_eq_true_eq] at h ⊢
        obtain ⟨t2, ht2, how⟩ := i3 r hr
        rw [mvd_of ht2 (by rw [upd_ne _ (by omega)]; exact how)] at h
        rw [mvd_of ht2 how]
        by_cases e : t2 = t
        · rw [e, upd_eq] at h; exact absurd h (by decide)
        · rw [upd_ne _ (by omega)] at h; exact h
      · rw [hv] at f5
        simp (discharger := omega) only [F_X3_move, p_isT ht, p_req1, e1, e2, hs2, f5, J_X3_move_56, bd_e, bo_e, bm_e, bts_l, bts_r, btm_l, btm_r, bp_lt, ck_ib, ck_z, ck_o, ifT, ifF, n10, n01, pv_v, if_pos, if_neg, zI_nat, zI_add, zI_mul, zI_addl, zI_laddl, zI_mull, zI_lmul, zI_subl, zI_pred, zI_le, zI_lt, zI_eq, zI_lel, zI_lle, zI_ltl, zI_llt, zI_eql, zI_leq, zI_ne1, zI_1ne]
      · have g1 := o2.1
        simp (discharger := omega) only [F_X4_move, m_isT ht, o1, g1, hv, bd_e, bo_e, bm_e, bts_l, bts_r, btm_l, btm_r, bp_lt, ck_ib, ck_z, ck_o, ifT, ifF, n10, n01, pv_v, if_pos, if_neg, zI_nat, zI_add, zI_mul, zI_addl, zI_laddl, zI_mull, zI_lmul, zI_subl, zI_pred, zI_le, zI_lt, zI_eq, zI_lel, zI_lle, zI_ltl, zI_llt, zI_eql, zI_leq, zI_ne1, zI_1ne]
    · have hcl := cn_le (fun r => decide (w (9 * r) = zI t)) n
      by_cases hle : T + cn (fun r => decide (w (9 * r) = zI t)) n ≤ 40
      · have hle' : inTb w n + rwsOf w n t ≤ 40 := by
          rw [hT, own_cn, zI_add]
          show _ ≤ zI 40
          rw [zI_le (by omega) (by omega)]; exact hle
        refine fin 0 (Or.inl rfl) (by rw [hv]; rfl) ?_ ?_ (fun m' x2 o1 o2 => ?_)
        · refine Nat.le_trans (cn_or (q := fun r => decide (mvd w r = 0)) (r := fun r => decide (w (9 * r) = zI t)) (fun r hr h => ?_)) (by rw [t_cn hA.1]; exact hle)
          rw [decide_eq_true_eq] at h ⊢
          rw [decide_eq_true_eq]
          obtain ⟨t2, ht2, how⟩ := i3 r hr
          by_cases e : t2 = t
          · rw [e] at how; exact Or.inr how
          · refine Or.inl ?_
            rw [mvd_of ht2 (by rw [upd_ne _ (by omega)]; exact how), upd_ne _ (by omega)] at h
            rw [mvd_of ht2 how]; exact h
        · rw [hv] at f5
          simp (discharger := omega) only [F_X3_move, p_isT ht, p_req1, e1, e2, hs2, f5, ftr, fr, hle', J_X3_move_56, bd_e, bo_e, bm_e, bts_l, bts_r, btm_l, btm_r, bp_lt, ck_ib, ck_z, ck_o, ifT, ifF, n10, n01, pv_v, if_pos, if_neg, zI_nat, zI_add, zI_mul, zI_addl, zI_laddl, zI_mull, zI_lmul, zI_subl, zI_pred, zI_le, zI_lt, zI_eq, zI_lel, zI_lle, zI_ltl, zI_llt, zI_eql, zI_leq, zI_ne1, zI_1ne]
        · have g1 := o2.1
          have a1 := m_inTable (mw_of o2 hA.1)
          have a2 := m_rowsOf (mw_of o2 hA.1) t
          simp (discharger := omega) only [F_X4_move, m_isT ht, o1, g1, hv, a1, a2, hle', bd_e, bo_e, bm_e, bts_l, bts_r, btm_l, btm_r, bp_lt, ck_ib, ck_z, ck_o, ifT, ifF, n10, n01, pv_v, if_pos, if_neg, zI_nat, zI_add, zI_mul, zI_addl, zI_laddl, zI_mull, zI_lmul, zI_subl, zI_pred, zI_le, zI_lt, zI_eq, zI_lel, zI_lle, zI_ltl, zI_llt, zI_eql, zI_leq, zI_ne1, zI_1ne]
      · have hle' : ¬ inTb w n + rwsOf w n t ≤ 40 := by
          rw [hT, own_cn, zI_add]
          show ¬ _ ≤ zI 40
          rw [zI_le (by omega) (by omega)]; exact hle
        refine ok_refuse hM hA ht 2 e5 e6 rfl (fun m3 z => ?_) (fun m' x2 o1 o2 => ?_)
        · rw [hv] at f5
          simp (discharger := omega) only [F_X3_move, p_isT ht, p_req1, e1, e2, hs2, f5, ftr, fr, hle', z, bd_e, bo_e, bm_e, bts_l, bts_r, btm_l, btm_r, bp_lt, ck_ib, ck_z, ck_o, ifT, ifF, n10, n01, pv_v, if_pos, if_neg, zI_nat, zI_add, zI_mul, zI_addl, zI_laddl, zI_mull, zI_lmul, zI_subl, zI_pred, zI_le, zI_lt, zI_eq, zI_lel, zI_lle, zI_ltl, zI_llt, zI_eql, zI_leq, zI_ne1, zI_1ne]
        · have g1 := o2.1
          have a1 := m_inTable (mw_of o2 hA.1)
          have a2 := m_rowsOf (mw_of o2 hA.1) t
          have z := (m_refuse o2 ht 2).1
          simp (discharger := omega) only [F_X4_move, m_isT ht, o1, g1, hv, a1, a2, hle', z, bd_e, bo_e, bm_e, bts_l, bts_r, btm_l, btm_r, bp_lt, ck_ib, ck_z, ck_o, ifT, ifF, n10, n01, pv_v, if_pos, if_neg, zI_nat, zI_add, zI_mul, zI_addl, zI_laddl, zI_mull, zI_lmul, zI_subl, zI_pred, zI_le, zI_lt, zI_eq, zI_lel, zI_lle, zI_ltl, zI_llt, zI_eql, zI_leq, zI_ne1, zI_1ne]
  · refine ok_err (c := 0) (code := 1) (m1 := mi) hM (by simp (discharger := omega) only [F_X3_move, p_isT0' hp, p_req0, bd_e, bo_e, bm_e, bts_l, bts_r, btm_l, btm_r, bp_lt, ck_ib, ck_z, ck_o, ifT, ifF, n10, n01, pv_v, if_pos, if_neg, zI_nat, zI_add, zI_mul, zI_addl, zI_laddl, zI_mull, zI_lmul, zI_subl, zI_pred, zI_le, zI_lt, zI_eq, zI_lel, zI_lle, zI_ltl, zI_llt, zI_eql, zI_leq, zI_ne1, zI_1ne]) rfl (by decide) hP (frp_rf _) hA (v' := 0) (fun m' hm => ?_)
    have e2 : F_X4_move p m' = some (0, wI (wI m' (3, 0, 0, 0) 6 0) (3, 0, 0, 0) 6 1) := by
      simp (discharger := omega) only [F_X4_move, m_isT0 hp, m_fails, bd_e, bo_e, bm_e, bts_l, bts_r, btm_l, btm_r, bp_lt, ck_ib, ck_z, ck_o, ifT, ifF, n10, n01, pv_v, if_pos, if_neg, zI_nat, zI_add, zI_mul, zI_addl, zI_laddl, zI_mull, zI_lmul, zI_subl, zI_pred, zI_le, zI_lt, zI_eq, zI_lel, zI_lle, zI_ltl, zI_llt, zI_eql, zI_leq, zI_ne1, zI_1ne]
    rw [e2]
    exact mok_fail hm 1
end QT
