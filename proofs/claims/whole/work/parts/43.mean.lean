/-! mean, index, put -/
section QM1
variable {m m2 mi x : Mem} {n k L T s t c : Nat} {w w2 tx : Nat → Int32} {pa : Nat → Nat → Int32} {nn TT : Nat → Nat} {a b v : Int32}
def defM (m : Mem) (s t c : Nat) (a b v : Int32) : Mem := wI (wI (wI m (2, s, t, 1) c a) (2, s, t, 2) c b) (2, s, t, 3) c v
theorem sr_def (h : SR m.1 s w n) (ht : t < 3) (hc : c < 8) (ha : w2 (1081 + 8 * t + c) = a) (hv : w2 (1129 + 8 * t + c) = v) (hb : a ≠ -1 → w2 (1105 + 8 * t + c) = b) (hw : ∀ i, i ≠ 1081 + 8 * t + c → i ≠ 1105 + 8 * t + c → i ≠ 1129 + 8 * t + c → w2 i = w i) : SR (defM m s t c a b v).1 s w2 n := by
  obtain ⟨a1, a2, a3, a4, a5, a6, a7, a8⟩ := h
  have e1 : ∀ p q r, (defM m s t c a b v).1 (1, p, q, r) = m.1 (1, p, q, r) := fun p q r => by
    unfold defM
    rw [wI_ne lb12_ne, wI_ne lb12_ne, wI_ne lb12_ne]
  have e0 : ∀ t2, (defM m s t c a b v).1 (2, s, t2, 0) = m.1 (2, s, t2, 0) := fun t2 => by
    unfold defM
    rw [wI_ne (lb2_ne (Or.inr (by decide))), wI_ne (lb2_ne (Or.inr (by decide))), wI_ne (lb2_ne (Or.inr (by decide)))]
  have et : ∀ t2 j, t2 ≠ t → (defM m s t c a b v).1 (2, s, t2, j) = m.1 (2, s, t2, j) := fun t2 j hj => by
    unfold defM
    rw [wI_ne (lb2_ne (Or.inl hj)), wI_ne (lb2_ne (Or.inl hj)), wI_ne (lb2_ne (Or.inl hj))]
  have d1 : (defM m s t c a b v).1 (2, s, t, 1) = upd (m.1 (2, s, t, 1)) c a := by
    unfold defM
    rw [wI_ne (lb2_ne (Or.inr (by decide))), wI_ne (lb2_ne (Or.inr (by decide))), wI_eq]
  have d2 : (defM m s t c a b v).1 (2, s, t, 2) = upd (m.1 (2, s, t, 2)) c b := by
    unfold defM
    rw [wI_ne (lb2_ne (Or.inr (by decide))), wI_eq, wI_ne (lb2_ne (Or.inr (by decide)))]
  have d3 : (defM m s t c a b v).1 (2, s, t, 3) = upd (m.1 (2, s, t, 3)) c v := by
    unfold defM
    rw [wI_eq, wI_ne (lb2_ne (Or.inr (by decide))), wI_ne (lb2_ne (Or.inr (by decide)))]
  refine ⟨a1, by rw [hw _ (by omega) (by omega) (by omega)]; exact a2, by rw [e1]; exact a3, fun r hr => by rw [e1, hw _ (by omega) (by omega) (by omega)]; exact a4 r hr, fun r hr c hc => by rw [e1, hw _ (by omega) (by omega) (by omega)]; exact a5 r hr c hc, fun t2 ht2 c2 hc2 => ?_, fun t2 ht2 => ?_, fun r hr => by rw [hw _ (by omega) (by omega) (by omega)]; exact a8 r hr⟩
  · by_cases e : t2 = t
    · subst e
      rw [d1, d2, d3]
      by_cases e2 : c2 = c
      · subst e2
        rw [upd_eq, upd_eq, upd_eq, ha, hv]
        exact ⟨rfl, rfl, fun h => (hb h).symm⟩
      · rw [upd_ne _ e2, upd_ne _ e2, upd_ne _ e2, hw _ (by omega) (by omega) (by omega), hw _ (by omega) (by omega) (by omega), hw _ (by omega) (by omega) (by omega)]
        exact a6 t2 ht2 c2 hc2
    · rw [et _ _ e, et _ _ e, et _ _ e, hw _ (by omega) (by omega) (by omega), hw _ (by omega) (by omega) (by omega), hw _ (by omega) (by omega) (by omega)]
      exact a6 t2 ht2 c2 hc2
  · rw [e0, hw (1153 + t2) (by omega) (by omega) (by omega), hw (1156 + t2) (by omega) (by omega) (by omega), hw (1159 + t2) (by omega) (by omega) (by omega), hw (1162 + t2) (by omega) (by omega) (by omega), hw (1165 + t2) (by omega) (by omega) (by omega), hw (1168 + t2) (by omega) (by omega) (by omega), hw (1171 + t2) (by omega) (by omega) (by omega)]
    exact a7 t2 ht2
theorem frt_def (m : Mem) (s t c : Nat) (a b v : Int32) : FrT s m (defM m s t c a b v) := ((frt_wI (wr2 s t 1) m c a).tr (frt_wI (wr2 s t 2) _ c b)).tr (frt_wI (wr2 s t 3) _ c v)
theorem wi_cell (h : WI w n T) (ht : t < 3) (hc : c < 8) (ha : w2 (1081 + 8 * t + c) = -1 ∨ ((∃ l, l < 8 ∧ w2 (1081 + 8 * t + c) = zI l) ∧ ∀ c2, c2 < 8 → c2 ≠ c → w (1081 + 8 * t + c2) ≠ w2 (1081 + 8 * t + c))) (hv : w2 (1129 + 8 * t + c) = 0 ∨ w2 (1129 + 8 * t + c) = 1) (hw : ∀ i, i ≠ 1081 + 8 * t + c → i ≠ 1105 + 8 * t + c → i ≠ 1129 + 8 * t + c → w2 i = w i) : WI w2 n T := by
  obtain ⟨h1, h2, h3, h4, h5, h6, h7, h8, h9, h10, h11, h12, h13⟩ := id h
  refine wi_parts h ?_ ?_ ?_ ?_ (fun i hi => hw i (by omega) (by omega) (by omega))
  · intro t1 ht1 c1 hc1 c2 hc2 he hn
    by_cases e : t1 = t
    · subst e
      by_cases e1 : c1 = c
      · by_cases e2 : c2 = c
        · omega
        · subst e1
          rw [hw (1081 + 8 * t1 + c2) (by omega) (by omega) (by omega)] at he
          rcases ha with ha | ⟨-, ha⟩
          · exact absurd ha hn
          · exact absurd he.symm (ha c2 hc2 e2)
      · by_cases e2 : c2 = c
        · subst e2
          rw [hw (1081 + 8 * t1 + c1) (by omega) (by omega) (by omega)] at he hn
          rcases ha with ha | ⟨-, ha⟩
          · exact absurd (he.trans ha) hn
          · exact absurd he (ha c1 hc1 e1)
        · rw [hw (1081 + 8 * t1 + c1) (by omega) (by omega) (by omega)] at he hn
          rw [hw (1081 + 8 * t1 + c2) (by omega) (by omega) (by omega)] at he
          exact h5 t1 ht1 c1 hc1 c2 hc2 he hn
    · rw [hw (1081 + 8 * t1 + c1) (by omega) (by omega) (by omega)] at he hn
      rw [hw (1081 + 8 * t1 + c2) (by omega) (by omega) (by omega)] at he
      exact h5 t1 ht1 c1 hc1 c2 hc2 he hn
  · intro t1 ht1 c1 hc1
    by_cases e : t1 = t ∧ c1 = c
    · obtain ⟨rfl, rfl⟩ := e
      exact ha.imp id (fun h => h.1)
    · rw [hw _ (by omega) (by omega) (by omega)]
      exact h6 t1 ht1 c1 hc1
  · intro t1 ht1 c1 hc1
    by_cases e : t1 = t ∧ c1 = c
    · obtain ⟨rfl, rfl⟩ := e
      exact hv
    · rw [hw _ (by omega) (by omega) (by omega)]
      exact h9 t1 ht1 c1 hc1
  · intro t1 ht1
    rw [hw _ (by omega) (by omega) (by omega)]
    exact h10 t1 ht1
theorem p_spare (h : SR m.1 s w n) (ht : t < 3) : (∃ c, c < 8 ∧ F_X2_columnOf s t (-1) m = some (zI c) ∧ w (1081 + 8 * t + c) = -1 ∧ ∀ j, j < c → w (1081 + 8 * t + j) ≠ -1) ∨ (F_X2_columnOf s t (-1) m = some (-1) ∧ ∀ j, j < 8 → w (1081 + 8 * t + j) ≠ -1) := by
  obtain ⟨h1, h2, h3, h4, h5, h6, h7, h8⟩ := id h
  unfold F_X2_columnOf
  rw [← zI_zero]
  refine loop_ex (L := fun k (_ : Unit) i => L_X2_columnOf_2 s t (-1) m k i) (P := fun r _ => ∀ j, j < r → w (1081 + 8 * t + j) ≠ -1) (R := fun x => (∃ c, c < 8 ∧ x = some (zI c) ∧ w (1081 + 8 * t + c) = -1 ∧ ∀ j, j < c → w (1081 + 8 * t + j) ≠ -1) ∨ (x = some (-1) ∧ ∀ j, j < 8 → w (1081 + 8 * t + j) ≠ -1)) (n := 8) ?_ ?_ 8 0 fu () rfl (by rw [fu_eq]; omega) (fun j hj => absurd hj (Nat.not_lt_zero j))
  · intro k a r hr hp
    have e := (h6 t ht r hr).1
    by_cases hw : w (1081 + 8 * t + r) = -1
    · refine Or.inr (Or.inl ⟨r, hr, ?_, hw, hp⟩)
      simp (discharger := omega) only [L_X2_columnOf_2, e, hw, bd_e, bo_e, bm_e, bts_l, bts_r, btm_l, btm_r, bp_lt, ck_ib, ck_z, ck_o, ifT, ifF, n10, n01, pv_v, if_pos, if_neg, zI_nat, zI_add, zI_mul, zI_addl, zI_laddl, zI_mull, zI_lmul, zI_subl, zI_pred, zI_le, zI_lt, zI_eq, zI_lel, zI_lle, zI_ltl, zI_llt, zI_eql, zI_leq, zI_ne1, zI_1ne]
    · refine Or.inl ⟨(), fun j hj => ?_, ?_⟩
      · by_cases hj2 : j = r
        · rw [hj2]; exact hw
        · exact hp j (by omega)
      · simp (discharger := omega) only [L_X2_columnOf_2, e, hw, bd_e, bo_e, bm_e, bts_l, bts_r, btm_l, btm_r, bp_lt, ck_ib, ck_z, ck_o, ifT, ifF, n10, n01, pv_v, if_pos, if_neg, zI_nat, zI_add, zI_mul, zI_addl, zI_laddl, zI_mull, zI_lmul, zI_subl, zI_pred, zI_le, zI_lt, zI_eq, zI_lel, zI_lle, zI_ltl, zI_llt, zI_eql, zI_leq, zI_ne1, zI_1ne]
  · intro k a hp
    refine Or.inr ⟨?_, hp⟩
    simp (discharger := omega) only [L_X2_columnOf_2, C_X2_columnOf_26, Nat.le_refl, bd_e, bo_e, bm_e, bts_l, bts_r, btm_l, btm_r, bp_lt, ck_ib, ck_z, ck_o, ifT, ifF, n10, n01, pv_v, if_pos, if_neg, zI_nat, zI_add, zI_mul, zI_addl, zI_laddl, zI_mull, zI_lmul, zI_subl, zI_pred, zI_le, zI_lt, zI_eq, zI_lel, zI_lle, zI_ltl, zI_llt, zI_eql, zI_leq, zI_ne1, zI_1ne]
theorem m_spare (h : MW x w n) (ht : t < 3) (p q : Int32) {c : Nat} (hc : c ≤ 8) (h1 : ∀ j, j < c → w (1081 + 8 * t + j) ≠ -1) (h2 : c < 8 → w (1081 + 8 * t + c) = -1) : L_X4_mean_83 (zI t) p q x fu 0 = C_X4_mean_116 (zI t) p q x (zI c) := by
  obtain ⟨g1, g2, g3⟩ := h
  rw [← zI_zero]
  refine loop_ex (L := fun k (_ : Unit) i => L_X4_mean_83 (zI t) p q x k i) (P := fun r _ => True) (R := fun y => y = C_X4_mean_116 (zI t) p q x (zI c)) (n := c) ?_ ?_ c 0 fu () (by omega) (by rw [fu_eq]; omega) trivial
  · intro k a r hr hp
    refine Or.inl ⟨(), trivial, ?_⟩
    have hw := h1 r hr
    simp (discharger := omega) only [L_X4_mean_83, g1, hw, bd_e, bo_e, bm_e, bts_l, bts_r, btm_l, btm_r, bp_lt, ck_ib, ck_z, ck_o, ifT, ifF, n10, n01, pv_v, if_pos, if_neg, zI_nat, zI_add, zI_mul, zI_addl, zI_laddl, zI_mull, zI_lmul, zI_subl, zI_pred, zI_le, zI_lt, zI_eq, zI_lel, zI_lle, zI_ltl, zI_llt, zI_eql, zI_leq, zI_ne1, zI_1ne]
  · intro k a hp
    by_cases h8 : c = 8
    · subst h8
      have h88 : (8 : Int32) ≤ zI 8 := by decide
      simp (discharger := omega) only [L_X4_mean_83, h88, bd_e, bo_e, bm_e, bts_l, bts_r, btm_l, btm_r, bp_lt, ck_ib, ck_z, ck_o, ifT, ifF, n10, n01, pv_v, if_pos, if_neg, zI_nat, zI_add, zI_mul, zI_addl, zI_laddl, zI_mull, zI_lmul, zI_subl, zI_pred, zI_le, zI_lt, zI_eq, zI_lel, zI_lle, zI_ltl, zI_llt, zI_eql, zI_leq, zI_ne1, zI_1ne]
    · have hw := h2 (by omega)
      simp (discharger := omega) only [L_X4_mean_83, g1, hw, bd_e, bo_e, bm_e, bts_l, bts_r, btm_l, btm_r, bp_lt, ck_ib, ck_z, ck_o, ifT, ifF, n10, n01, pv_v, if_pos, if_neg, zI_nat, zI_add, zI_mul, zI_addl, zI_laddl, zI_mull, zI_lmul, zI_subl, zI_pred, zI_le, zI_lt, zI_eq, zI_lel, zI_lle, zI_ltl, zI_llt, zI_eql, zI_leq, zI_ne1, zI_1ne]
set_option maxHeartbeats 4000000 in
theorem call_mean (h : St mi) (p q r : Int32) : CallOK (F_L_mean p q r mi) (fun m' => F_X4_mean p q r m') := by
  obtain ⟨w, n, T, k, pa, nn, TT, L, tx, hP, hM, hA⟩ := h
  have bad : F_X3_mean p q r mi = some (.inr 0, mi) → (∀ m', F_X4_mean p q r m' = some (0, wI (wI m' (3, 0, 0, 0) 6 0) (3, 0, 0, 0) 6 1)) → CallOK (F_L_mean p q r mi) (fun m' => F_X4_mean p q r m') := by
    intro e e2
    refine ok_err (c := 0) (code := 1) (m1 := mi) hM e rfl (by decide) hP (frp_rf _) hA (v' := 0) (fun m' hm => ?_)
    rw [e2]
    exact mok_fail hm 1
  rcases rng3 p with ⟨t, ht, rfl⟩ | hp
  · rcases rng8 q with ⟨l, hl, rfl⟩ | hq
    · rcases rng r 2 (by omega) with ⟨kd, hkd, rfl⟩ | hr
      · have hkk := svK_le hA.2.1
        obtain ⟨i1, i2, i3, i4, i5, i6, i7, i8, i9, i10, i11, i12⟩ := id hA.1
        obtain ⟨q5, m2, e1, e2, e3, e4, e5, e6, e7, e8⟩ := p_save hP hA.2.1 i9 i7
        have hs2 := e5.1 6 (by omega)
        have f4 := (e5.2.2.2.1.2.2.2.2.2.2.1 t ht).2.1
        have fm := p_meanings e5.2.2.2.1 ht
        have ql : zI l ≠ -1 := fun e => by rw [zI_ne1 (by omega)] at e; exact e
        have fc := p_columnOf e5.2.2.2.1 i5 ht ql
        have pF : F_X3_mean (zI t) (zI l) (zI kd) mi = J_X3_mean_28 (zI t) (zI l) (zI kd) mi 1 := by
          simp (discharger := omega) only [F_X3_mean, p_isT ht, p_isL hl, bd_e, bo_e, bm_e, bts_l, bts_r, btm_l, btm_r, bp_lt, ck_ib, ck_z, ck_o, ifT, ifF, n10, n01, pv_v, if_pos, if_neg, zI_nat, zI_add, zI_mul, zI_addl, zI_laddl, zI_mull, zI_lmul, zI_subl, zI_pred, zI_le, zI_lt, zI_eq, zI_lel, zI_lle, zI_ltl, zI_llt, zI_eql, zI_leq, zI_ne1, zI_1ne]
        have mF : ∀ m' x2, F_X4_saves (wI m' (3, 0, 0, 0) 6 0) = some ((), x2) → MRel x2 w (svK k) (svF k pa w) L tx → F_X4_mean (zI t) (zI l) (zI kd) m' = (if mngs w t < w (1156 + t) then bo (F_X4_columnOf (zI t) (zI l) x2) fun v12 => (if v12 = (-1) then L_X4_mean_83 (zI t) (zI l) (zI kd) x2 fu 0 else bm (F_X4_refuses (zI t) 3 x2) fun v37 m38 => some (v37, m38)) else bm (F_X4_refuses (zI t) 1 x2) fun v39 m40 => some (v39, m40)) := by
          intro m' x2 o1 o2
          have a1 : F_X4_in (zI kd) 0 2 (wI m' (3, 0, 0, 0) 6 0) = some 1 := m_in1 (K := 2) (by omega) (by omega) _
          have a2 := m_meanings (mw_of o2 hA.1) ht
          have g1 := o2.1
          simp (discharger := omega) only [F_X4_mean, m_isT ht, m_isL hl, a1, o1, a2, g1, bd_e, bo_e, bm_e, bts_l, bts_r, btm_l, btm_r, bp_lt, ck_ib, ck_z, ck_o, ifT, ifF, n10, n01, pv_v, if_pos, if_neg, zI_nat, zI_add, zI_mul, zI_addl, zI_laddl, zI_mull, zI_lmul, zI_subl, zI_pred, zI_le, zI_lt, zI_eq, zI_lel, zI_lle, zI_ltl, zI_llt, zI_eql, zI_leq, zI_ne1, zI_1ne]
        by_cases hlt : mngs w t < w (1156 + t)
        · rcases cO_cases w t (zI l) with ⟨hn, hc⟩ | ⟨c, hc8, hc, hcv⟩
          · rw [hc] at fc
            rcases p_spare e5.2.2.2.1 ht with ⟨c, hc8, k1, k2, k3⟩ | ⟨k1, k2⟩
            · have hd := p_define (m := m2) (i0 := m2.2.1 6) (j0 := t) hc8 (v := 0) (Or.inl rfl) (zI l) (zI kd)
              obtain ⟨w3, hw3⟩ : ∃ w3, w3 = upd (upd (upd w (1081 + 8 * t + c) (zI l)) (1105 + 8 * t + c) (zI kd)) (1129 + 8 * t + c) 0 := ⟨_, rfl⟩
              have u1 : w3 (1081 + 8 * t + c) = zI l := by rw [hw3, upd_ne _ (by omega), upd_ne _ (by omega), upd_eq]
              have u2 : w3 (1105 + 8 * t + c) = zI kd := by rw [hw3, upd_ne _ (by omega), upd_eq]
              have u3 : w3 (1129 + 8 * t + c) = 0 := by rw [hw3, upd_eq]
              have u4 : ∀ i, i ≠ 1081 + 8 * t + c → i ≠ 1105 + 8 * t + c → i ≠ 1129 + 8 * t + c → w3 i = w i := fun i a b d => by rw [hw3, upd_ne _ d, upd_ne _ b, upd_ne _ a]
              obtain ⟨r1, r2⟩ := e5.step hkk.1 (frt_def m2 _ t c (zI l) (zI kd) 0) (sr_def e5.2.2.2.1 ht hc8 u1 u3 (fun _ => u2) u4)
              have hW : WI w3 n T := wi_cell hA.1 ht hc8 (Or.inr ⟨⟨l, hl, u1⟩, fun c2 h2 _ => by rw [u1]; exact hn c2 h2⟩) (Or.inl u3) u4
              have c1 : ¬ zI c = -1 := fun e => by rw [zI_ne1 (by omega)] at e; exact e
              have e : F_X3_mean (zI t) (zI l) (zI kd) mi = some (.inl (zI c), defM m2 (m2.2.1 6) t c (zI l) (zI kd) 0) := by
                rw [pF]
                unfold defM
                simp (discharger := omega) only [J_X3_mean_28, p_req1, e1, e2, hs2, fm, f4, hlt, fc, k1, c1, hd, bd_e, bo_e, bm_e, bts_l, bts_r, btm_l, btm_r, bp_lt, ck_ib, ck_z, ck_o, ifT, ifF, n10, n01, pv_v, if_pos, if_neg, zI_nat, zI_add, zI_mul, zI_addl, zI_laddl, zI_mull, zI_lmul, zI_subl, zI_pred, zI_le, zI_lt, zI_eq, zI_lel, zI_lle, zI_ltl, zI_llt, zI_eql, zI_leq, zI_ne1, zI_1ne]
              refine ok_val hM e r1 (frp_tr e6 r2) (ainv_w hA.saved hW) (fun m' hm => ?_)
              obtain ⟨x2, o1, o2, o3, o4⟩ := m_pre hm hA.2.1
              have a3 := m_columnOf (mw_of o2 hA.1) ht (zI l)
              rw [hc] at a3
              have a4 := m_spare (mw_of o2 hA.1) ht (zI l) (zI kd) (c := c) (by omega) k3 (fun _ => k2)
              have c8 : ¬ c = 8 := by omega
              have e9 : F_X4_mean (zI t) (zI l) (zI kd) m' = some (zI c, wI (wI (wI x2 (3, 0, 0, 1) (1081 + 8 * t + c) (zI l)) (3, 0, 0, 1) (1105 + 8 * t + c) (zI kd)) (3, 0, 0, 1) (1129 + 8 * t + c) 0) := by
                rw [mF m' x2 o1 o2, if_pos hlt, a3, bo_e, if_pos rfl, a4]
                simp (discharger := omega) only [C_X4_mean_116, c8, bd_e, bo_e, bm_e, bts_l, bts_r, btm_l, btm_r, bp_lt, ck_ib, ck_z, ck_o, ifT, ifF, n10, n01, pv_v, if_pos, if_neg, zI_nat, zI_add, zI_mul, zI_addl, zI_laddl, zI_mull, zI_lmul, zI_subl, zI_pred, zI_le, zI_lt, zI_eq, zI_lel, zI_lle, zI_ltl, zI_llt, zI_eql, zI_leq, zI_ne1, zI_1ne]
              rw [e9]
              refine ⟨_, w3, rfl, ?_, eqw_rf _ _, frm_tr o3 (frm_tr (frm_tr (frm_wI rfl _ _ _) (frm_wI rfl _ _ _)) (frm_wI rfl _ _ _)), by rw [wI_ne (by decide), wI_ne (by decide), wI_ne (by decide)]; exact o4⟩
              rw [hw3]
              exact mrel_1 (mrel_1 (mrel_1 o2 _ _) _ _) _ _
            · refine ok_refuse hM hA ht 4 e5 e6 rfl (fun m3 z => ?_) (fun m' x2 o1 o2 => ?_)
              · rw [pF]
                simp (discharger := omega) only [J_X3_mean_28, p_req1, e1, e2, hs2, fm, f4, hlt, fc, k1, z, bd_e, bo_e, bm_e, bts_l, bts_r, btm_l, btm_r, bp_lt, ck_ib, ck_z, ck_o, ifT, ifF, n10, n01, pv_v, if_pos, if_neg, zI_nat, zI_add, zI_mul, zI_addl, zI_laddl, zI_mull, zI_lmul, zI_subl, zI_pred, zI_le, zI_lt, zI_eq, zI_lel, zI_lle, zI_ltl, zI_llt, zI_eql, zI_leq, zI_ne1, zI_1ne]
              · have a3 := m_columnOf (mw_of o2 hA.1) ht (zI l)
                rw [hc] at a3
                have a4 := m_spare (mw_of o2 hA.1) ht (zI l) (zI kd) (c := 8) (by omega) k2 (fun h => absurd h (by omega))
                have z := (m_refuse o2 ht 4).1
                have e88 : zI 8 = 8 := rfl
                rw [mF m' x2 o1 o2, if_pos hlt, a3, bo_e, if_pos rfl, a4]
                unfold C_X4_mean_116
                rw [if_pos e88, z]
                rfl
          · rw [hc] at fc
            have c1 : ¬ zI c = -1 := fun e => by rw [zI_ne1 (by omega)] at e; exact e
            refine ok_refuse hM hA ht 3 e5 e6 rfl (fun m3 z => ?_) (fun m' x2 o1 o2 => ?_)
            · rw [pF]
              simp (discharger := omega) only [J_X3_mean_28, p_req1, e1, e2, hs2, fm, f4, hlt, fc, c1, z, bd_e, bo_e, bm_e, bts_l, bts_r, btm_l, btm_r, bp_lt, ck_ib, ck_z, ck_o, ifT, ifF, n10, n01, pv_v, if_pos, if_neg, zI_nat, zI_add, zI_mul, zI_addl, zI_laddl, zI_mull, zI_lmul, zI_subl, zI_pred, zI_le, zI_lt, zI_eq, zI_lel, zI_lle, zI_ltl, zI_llt, zI_eql, zI_leq, zI_ne1, zI_1ne]
            · have a3 := m_columnOf (mw_of o2 hA.1) ht (zI l)
              rw [hc] at a3
              have z := (m_refuse o2 ht 3).1
              rw [mF m' x2 o1 o2, if_pos hlt, a3, bo_e, if_neg c1, z]
              rfl
        · refine ok_refuse hM hA ht 1 e5 e6 rfl (fun m3 z => ?_) (fun m' x2 o1 o2 => ?_)
          · rw [pF]
            simp (discharger := omega) only [J_X3_mean_28, p_req1, e1, e2, hs2, fm, f4, hlt, z, bd_e, bo_e, bm_e, bts_l, bts_r, btm_l, btm_r, bp_lt, ck_ib, ck_z, ck_o, ifT, ifF, n10, n01, pv_v, if_pos, if_neg, zI_nat, zI_add, zI_mul, zI_addl, zI_laddl, zI_mull, zI_lmul, zI_subl, zI_pred, zI_le, zI_lt, zI_eq, zI_lel, zI_lle, zI_ltl, zI_llt, zI_eql, zI_leq, zI_ne1, zI_1ne]
          · have z := (m_refuse o2 ht 1).1
            rw [mF m' x2 o1 o2, if_neg hlt, z]
            rfl
      · refine bad ?_ (fun m' => ?_)
        · rcases hr with h | ⟨h1, h2, -⟩
          · simp (discharger := omega) only [F_X3_mean, p_isT ht, p_isL hl, h, jb_mean, bd_e, bo_e, bm_e, bts_l, bts_r, btm_l, btm_r, bp_lt, ck_ib, ck_z, ck_o, ifT, ifF, n10, n01, pv_v, if_pos, if_neg, zI_nat, zI_add, zI_mul, zI_addl, zI_laddl, zI_mull, zI_lmul, zI_subl, zI_pred, zI_le, zI_lt, zI_eq, zI_lel, zI_lle, zI_ltl, zI_llt, zI_eql, zI_leq, zI_ne1, zI_1ne]
          · have h7 : (2 : Int32) < r := h2
            simp (discharger := omega) only [F_X3_mean, p_isT ht, p_isL hl, h1, h7, jb_mean, bd_e, bo_e, bm_e, bts_l, bts_r, btm_l, btm_r, bp_lt, ck_ib, ck_z, ck_o, ifT, ifF, n10, n01, pv_v, if_pos, if_neg, zI_nat, zI_add, zI_mul, zI_addl, zI_laddl, zI_mull, zI_lmul, zI_subl, zI_pred, zI_le, zI_lt, zI_eq, zI_lel, zI_lle, zI_ltl, zI_llt, zI_eql, zI_leq, zI_ne1, zI_1ne]
        · have a1 : F_X4_in r 0 2 (wI m' (3, 0, 0, 0) 6 0) = some 0 := m_in0 (K := 2) hr _
          simp (discharger := omega) only [F_X4_mean, m_isT ht, m_isL hl, a1, m_fails, J_X4_mean_28, bd_e, bo_e, bm_e, bts_l, bts_r, btm_l, btm_r, bp_lt, ck_ib, ck_z, ck_o, ifT, ifF, n10, n01, pv_v, if_pos, if_neg, zI_nat, zI_add, zI_mul, zI_addl, zI_laddl, zI_mull, zI_lmul, zI_subl, zI_pred, zI_le, zI_lt, zI_eq, zI_lel, zI_lle, zI_ltl, zI_llt, zI_eql, zI_leq, zI_ne1, zI_1ne]
    · refine bad ?_ (fun m' => ?_)
      · simp (discharger := omega) only [F_X3_mean, p_isT ht, p_isL0' hq, jb_mean, bd_e, bo_e, bm_e, bts_l, bts_r, btm_l, btm_r, bp_lt, ck_ib, ck_z, ck_o, ifT, ifF, n10, n01, pv_v, if_pos, if_neg, zI_nat, zI_add, zI_mul, zI_addl, zI_laddl, zI_mull, zI_lmul, zI_subl, zI_pred, zI_le, zI_lt, zI_eq, zI_lel, zI_lle, zI_ltl, zI_llt, zI_eql, zI_leq, zI_ne1, zI_1ne]
      · simp (discharger := omega) only [F_X4_mean, m_isT ht, m_isL0 hq, m_fails, J_X4_mean_28, bd_e, bo_e, bm_e, bts_l, bts_r, btm_l, btm_r, bp_lt, ck_ib, ck_z, ck_o, ifT, ifF, n10, n01, pv_v, if_pos, if_neg, zI_nat, zI_add, zI_mul, zI_addl, zI_laddl, zI_mull, zI_lmul, zI_subl, zI_pred, zI_le, zI_lt, zI_eq, zI_lel, zI_lle, zI_ltl, zI_llt, zI_eql, zI_leq, zI_ne1, zI_1ne]
  · refine bad ?_ (fun m' => ?_)
    · simp (discharger := omega) only [F_X3_mean, p_isT0' hp, jb_mean, bd_e, bo_e, bm_e, bts_l, bts_r, btm_l, btm_r, bp_lt, ck_ib, ck_z, ck_o, ifT, ifF, n10, n01, pv_v, if_pos, if_neg, zI_nat, zI_add, zI_mul, zI_addl, zI_laddl, zI_mull, zI_lmul, zI_subl, zI_pred, zI_le, zI_lt, zI_eq, zI_lel, zI_lle, zI_ltl, zI_llt, zI_eql, zI_leq, zI_ne1, zI_1ne]
    · simp (discharger := omega) only [F_X4_mean, m_isT0 hp, m_fails, J_X4_mean_28, bd_e, bo_e, bm_e, bts_l, bts_r, btm_l, btm_r, bp_lt, ck_ib, ck_z, ck_o, ifT, ifF, n10, n01, pv_v, if_pos, if_neg, zI_nat, zI_add, zI_mul, zI_addl, zI_laddl, zI_mull, zI_lmul, zI_subl, zI_pred, zI_le, zI_lt, zI_eq, zI_lel, zI_lle, zI_ltl, zI_llt, zI_eql, zI_leq, zI_ne1, zI_1ne]
end QM1
