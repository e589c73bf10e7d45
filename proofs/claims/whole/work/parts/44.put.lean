/-! index, put, ask -/
section QN
variable {m m2 mi x : Mem} {n k L T s t c r nt : Nat} {w w2 tx tl ts tn : Nat → Int32} {pa : Nat → Nat → Int32} {nn TT : Nat → Nat} {a b v u : Int32}
theorem sr_idx (h : SR m.1 s w n) (ht : t < 3) (hc : c < 8) (v : Int32) : SR (wI m (2, s, t, 3) c v).1 s (upd w (1129 + 8 * t + c) v) n := by
  obtain ⟨a1, a2, a3, a4, a5, a6, a7, a8⟩ := h
  refine ⟨a1, by rw [upd_ne _ (by omega)]; exact a2, by rw [wI_ne lb12_ne]; exact a3, fun r hr => by rw [wI_ne lb12_ne, upd_ne _ (by omega)]; exact a4 r hr, fun r hr c hc => by rw [wI_ne lb12_ne, upd_ne _ (by omega)]; exact a5 r hr c hc, fun t2 ht2 c2 hc2 => ?_, fun t2 ht2 => ?_, fun r hr => by rw [upd_ne _ (by omega)]; exact a8 r hr⟩
  · rw [wI_ne (b := (2, s, t2, 1)) (lb2_ne (Or.inr (by decide))), wI_ne (b := (2, s, t2, 2)) (lb2_ne (Or.inr (by decide))), upd_ne (j := 1081 + 8 * t2 + c2) _ (by omega), upd_ne (j := 1105 + 8 * t2 + c2) _ (by omega)]
    obtain ⟨b1, b2, b3⟩ := a6 t2 ht2 c2 hc2
    refine ⟨b1, ?_, b3⟩
    by_cases e : t2 = t
    · subst e
      rw [wI_eq]
      by_cases e2 : c2 = c
      · subst e2; rw [upd_eq, upd_eq]
      · rw [upd_ne _ e2, upd_ne _ (by omega)]; exact b2
    · rw [wI_ne (lb2_ne (Or.inl e)), upd_ne _ (by omega)]; exact b2
  · rw [wI_ne (lb2_ne (Or.inr (by decide))), upd_ne _ (by omega), upd_ne _ (by omega), upd_ne _ (by omega), upd_ne _ (by omega), upd_ne _ (by omega), upd_ne _ (by omega), upd_ne _ (by omega)]
    exact a7 t2 ht2
theorem call_index (h : St mi) (p q : Int32) : CallOK (F_L_index p q mi) (fun m' => F_X4_index p q m') := by
  obtain ⟨w, n, T, k, pa, nn, TT, L, tx, hP, hM, hA⟩ := h
  have bad : F_X3_index p q mi = some (.inr 0, mi) → (∀ m', F_X4_index p q m' = some (0, wI (wI m' (3, 0, 0, 0) 6 0) (3, 0, 0, 0) 6 1)) → CallOK (F_L_index p q mi) (fun m' => F_X4_index p q m') := by
    intro e e2
    refine ok_err (c := 0) (code := 1) (m1 := mi) hM e rfl (by decide) hP (frp_rf _) hA (v' := 0) (fun m' hm => ?_)
    rw [e2]
    exact mok_fail hm 1
  rcases rng3 p with ⟨t, ht, rfl⟩ | hp
  · rcases rng8 q with ⟨l, hl, rfl⟩ | hq
    · have hkk := svK_le hA.2.1
      obtain ⟨i1, i2, i3, i4, i5, i6, i7, i8, i9, i10, i11, i12⟩ := id hA.1
      obtain ⟨q5, m2, e1, e2, e3, e4, e5, e6, e7, e8⟩ := p_save hP hA.2.1 i9 i7
      have hs2 := e5.1 6 (by omega)
      have ql : zI l ≠ -1 := fun e => by rw [zI_ne1 (by omega)] at e; exact e
      have fc := p_columnOf e5.2.2.2.1 i5 ht ql
      have pF : F_X3_index (zI t) (zI l) mi = J_X3_index_19 (zI t) (zI l) mi 1 := by
        simp (discharger := omega) only [F_X3_index, p_isT ht, p_isL hl, bd_e, bo_e, bm_e, bts_l, bts_r, btm_l, btm_r, bp_lt, ck_ib, ck_z, ck_o, ifT, ifF, n10, n01, pv_v, if_pos, if_neg, zI_nat, zI_add, zI_mul, zI_addl, zI_laddl, zI_mull, zI_lmul, zI_subl, zI_pred, zI_le, zI_lt, zI_eq, zI_lel, zI_lle, zI_ltl, zI_llt, zI_eql, zI_leq, zI_ne1, zI_1ne]
      rcases cO_cases w t (zI l) with ⟨hn, hc⟩ | ⟨c, hc8, hc, hcv⟩
      · rw [hc] at fc
        refine ok_refuse hM hA ht 5 e5 e6 rfl (fun m3 z => ?_) (fun m' x2 o1 o2 => ?_)
        · rw [pF]
          simp (discharger := omega) only [J_X3_index_19, p_req1, e1, e2, hs2, fc, z, bd_e, bo_e, bm_e, bts_l, bts_r, btm_l, btm_r, bp_lt, ck_ib, ck_z, ck_o, ifT, ifF, n10, n01, pv_v, if_pos, if_neg, zI_nat, zI_add, zI_mul, zI_addl, zI_laddl, zI_mull, zI_lmul, zI_subl, zI_pred, zI_le, zI_lt, zI_eq, zI_lel, zI_lle, zI_ltl, zI_llt, zI_eql, zI_leq, zI_ne1, zI_1ne]
        · have a3 := m_columnOf (mw_of o2 hA.1) ht (zI l)
          rw [hc] at a3
          have z := (m_refuse o2 ht 5).1
          simp (discharger := omega) only [F_X4_index, m_isT ht, m_isL hl, o1, a3, z, bd_e, bo_e, bm_e, bts_l, bts_r, btm_l, btm_r, bp_lt, ck_ib, ck_z, ck_o, ifT, ifF, n10, n01, pv_v, if_pos, if_neg, zI_nat, zI_add, zI_mul, zI_addl, zI_laddl, zI_mull, zI_lmul, zI_subl, zI_pred, zI_le, zI_lt, zI_eq, zI_lel, zI_lle, zI_ltl, zI_llt, zI_eql, zI_leq, zI_ne1, zI_1ne]
      · rw [hc] at fc
        have c1 : ¬ zI c = -1 := fun e => by rw [zI_ne1 (by omega)] at e; exact e
        have fx := (e5.2.2.2.1.2.2.2.2.2.1 t ht c hc8).2.1
        have fin : ∀ v : Int32, (v = 0 ∨ v = 1) → 1 - w (1129 + 8 * t + c) = v → F_X3_index (zI t) (zI l) mi = some (.inl v, wI m2 (2, m2.2.1 6, t, 3) c v) → CallOK (F_L_index (zI t) (zI l) mi) (fun m' => F_X4_index (zI t) (zI l) m') := by
          intro v hv h1 e
          obtain ⟨r1, r2⟩ := e5.step hkk.1 (frt_wI (wr2 _ _ _) m2 c v) (sr_idx e5.2.2.2.1 ht hc8 v)
          have hW : WI (upd w (1129 + 8 * t + c) v) n T := wi_cell hA.1 ht hc8 (Or.inr ⟨⟨l, hl, by rw [upd_ne _ (by omega)]; exact hcv⟩, fun c2 h2 h3 h4 => h3 (i5 t ht c2 h2 c hc8 (by rw [h4, upd_ne _ (by omega)]) (by rw [h4, upd_ne _ (by omega), hcv]; exact ql))⟩) (by rw [upd_eq]; exact hv) (fun i _ _ d => upd_ne _ d _)
          refine ok_val hM e r1 (frp_tr e6 r2) (ainv_w hA.saved hW) (fun m' hm => ?_)
          obtain ⟨x2, o1, o2, o3, o4⟩ := m_pre hm hA.2.1
          have a3 := m_columnOf (mw_of o2 hA.1) ht (zI l)
          rw [hc] at a3
          have g1 := o2.1
          have e9 : F_X4_index (zI t) (zI l) m' = some (v, wI x2 (3, 0, 0, 1) (1129 + 8 * t + c) v) := by
            simp (discharger := omega) only [F_X4_index, m_isT ht, m_isL hl, o1, a3, c1, g1, h1, wI_eq, upd_eq, bd_e, bo_e, bm_e, bts_l, bts_r, btm_l, btm_r, bp_lt, ck_ib, ck_z, ck_o, ifT, ifF, n10, n01, pv_v, if_pos, if_neg, zI_nat, zI_add, zI_mul, zI_addl, zI_laddl, zI_mull, zI_lmul, zI_subl, zI_pred, zI_le, zI_lt, zI_eq, zI_lel, zI_lle, zI_ltl, zI_llt, zI_eql, zI_leq, zI_ne1, zI_1ne]
          rw [e9]
          exact mok_1 o2 o3 o4 _ _ _ _
        rcases i9 t ht c hc8 with hx | hx
        · rw [hx] at fx
          refine fin 1 (Or.inr rfl) (by rw [hx]; rfl) ?_
          rw [pF]
          simp (discharger := omega) only [J_X3_index_19, p_req1, e1, e2, hs2, fc, c1, fx, J_X3_index_77, wI_eq, upd_eq, p_asN, bd_e, bo_e, bm_e, bts_l, bts_r, btm_l, btm_r, bp_lt, ck_ib, ck_z, ck_o, ifT, ifF, n10, n01, pv_v, if_pos, if_neg, zI_nat, zI_add, zI_mul, zI_addl, zI_laddl, zI_mull, zI_lmul, zI_subl, zI_pred, zI_le, zI_lt, zI_eq, zI_lel, zI_lle, zI_ltl, zI_llt, zI_eql, zI_leq, zI_ne1, zI_1ne]
        · rw [hx] at fx
          refine fin 0 (Or.inl rfl) (by rw [hx]; rfl) ?_
          rw [pF]
          simp (discharger := omega) only [J_X3_index_19, p_req1, e1, e2, hs2, fc, c1, fx, J_X3_index_77, wI_eq, upd_eq, p_asN, bd_e, bo_e, bm_e, bts_l, bts_r, btm_l, btm_r, bp_lt, ck_ib, ck_z, ck_o, ifT, ifF, n10, n01, pv_v, if_pos, if_neg, zI_nat, zI_add, zI_mul, zI_addl, zI_laddl, zI_mull, zI_lmul, zI_subl, zI_pred, zI_le, zI_lt, zI_eq, zI_lel, zI_lle, zI_ltl, zI_llt, zI_eql, zI_leq, zI_ne1, zI_1ne]
    · refine bad ?_ (fun m' => ?_)
      · simp (discharger := omega) only [F_X3_index, p_isT ht, p_isL0' hq, jb_index, bd_e, bo_e, bm_e, bts_l, bts_r, btm_l, btm_r, bp_lt, ck_ib, ck_z, ck_o, ifT, ifF, n10, n01, pv_v, if_pos, if_neg, zI_nat, zI_add, zI_mul, zI_addl, zI_laddl, zI_mull, zI_lmul, zI_subl, zI_pred, zI_le, zI_lt, zI_eq, zI_lel, zI_lle, zI_ltl, zI_llt, zI_eql, zI_leq, zI_ne1, zI_1ne]
      · simp (discharger := omega) only [F_X4_index, m_isT ht, m_isL0 hq, m_fails, J_X4_index_19, bd_e, bo_e, bm_e, bts_l, bts_r, btm_l, btm_r, bp_lt, ck_ib, ck_z, ck_o, ifT, ifF, n10, n01, pv_v, if_pos, if_neg, zI_nat, zI_add, zI_mul, zI_addl, zI_laddl, zI_mull, zI_lmul, zI_subl, zI_pred, zI_le, zI_lt, zI_eq, zI_lel, zI_lle, zI_ltl, zI_llt, zI_eql, zI_leq, zI_ne1, zI_1ne]
  · refine bad ?_ (fun m' => ?_)
    · simp (discharger := omega) only [F_X3_index, p_isT0' hp, jb_index, bd_e, bo_e, bm_e, bts_l, bts_r, btm_l, btm_r, bp_lt, ck_ib, ck_z, ck_o, ifT, ifF, n10, n01, pv_v, if_pos, if_neg, zI_nat, zI_add, zI_mul, zI_addl, zI_laddl, zI_mull, zI_lmul, zI_subl, zI_pred, zI_le, zI_lt, zI_eq, zI_lel, zI_lle, zI_ltl, zI_llt, zI_eql, zI_leq, zI_ne1, zI_1ne]
    · simp (discharger := omega) only [F_X4_index, m_isT0 hp, m_fails, J_X4_index_19, bd_e, bo_e, bm_e, bts_l, bts_r, btm_l, btm_r, bp_lt, ck_ib, ck_z, ck_o, ifT, ifF, n10, n01, pv_v, if_pos, if_neg, zI_nat, zI_add, zI_mul, zI_addl, zI_laddl, zI_mull, zI_lmul, zI_subl, zI_pred, zI_le, zI_lt, zI_eq, zI_lel, zI_lle, zI_ltl, zI_llt, zI_eql, zI_leq, zI_ne1, zI_1ne]
def ftK (kd v : Int32) : Int32 := if kd = 0 then (if v < -999 then 0 else if 999 < v then 0 else 1) else if kd = 1 then (if v < 0 then 0 else if 1 < v then 0 else 1) else (if v < 0 then 0 else if 3650 < v then 0 else 1)
theorem p_fits (kd v : Int32) (m : Mem) : F_X3_fits kd v m = some (ftK kd v) := by
  unfold F_X3_fits ftK
  by_cases h0 : kd = 0
  · rw [if_pos h0, if_pos h0]
    by_cases h1 : v < -999
    · rw [if_pos h1, if_pos h1]; rfl
    · rw [if_neg h1, if_neg h1]
      by_cases h2 : 999 < v
      · rw [if_pos h2, if_pos h2]; rfl
      · rw [if_neg h2, if_neg h2]; rfl
  · rw [if_neg h0, if_neg h0]
    by_cases h1 : kd = 1
    · rw [if_pos h1, if_pos h1]
      by_cases h2 : v = 0
      · rw [if_pos h2, h2]; rfl
      · rw [if_neg h2]
        by_cases h3 : v = 1
        · rw [if_pos h3, h3]; rfl
        · rw [if_neg h3]
          by_cases h4 : v < 0
          · rw [if_pos h4]; rfl
          · have h5 : 1 < v := by
              have e := zI_of (Int32.not_lt.mp h4)
              have n0 : v.toNatClampNeg ≠ 0 := fun h => h2 (by rw [e, h]; rfl)
              have n1 : v.toNatClampNeg ≠ 1 := fun h => h3 (by rw [e, h]; rfl)
              rw [e]
              show zI 1 < _
              rw [zI_lt (by omega) (Int32.toNatClampNeg_lt v)]
              omega
            rw [if_neg h4, if_pos h5]; rfl
    · rw [if_neg h1, if_neg h1]
      by_cases h4 : v < 0
      · rw [if_pos h4, if_pos h4]; rfl
      · rw [if_neg h4, if_neg h4]
        by_cases h5 : 3650 < v
        · rw [if_pos h5, if_pos h5]; rfl
        · rw [if_neg h5, if_neg h5]; rfl
theorem ite3 {p q : Prop} [Decidable p] [Decidable q] : (if p then (0 : Int32) else if q then 0 else 1) = 0 ∨ (if p then (0 : Int32) else if q then 0 else 1) = 1 := by
  by_cases h : p
  · rw [if_pos h]; exact Or.inl rfl
  · rw [if_neg h]
    by_cases h2 : q
    · rw [if_pos h2]; exact Or.inl rfl
    · rw [if_neg h2]; exact Or.inr rfl
theorem m_fits (kd v : Int32) (x : Mem) : F_X4_fits kd v x = some (ftK kd v) := by
  unfold F_X4_fits ftK
  by_cases h0 : kd = 0
  · rw [if_pos h0, if_pos h0, m_in, bo_e]
    unfold J_X4_fits_34
    rw [ck_b ite3]
  · rw [if_neg h0, if_neg h0]
    by_cases h1 : kd = 1
    · rw [if_pos h1, if_pos h1]
      unfold J_X4_fits_31
      rw [m_in, bo_e]
      unfold J_X4_fits_34
      rw [ck_b ite3]
    · rw [if_neg h1, if_neg h1]
      unfold J_X4_fits_31
      rw [m_in, bo_e]
      unfold J_X4_fits_34
      rw [ck_b ite3]
theorem sr_val (h : SR m.1 s w n) (hr : r < n) (hc : c < 8) {u v : Int32} (hu : v = pv u) : SR (wI m (1, s, 0, 3) (r * 8 + c) v).1 s (upd w (9 * r + 1 + c) u) n := by
  obtain ⟨a1, a2, a3, a4, a5, a6, a7, a8⟩ := h
  have d3 : ∀ k, k ≠ 3 → ((1, s, 0, k) : Lb) ≠ (1, s, 0, 3) := fun k hk e => hk (by injection e with _ e; injection e with _ e; injection e)
  have d2 : ∀ p q, ((2, s, p, q) : Lb) ≠ (1, s, 0, 3) := fun p q e => by injection e with e _; exact absurd e (by decide)
  refine ⟨a1, by rw [upd_ne _ (by omega)]; exact a2, by rw [wI_ne (d3 0 (by decide))]; exact a3, fun q hq => by rw [wI_ne (d3 2 (by decide)), upd_ne _ (by omega)]; exact a4 q hq, fun q hq c2 hc2 => ?_, fun t2 ht2 c2 hc2 => ?_, fun t2 ht2 => ?_, fun q hq => by rw [upd_ne _ (by omega)]; exact a8 q hq⟩
  · rw [wI_eq]
    by_cases e : q = r ∧ c2 = c
    · obtain ⟨rfl, rfl⟩ := e
      rw [upd_eq, upd_eq]; exact hu
    · rw [upd_ne _ (by omega), upd_ne _ (by omega)]; exact a5 q hq c2 hc2
  · rw [wI_ne (d2 _ _), wI_ne (d2 _ _), wI_ne (d2 _ _), upd_ne _ (by omega), upd_ne _ (by omega), upd_ne _ (by omega)]
    exact a6 t2 ht2 c2 hc2
  · rw [wI_ne (d2 _ _), upd_ne _ (by omega), upd_ne _ (by omega), upd_ne _ (by omega), upd_ne _ (by omega), upd_ne _ (by omega), upd_ne _ (by omega), upd_ne _ (by omega)]
    exact a7 t2 ht2
theorem wi_vs (h : WI w n T) (h0 : ∀ r, r < n → w2 (9 * r) = w (9 * r)) (e : ∀ i, 1080 ≤ i → i < 1174 → w2 i = w i) (hv : VS w2 n) : WI w2 n T := by
  obtain ⟨h1, h2, h3, h4, h5, h6, h7, h8, h9, h10, h11, h12, h13⟩ := h
  have hm : ∀ r, r < n → mvd w2 r = mvd w r := by
    intro r hr
    obtain ⟨t, ht, hw⟩ := h3 r hr
    have hw2 : w2 (9 * r) = zI t := by rw [h0 r hr]; exact hw
    rw [mvd_of ht hw, mvd_of ht hw2, e _ (by omega) (by omega)]
  have hc : ∀ r, r < n → cls w2 r = cls w r := by
    intro r hr
    unfold cls
    rw [hm r hr, h0 r hr]
  refine ⟨h1, by rw [e _ (by omega) (by omega)]; exact h2, fun r hr => by rw [h0 r hr]; exact h3 r hr, hv, ?_, fun t ht c hc => by rw [e _ (by omega) (by omega)]; exact h6 t ht c hc, fun t ht => by rw [e _ (by omega) (by omega)]; exact h7 t ht, ?_, fun t ht c hc => by rw [e _ (by omega) (by omega)]; exact h9 t ht c hc, fun t ht => by rw [e _ (by omega) (by omega)]; exact h10 t ht, ?_, h12, ?_⟩
  · intro t ht c hc c2 hc2
    rw [e (1081 + 8 * t + c) (by omega) (by omega), e (1081 + 8 * t + c2) (by omega) (by omega)]
    exact h5 t ht c hc c2 hc2
  · exact ⟨h8.1, fun r hr => by rw [hm r (Nat.lt_of_lt_of_le hr h8.1)]; exact h8.2.1 r hr, fun r h1 h2 => by rw [hm r h2]; exact h8.2.2 r h1 h2⟩
  · intro t ht
    have e2 : rwsOf w2 n t = rwsOf w n t := by
      unfold rwsOf
      exact sg_congr (fun r hr => by rw [h0 r hr])
    rw [e2]
    exact h11 t ht
  · intro r q hrq hq
    rw [hc r (by omega), hc q hq]
    exact h13 r q hrq hq
theorem p_setV (h : SR m.1 s w n) (hr : r < n) (hc : c < 8) (v : Int32) : F_X1_setValue s (zI r) (zI c) v m = some ((), wI m (1, s, 0, 3) (r * 8 + c) v) := by
  obtain ⟨a1, a2, a3, a4, a5, a6, a7, a8⟩ := h
  simp (discharger := omega) only [F_X1_setValue, J_X1_setValue_34, a3, bd_e, bo_e, bm_e, bts_l, bts_r, btm_l, btm_r, bp_lt, ck_ib, ck_z, ck_o, ifT, ifF, n10, n01, pv_v, if_pos, if_neg, zI_nat, zI_add, zI_mul, zI_addl, zI_laddl, zI_mull, zI_lmul, zI_subl, zI_pred, zI_le, zI_lt, zI_eq, zI_lel, zI_lle, zI_ltl, zI_llt, zI_eql, zI_leq, zI_ne1, zI_1ne]
theorem ok_refuse' (hM : MRel mi w k pa L tx) (hA : AInv w n T k pa nn TT L tx) (ht : t < 3) (cc : Int32) {F : Option ((Int32 ⊕ Nat) × Mem)} {G : Mem → Option (Int32 × Mem)} {f : Nat → Option Int32} {q : Nat} (h2 : PRel m2 w n (svK k) (svF k pa w) (svF k nn n) L tx) (hF : FrP mi m2) (hq : q = m2.2.1 6)
    (hP : ∀ m3, F_X2_refuse q t cc m2 = some (-cc - 1, m3) → F = some (.inl (-cc - 1), m3)) (hG : ∀ m' x2, MRel m' w k pa L tx → F_X4_saves (wI m' (3, 0, 0, 0) 6 0) = some ((), x2) → MRel x2 w (svK k) (svF k pa w) L tx → G m' = F_X4_refuses (zI t) cc x2) : CallOK (hRes F f) G := by
  subst hq
  obtain ⟨m3, e1, e2, e3⟩ := p_refuse h2 (svK_le hA.2.1).1 ht cc
  refine ok_val hM (hP m3 e1) e2 (frp_tr hF e3) (ainv_rf hA.saved ht) (fun m' hm => ?_)
  obtain ⟨x2, o1, o2, o3, o4⟩ := m_pre hm hA.2.1
  obtain ⟨r1, r2⟩ := m_refuse o2 ht cc
  rw [hG m' x2 hm o1 o2, r1]
  exact mok_1 o2 o3 o4 _ _ _ _
theorem call_put (h : St mi) (p q v : Int32) : CallOK (F_L_put p q v mi) (fun m' => F_X4_put p q v m') := by
  obtain ⟨w, n, T, k, pa, nn, TT, L, tx, hP, hM, hA⟩ := h
  have hs := hP.1 6 (by omega)
  have bad : F_X3_put p q v mi = some (.inr 0, mi) → (∀ m', MRel m' w k pa L tx → F_X4_put p q v m' = some (0, wI (wI m' (3, 0, 0, 0) 6 0) (3, 0, 0, 0) 6 2)) → CallOK (F_L_put p q v mi) (fun m' => F_X4_put p q v m') := by
    intro e e2
    refine ok_err (c := 0) (code := 2) (m1 := mi) hM e rfl (by decide) hP (frp_rf _) hA (v' := 0) (fun m' hm => ?_)
    rw [e2 m' hm]
    exact mok_fail hm 2
  rcases rngN p hA.1.1 with ⟨r, hr, rfl⟩ | hr
  · have hreq := p_reqRow hP.2.2.2.1 hs hr
    have hrow : ∀ m', MRel m' w k pa L tx → F_X4_isRow (zI r) (wI m' (3, 0, 0, 0) 6 0) = some 1 := fun m' hm => m_isRow1 (mw_of (mrel_6 hm 0) hA.1) hr
    rcases rng8 q with ⟨l, hl, rfl⟩ | hq
    · by_cases hv1 : v < -9999
      · refine bad ?_ (fun m' hm => ?_)
        · simp (discharger := omega) only [F_X3_put, hreq, p_isL hl, hv1, jb_put, bd_e, bo_e, bm_e, bts_l, bts_r, btm_l, btm_r, bp_lt, ck_ib, ck_z, ck_o, ifT, ifF, n10, n01, pv_v, if_pos, if_neg, zI_nat, zI_add, zI_mul, zI_addl, zI_laddl, zI_mull, zI_lmul, zI_subl, zI_pred, zI_le, zI_lt, zI_eq, zI_lel, zI_lle, zI_ltl, zI_llt, zI_eql, zI_leq, zI_ne1, zI_1ne]
        · have a1 : F_X4_in v (-9999) 9999 (wI m' (3, 0, 0, 0) 6 0) = some 0 := by rw [m_in, if_pos hv1]
          simp (discharger := omega) only [F_X4_put, hrow m' hm, m_isL hl, a1, m_fails, J_X4_put_39, bd_e, bo_e, bm_e, bts_l, bts_r, btm_l, btm_r, bp_lt, ck_ib, ck_z, ck_o, ifT, ifF, n10, n01, pv_v, if_pos, if_neg, zI_nat, zI_add, zI_mul, zI_addl, zI_laddl, zI_mull, zI_lmul, zI_subl, zI_pred, zI_le, zI_lt, zI_eq, zI_lel, zI_lle, zI_ltl, zI_llt, zI_eql, zI_leq, zI_ne1, zI_1ne]
      · by_cases hv2 : 9999 < v
        · refine bad ?_ (fun m' hm => ?_)
          · simp (discharger := omega) only [F_X3_put, hreq, p_isL hl, hv1, hv2, jb_put, bd_e, bo_e, bm_e, bts_l, bts_r, btm_l, btm_r, bp_lt, ck_ib, ck_z, ck_o, ifT, ifF, n10, n01, pv_v, if_pos, if_neg, zI_nat, zI_add, zI_mul, zI_addl, zI_laddl, zI_mull, zI_lmul, zI_subl, zI_pred, zI_le, zI_lt, zI_eq, zI_lel, zI_lle, zI_ltl, zI_llt, zI_eql, zI_leq, zI_ne1, zI_1ne]
          · have a1 : F_X4_in v (-9999) 9999 (wI m' (3, 0, 0, 0) 6 0) = some 0 := by rw [m_in, if_neg hv1, if_pos hv2]
            simp (discharger := omega) only [F_X4_put, hrow m' hm, m_isL hl, a1, m_fails, J_X4_put_39, bd_e, bo_e, bm_e, bts_l, bts_r, btm_l, btm_r, bp_lt, ck_ib, ck_z, ck_o, ifT, ifF, n10, n01, pv_v, if_pos, if_neg, zI_nat, zI_add, zI_mul, zI_addl, zI_laddl, zI_mull, zI_lmul, zI_subl, zI_pred, zI_le, zI_lt, zI_eq, zI_lel, zI_lle, zI_ltl, zI_llt, zI_eql, zI_leq, zI_ne1, zI_1ne]
        · have hvk : vok v := Or.inr ⟨Int32.not_lt.mp hv1, Int32.not_lt.mp hv2⟩
          have hvp : v = pv v := by
            unfold pv
            rw [if_neg (fun e => by rw [e] at hv1; exact hv1 (by decide))]
          have hkk := svK_le hA.2.1
          obtain ⟨i1, i2, i3, i4, i5, i6, i7, i8, i9, i10, i11, i12⟩ := id hA.1
          obtain ⟨q5, m2, e1, e2, e3, e4, e5, e6, e7, e8⟩ := p_save hP hA.2.1 i9 i7
          have hs2 := e5.1 6 (by omega)
          have ql : zI l ≠ -1 := fun e => by rw [zI_ne1 (by omega)] at e; exact e
          obtain ⟨t, ht, how⟩ := i3 r hr
          have fo := p_owner e5.2.2.2.1 hr ht how
          have fc := p_columnOf e5.2.2.2.1 i5 ht ql
          have pF : F_X3_put (zI r) (zI l) v mi = J_X3_put_31 (zI r) (zI l) v mi 1 := by
            simp (discharger := omega) only [F_X3_put, hreq, p_isL hl, hv1, hv2, bd_e, bo_e, bm_e, bts_l, bts_r, btm_l, btm_r, bp_lt, ck_ib, ck_z, ck_o, ifT, ifF, n10, n01, pv_v, if_pos, if_neg, zI_nat, zI_add, zI_mul, zI_addl, zI_laddl, zI_mull, zI_lmul, zI_subl, zI_pred, zI_le, zI_lt, zI_eq, zI_lel, zI_lle, zI_ltl, zI_llt, zI_eql, zI_leq, zI_ne1, zI_1ne]
          have mF : ∀ m' x2, MRel m' w k pa L tx → F_X4_saves (wI m' (3, 0, 0, 0) 6 0) = some ((), x2) → MRel x2 w (svK k) (svF k pa w) L tx → F_X4_put (zI r) (zI l) v m' = (if cO w t (zI l) = (-1) then bm (F_X4_refuses (zI t) 5 x2) fun v25 m26 => some (v25, m26) else bd (8 * zI t) fun v11 => bd (1105 + v11) fun v12 => bd (v12 + cO w t (zI l)) fun v13 => ck (ib v13 1174) (bd (x2.1 (3, 0, 0, 1) (Int32.toNatClampNeg v13)) fun v14 => bo (F_X4_fits v14 v x2) fun v15 => (if v15 = 0 then bm (F_X4_refuses (zI t) 6 x2) fun v23 m24 => some (v23, m24) else bd (9 * zI r) fun v16 => bd (v16 + 1) fun v17 => bd (v17 + cO w t (zI l)) fun v18 => bm (F_X4_changes v18 v x2) fun v19 m20 => (if v19 = (-100000) then (J_X4_put_136 m20) 0 else (J_X4_put_136 m20) 1)))) := by
            intro m' x2 hm o1 o2
            have a1 : F_X4_in v (-9999) 9999 (wI m' (3, 0, 0, 0) 6 0) = some 1 := by rw [m_in, if_neg hv1, if_neg hv2]
            have a2 := m_tenantOf (mw_of o2 hA.1) hr
            rw [how] at a2
            have a3 := m_columnOf (mw_of o2 hA.1) ht (zI l)
            simp only [F_X4_put, bd_e, bo_e, bm_e, n10, ifF, hrow m' hm, m_isL hl, a1, o1, a2, a3]
          rcases cO_cases w t (zI l) with ⟨hn, hc⟩ | ⟨c, hc8, hc, hcv⟩
          · rw [hc] at fc
            refine ok_refuse' hM hA ht 5 e5 e6 rfl (fun m3 z => ?_) (fun m' x2 hm o1 o2 => ?_)
            · rw [pF]
              simp (discharger := omega) only [J_X3_put_31, p_req1, e1, e2, hs2, fo, fc, z, bd_e, bo_e, bm_e, bts_l, bts_r, btm_l, btm_r, bp_lt, ck_ib, ck_z, ck_o, ifT, ifF, n10, n01, pv_v, if_pos, if_neg, zI_nat, zI_add, zI_mul, zI_addl, zI_laddl, zI_mull, zI_lmul, zI_subl, zI_pred, zI_le, zI_lt, zI_eq, zI_lel, zI_lle, zI_ltl, zI_llt, zI_eql, zI_leq, zI_ne1, zI_1ne]
            · have z := (m_refuse o2 ht 5).1
              rw [mF m' x2 hm o1 o2, hc, if_pos rfl, z]
              rfl
          · rw [hc] at fc
            have c1 : ¬ zI c = -1 := fun e => by rw [zI_ne1 (by omega)] at e; exact e
            have fk := (e5.2.2.2.1.2.2.2.2.2.1 t ht c hc8).2.2 (by rw [hcv]; exact ql)
            have ff := p_fits (w (1105 + 8 * t + c)) v m2
            have mG : ∀ m' x2, MRel m' w k pa L tx → F_X4_saves (wI m' (3, 0, 0, 0) 6 0) = some ((), x2) → MRel x2 w (svK k) (svF k pa w) L tx → F_X4_put (zI r) (zI l) v m' = (if ftK (w (1105 + 8 * t + c)) v = 0 then bm (F_X4_refuses (zI t) 6 x2) fun v23 m24 => some (v23, m24) else (if w (9 * r + 1 + c) = (-100000) then (J_X4_put_136 (wI x2 (3, 0, 0, 1) (9 * r + 1 + c) v)) 0 else (J_X4_put_136 (wI x2 (3, 0, 0, 1) (9 * r + 1 + c) v)) 1)) := by
              intro m' x2 hm o1 o2
              have g1 := o2.1
              have a4 := m_fits (w (1105 + 8 * t + c)) v x2
              rw [mF m' x2 hm o1 o2, hc]
              simp (discharger := omega) only [c1, g1, a4, F_X4_changes, bd_e, bo_e, bm_e, bts_l, bts_r, btm_l, btm_r, bp_lt, ck_ib, ck_z, ck_o, ifT, ifF, n10, n01, pv_v, if_pos, if_neg, zI_nat, zI_add, zI_mul, zI_addl, zI_laddl, zI_mull, zI_lmul, zI_subl, zI_pred, zI_le, zI_lt, zI_eq, zI_lel, zI_lle, zI_ltl, zI_llt, zI_eql, zI_leq, zI_ne1, zI_1ne]
            by_cases hft : ftK (w (1105 + 8 * t + c)) v = 0
            · refine ok_refuse' hM hA ht 6 e5 e6 rfl (fun m3 z => ?_) (fun m' x2 hm o1 o2 => ?_)
              · rw [pF]
                simp (discharger := omega) only [J_X3_put_31, p_req1, e1, e2, hs2, fo, fc, c1, fk, ff, hft, z, bd_e, bo_e, bm_e, bts_l, bts_r, btm_l, btm_r, bp_lt, ck_ib, ck_z, ck_o, ifT, ifF, n10, n01, pv_v, if_pos, if_neg, zI_nat, zI_add, zI_mul, zI_addl, zI_laddl, zI_mull, zI_lmul, zI_subl, zI_pred, zI_le, zI_lt, zI_eq, zI_lel, zI_lle, zI_ltl, zI_llt, zI_eql, zI_leq, zI_ne1, zI_1ne]
              · have z := (m_refuse o2 ht 6).1
                rw [mG m' x2 hm o1 o2, if_pos hft, z]
                rfl
            · have fv := p_valueAt e5.2.2.2.1 hr hc8
              have fn := pv_no (vok_no (i4 r hr c hc8))
              have fs := p_setV e5.2.2.2.1 hr hc8 v
              obtain ⟨r1, r2⟩ := e5.step hkk.1 (frt_wI (wr1 _ _ _) m2 (r * 8 + c) v) (sr_val e5.2.2.2.1 hr hc8 hvp)
              have hW : WI (upd w (9 * r + 1 + c) v) n T := wi_vs hA.1 (fun q hq => upd_ne _ (by omega) _) (fun i h1 _ => upd_ne _ (by omega) _) (fun q hq c2 hc2 => by
                unfold upd
                by_cases e : 9 * q + 1 + c2 = 9 * r + 1 + c
                · rw [if_pos e]; exact hvk
                · rw [if_neg e]; exact i4 q hq c2 hc2)
              have fin : ∀ d : Int32, F_X3_put (zI r) (zI l) v mi = some (.inl d, wI m2 (1, m2.2.1 6, 0, 3) (r * 8 + c) v) → (if w (9 * r + 1 + c) = (-100000) then (0 : Int32) else 1) = d → CallOK (F_L_put (zI r) (zI l) v mi) (fun m' => F_X4_put (zI r) (zI l) v m') := by
                intro d e hd
                refine ok_val hM e r1 (frp_tr e6 r2) (ainv_w hA.saved hW) (fun m' hm => ?_)
                obtain ⟨x2, o1, o2, o3, o4⟩ := m_pre hm hA.2.1
                have e9 : F_X4_put (zI r) (zI l) v m' = some (d, wI x2 (3, 0, 0, 1) (9 * r + 1 + c) v) := by
                  rw [mG m' x2 hm o1 o2, if_neg hft, ← hd]
                  by_cases hw : w (9 * r + 1 + c) = -100000
                  · rw [if_pos hw, if_pos hw]; rfl
                  · rw [if_neg hw, if_neg hw]; rfl
                rw [e9]
                exact mok_1 o2 o3 o4 _ _ _ _
              by_cases hw : w (9 * r + 1 + c) = -100000
              · refine fin 0 ?_ (if_pos hw)
                rw [pF]
                simp (discharger := omega) only [J_X3_put_31, p_req1, e1, e2, hs2, fo, fc, c1, fk, ff, hft, fv, fn, hw, J_X3_put_113, fs, p_asN, bd_e, bo_e, bm_e, bts_l, bts_r, btm_l, btm_r, bp_lt, ck_ib, ck_z, ck_o, ifT, ifF, n10, n01, pv_v, if_pos, if_neg, zI_nat, zI_add, zI_mul, zI_addl, zI_laddl, zI_mull, zI_lmul, zI_subl, zI_pred, zI_le, zI_lt, zI_eq, zI_lel, zI_lle, zI_ltl, zI_llt, zI_eql, zI_leq, zI_ne1, zI_1ne]
              · refine fin 1 ?_ (if_neg hw)
                rw [pF]
                simp (discharger := omega) only [J_X3_put_31, p_req1, e1, e2, hs2, fo, fc, c1, fk, ff, hft, fv, fn, hw, J_X3_put_113, fs, p_asN, bd_e, bo_e, bm_e, bts_l, bts_r, btm_l, btm_r, bp_lt, ck_ib, ck_z, ck_o, ifT, ifF, n10, n01, pv_v, if_pos, if_neg, zI_nat, zI_add, zI_mul, zI_addl, zI_laddl, zI_mull, zI_lmul, zI_subl, zI_pred, zI_le, zI_lt, zI_eq, zI_lel, zI_lle, zI_ltl, zI_llt, zI_eql, zI_leq, zI_ne1, zI_1ne]
    · refine bad ?_ (fun m' hm => ?_)
      · simp (discharger := omega) only [F_X3_put, hreq, p_isL0' hq, jb_put, bd_e, bo_e, bm_e, bts_l, bts_r, btm_l, btm_r, bp_lt, ck_ib, ck_z, ck_o, ifT, ifF, n10, n01, pv_v, if_pos, if_neg, zI_nat, zI_add, zI_mul, zI_addl, zI_laddl, zI_mull, zI_lmul, zI_subl, zI_pred, zI_le, zI_lt, zI_eq, zI_lel, zI_lle, zI_ltl, zI_llt, zI_eql, zI_leq, zI_ne1, zI_1ne]
      · simp (discharger := omega) only [F_X4_put, hrow m' hm, m_isL0 hq, m_fails, J_X4_put_39, bd_e, bo_e, bm_e, bts_l, bts_r, btm_l, btm_r, bp_lt, ck_ib, ck_z, ck_o, ifT, ifF, n10, n01, pv_v, if_pos, if_neg, zI_nat, zI_add, zI_mul, zI_addl, zI_laddl, zI_mull, zI_lmul, zI_subl, zI_pred, zI_le, zI_lt, zI_eq, zI_lel, zI_lle, zI_ltl, zI_llt, zI_eql, zI_leq, zI_ne1, zI_1ne]
  · have e : F_X3_put p q v mi = some (.inr 2, mi) := by
      unfold F_X3_put
      rw [p_reqRow0 hP hA.1 hr, bts_r]
    refine ok_err (c := 2) (code := 1) (m1 := mi) hM e rfl (by decide) hP (frp_rf _) hA (v' := 0) (fun m' hm => ?_)
    have e3 : F_X4_put p q v m' = some (0, wI (wI m' (3, 0, 0, 0) 6 0) (3, 0, 0, 0) 6 1) := by
      simp (discharger := omega) only [F_X4_put, m_isRow0 (mw_of (mrel_6 hm 0) hA.1) hr, m_fails, bd_e, bo_e, bm_e, bts_l, bts_r, btm_l, btm_r, bp_lt, ck_ib, ck_z, ck_o, ifT, ifF, n10, n01, pv_v, if_pos, if_neg, zI_nat, zI_add, zI_mul, zI_addl, zI_laddl, zI_mull, zI_lmul, zI_subl, zI_pred, zI_le, zI_lt, zI_eq, zI_lel, zI_lle, zI_ltl, zI_llt, zI_eql, zI_leq, zI_ne1, zI_1ne]
    rw [e3]
    exact mok_fail hm 1
end QN
