/-! ask -/
section QO
variable {m m2 mi x : Mem} {n k L T s t nt : Nat} {w w2 tx tl ts tn : Nat → Int32} {pa : Nat → Nat → Int32} {nn TT : Nat → Nat}
theorem nAn_len (w : Nat → Int32) (n nt : Nat) (tl ts tn : Nat → Int32) (t : Nat) : nAn w n nt tl ts tn t = zI (aL w nt tl ts tn t n).length := by
  unfold nAn
  rw [sg_cn (p := fun r => an w nt tl ts tn t r) (fun r _ => rfl)]
  have h := cn_aL w nt tl ts tn t (fun _ => true) n
  rw [cn_low (p := fun _ => true) (n := (aL w nt tl ts tn t n).length) (Nat.le_refl _) (fun _ _ => rfl) (fun r h1 h2 => by omega)] at h
  rw [h]
  exact congrArg zI (cn_congr (fun r _ => (Bool.and_true _).symm))
theorem qp_sv (h : QP m.1 nt tl ts tn) (e : ∀ j, j ≠ 0 → m2.1 (0, 0, 0, j) = m.1 (0, 0, 0, j)) : QP m2.1 nt tl ts tn := by
  refine ⟨by rw [e 3 (by decide)]; exact h.1, fun k hk => ?_⟩
  rw [e 5 (by decide), e 6 (by decide), e 7 (by decide)]
  exact h.2 k hk
theorem qm_f (h : QM m.1 nt tl ts tn) (e10 : m2.1 (3, 0, 0, 0) 10 = m.1 (3, 0, 0, 0) 10) (e5 : m2.1 (3, 0, 0, 5) = m.1 (3, 0, 0, 5)) : QM m2.1 nt tl ts tn := ⟨by rw [e10]; exact h.1, fun k hk => by rw [e5]; exact h.2 k hk⟩
set_option maxHeartbeats 4000000 in
theorem call_ask (h : St mi) (p : Int32) : CallOK (F_L_ask p mi) (fun m' => F_X4_ask p m') := by
  obtain ⟨w, n, T, k, pa, nn, TT, L, tx, hP, hM, hA⟩ := h
  rcases rng3 p with ⟨t, ht, rfl⟩ | hp
  · rcases quest hA with ⟨nt, tl, ts, tn, hK, qp, qm⟩ | ⟨qp, qm⟩
    · obtain ⟨m3, o1, o2, hQ⟩ := qp mi hP
      obtain ⟨hP3, hF3⟩ := prel_frq hP o2
      have hkk := svK_le hA.2.1
      obtain ⟨i1, i2, i3, i4, i5, i6, i7, i8, i9, i10, i11, i12⟩ := id hA.1
      obtain ⟨q5, m6, e1, e2, e3, e4, e5, e6, e7, e8⟩ := p_save hP3 hA.2.1 i9 i7
      have hs6 := e5.1 6 (by omega)
      have hQ6 := qp_sv hQ e8
      obtain ⟨g, c1, -⟩ := p_collect e5.2.2.2.1 hs6 hA.1 hQ6 hK ht
      obtain ⟨a, ha⟩ : ∃ a, a = (aL w nt tl ts tn t n).length := ⟨_, rfl⟩
      rw [← ha] at c1
      obtain ⟨m10, hm10⟩ : ∃ m10, m10 = wA m6 (0, 0, 0, 4) g := ⟨_, rfl⟩
      rw [← hm10] at c1
      have F10 : FrT (m6.2.1 6) m6 m10 := by rw [hm10]; exact frt_wA (wr4 _) m6 g
      have S10 : SR m10.1 (m6.2.1 6) w n := by rw [hm10]; exact sr_wA e5.2.2.2.1 4 g
      have s10 : m10.2.1 6 = m6.2.1 6 := by rw [F10.2]
      obtain ⟨w1, hw1⟩ : ∃ w1, w1 = upd w (1162 + t) (w (1162 + t) + 1) := ⟨_, rfl⟩
      obtain ⟨m13, hm13⟩ : ∃ m13, m13 = wI m10 (2, m6.2.1 6, t, 0) 6 (w (1162 + t) + 1) := ⟨_, rfl⟩
      have F13 : FrT (m6.2.1 6) m6 m13 := by rw [hm13]; exact F10.tr (frt_wI (wr2 _ _ _) m10 6 _)
      have S13 : SR m13.1 (m6.2.1 6) w1 n := by rw [hm13, hw1]; exact sr_field S10 ht (j := 6) (by omega) (by omega) _
      have s13 : m13.2.1 6 = m6.2.1 6 := by rw [F13.2]
      have I1 : WI w1 n T := by rw [hw1]; exact wi_low hA.1 (fun i hi => upd_ne _ (by omega) _)
      have lk := p_looks (m := m13) (by rw [s13]; exact S13) (by rw [s13]; exact hs6) I1 (qp_frt hQ6 F13) hK ht (w1 (1159 + t)) (-1)
      obtain ⟨lv, hlv⟩ : ∃ lv, lv = lkT w1 n nt tl ts tn t (w1 (1159 + t)) (-1) := ⟨_, rfl⟩
      rw [← hlv] at lk
      obtain ⟨w2, hw2⟩ : ∃ w2, w2 = upd w1 (1165 + t) (w1 (1165 + t) + lv) := ⟨_, rfl⟩
      obtain ⟨m18, hm18⟩ : ∃ m18, m18 = wI m13 (2, m6.2.1 6, t, 0) 7 (w1 (1165 + t) + lv) := ⟨_, rfl⟩
      have F18 : FrT (m6.2.1 6) m6 m18 := by rw [hm18]; exact F13.tr (frt_wI (wr2 _ _ _) m13 7 _)
      have S18 : SR m18.1 (m6.2.1 6) w2 n := by rw [hm18, hw2]; exact sr_field S13 ht (j := 7) (by omega) (by omega) _
      obtain ⟨w3, hw3⟩ : ∃ w3, w3 = upd w2 (1168 + t) (w2 (1168 + t) + zI a) := ⟨_, rfl⟩
      obtain ⟨m21, hm21⟩ : ∃ m21, m21 = wI m18 (2, m6.2.1 6, t, 0) 8 (w2 (1168 + t) + zI a) := ⟨_, rfl⟩
      have F21 : FrT (m6.2.1 6) m6 m21 := by rw [hm21]; exact F18.tr (frt_wI (wr2 _ _ _) m18 8 _)
      have S21 : SR m21.1 (m6.2.1 6) w3 n := by rw [hm21, hw3]; exact sr_field S18 ht (j := 8) (by omega) (by omega) _
      have f6 := (S10.2.2.2.2.2.2.1 t ht).2.2.2.1
      have f7 := (S13.2.2.2.2.2.2.1 t ht).2.2.2.2.1
      have f5 := (S13.2.2.2.2.2.2.1 t ht).2.2.1
      have f8 := (S18.2.2.2.2.2.2.1 t ht).2.2.2.2.2.1
      have e : F_X3_ask (zI t) mi = some (.inl (zI a), m21) := by
        simp (discharger := omega) only [F_X3_ask, p_isT ht, o1, J_X3_ask_19, p_req1, e1, e2, hs6, c1, f6, bd_e, bo_e, bm_e, bts_l, bts_r, btm_l, btm_r, bp_lt, ck_ib, ck_z, ck_o, ifT, ifF, n10, n01, pv_v, if_pos, if_neg, zI_nat, zI_add, zI_mul, zI_addl, zI_laddl, zI_mull, zI_lmul, zI_subl, zI_pred, zI_le, zI_lt, zI_eq, zI_lel, zI_lle, zI_ltl, zI_llt, zI_eql, zI_leq, zI_ne1, zI_1ne]
        rw [← hm13]
        simp (discharger := omega) only [f7, f5, lk, bd_e, bo_e, bm_e, bts_l, bts_r, btm_l, btm_r, bp_lt, ck_ib, ck_z, ck_o, ifT, ifF, n10, n01, pv_v, if_pos, if_neg, zI_nat, zI_add, zI_mul, zI_addl, zI_laddl, zI_mull, zI_lmul, zI_subl, zI_pred, zI_le, zI_lt, zI_eq, zI_lel, zI_lle, zI_ltl, zI_llt, zI_eql, zI_leq, zI_ne1, zI_1ne]
        rw [← hm18]
        simp (discharger := omega) only [f8, bd_e, bo_e, bm_e, bts_l, bts_r, btm_l, btm_r, bp_lt, ck_ib, ck_z, ck_o, ifT, ifF, n10, n01, pv_v, if_pos, if_neg, zI_nat, zI_add, zI_mul, zI_addl, zI_laddl, zI_mull, zI_lmul, zI_subl, zI_pred, zI_le, zI_lt, zI_eq, zI_lel, zI_lle, zI_ltl, zI_llt, zI_eql, zI_leq, zI_ne1, zI_1ne]
        rw [← hm21]
      obtain ⟨r1, r2⟩ := e5.step hkk.1 F21 S21
      have I3 : WI w3 n T := by
        rw [hw3, hw2]
        exact wi_low I1 (fun i hi => by rw [upd_ne _ (by omega), upd_ne _ (by omega)])
      refine ok_val hM e r1 (frp_tr hF3 (frp_tr e6 r2)) (ainv_w hA.saved I3) (fun m' hm => ?_)
      obtain ⟨x3, u1, u2, u3⟩ := qm _ (mrel_6 hm 0)
      obtain ⟨y1, y2⟩ := mrel_frx (mrel_6 hm 0) u2
      obtain ⟨x9, z1, z2, z3, z4, z5⟩ := m_saves y1 hA.2.1
      have z6 : x9.1 (3, 0, 0, 0) 6 = 0 := by rw [z5 6 (by decide), u2.2.2 6 (by decide) (by decide) (by decide), wI_eq, upd_eq]
      have Fx : FrM m' x9 := frm_tr (frm_tr (frm_wI rfl m' 6 0) y2) ⟨fun lb hl => z4 lb (by rintro rfl; exact hl rfl) (by rintro rfl; exact hl rfl), z3⟩
      have hQ9 := qm_f u3 (z5 10 (by decide)) (z4 _ (by decide) (by decide))
      have an1 := m_answers (mw_of z2 hA.1) hQ9 hK ht
      rw [nAn_len, ← ha] at an1
      have g1 := z2.1
      have M1 := mrel_1 z2 (1162 + t) (w (1162 + t) + 1)
      obtain ⟨x14, hx14⟩ : ∃ x14, x14 = wI x9 (3, 0, 0, 1) (1162 + t) (w (1162 + t) + 1) := ⟨_, rfl⟩
      rw [← hx14, ← hw1] at M1
      have hQ14 : QM x14.1 nt tl ts tn := qm_f hQ9 (by rw [hx14, wI_ne (by decide)]) (by rw [hx14, wI_ne (by decide)])
      have lk2 := m_looks (mw_of M1 I1) I1.2.2.1 I1.2.2.2.2.2.2.1 I1.2.2.2.2.2.2.2.2.1 hQ14 hK ht 0
      rw [if_pos rfl, ← hlv] at lk2
      have g14 := M1.1
      have M2 := mrel_1 M1 (1165 + t) (w1 (1165 + t) + lv)
      obtain ⟨x19, hx19⟩ : ∃ x19, x19 = wI x14 (3, 0, 0, 1) (1165 + t) (w1 (1165 + t) + lv) := ⟨_, rfl⟩
      rw [← hx19, ← hw2] at M2
      have g19 := M2.1
      have e9 : F_X4_ask (zI t) m' = some (zI a, wI x19 (3, 0, 0, 1) (1168 + t) (w2 (1168 + t) + zI a)) := by
        simp (discharger := omega) only [F_X4_ask, m_isT ht, u1, z1, an1, g1, bd_e, bo_e, bm_e, bts_l, bts_r, btm_l, btm_r, bp_lt, ck_ib, ck_z, ck_o, ifT, ifF, n10, n01, pv_v, if_pos, if_neg, zI_nat, zI_add, zI_mul, zI_addl, zI_laddl, zI_mull, zI_lmul, zI_subl, zI_pred, zI_le, zI_lt, zI_eq, zI_lel, zI_lle, zI_ltl, zI_llt, zI_eql, zI_leq, zI_ne1, zI_1ne]
        rw [← hx14]
        simp (discharger := omega) only [g14, lk2, bd_e, bo_e, bm_e, bts_l, bts_r, btm_l, btm_r, bp_lt, ck_ib, ck_z, ck_o, ifT, ifF, n10, n01, pv_v, if_pos, if_neg, zI_nat, zI_add, zI_mul, zI_addl, zI_laddl, zI_mull, zI_lmul, zI_subl, zI_pred, zI_le, zI_lt, zI_eq, zI_lel, zI_lle, zI_ltl, zI_llt, zI_eql, zI_leq, zI_ne1, zI_1ne]
        rw [← hx19]
        simp (discharger := omega) only [g19, bd_e, bo_e, bm_e, bts_l, bts_r, btm_l, btm_r, bp_lt, ck_ib, ck_z, ck_o, ifT, ifF, n10, n01, pv_v, if_pos, if_neg, zI_nat, zI_add, zI_mul, zI_addl, zI_laddl, zI_mull, zI_lmul, zI_subl, zI_pred, zI_le, zI_lt, zI_eq, zI_lel, zI_lle, zI_ltl, zI_llt, zI_eql, zI_leq, zI_ne1, zI_1ne]
      rw [e9, hw3]
      refine mok_1 (x := m') M2 ?_ ?_ _ _ _ _
      · rw [hx19, hx14]; exact frm_tr Fx (frm_tr (frm_wI rfl _ _ _) (frm_wI rfl _ _ _))
      · rw [hx19, hx14, wI_ne (by decide), wI_ne (by decide)]; exact z6
    · obtain ⟨m2, o1, o2⟩ := qp mi hP
      obtain ⟨hP2, hF2⟩ := prel_frq hP o2
      have e : F_X3_ask (zI t) mi = some (.inr 0, m2) := by
        simp (discharger := omega) only [F_X3_ask, p_isT ht, o1, jb_ask, bd_e, bo_e, bm_e, bts_l, bts_r, btm_l, btm_r, bp_lt, ck_ib, ck_z, ck_o, ifT, ifF, n10, n01, pv_v, if_pos, if_neg, zI_nat, zI_add, zI_mul, zI_addl, zI_laddl, zI_mull, zI_lmul, zI_subl, zI_pred, zI_le, zI_lt, zI_eq, zI_lel, zI_lle, zI_ltl, zI_llt, zI_eql, zI_leq, zI_ne1, zI_1ne]
      refine ok_err (c := 0) (code := 1) (m1 := m2) hM e rfl (by decide) hP2 hF2 hA (v' := 0) (fun m' hm => ?_)
      obtain ⟨x2, e1, e2⟩ := qm _ (mrel_6 hm 0)
      obtain ⟨r1, r2⟩ := mrel_frx (mrel_6 hm 0) e2
      have e5 : F_X4_ask (zI t) m' = some (0, wI x2 (3, 0, 0, 0) 6 1) := by
        simp (discharger := omega) only [F_X4_ask, m_isT ht, e1, J_X4_ask_19, m_fails, bd_e, bo_e, bm_e, bts_l, bts_r, btm_l, btm_r, bp_lt, ck_ib, ck_z, ck_o, ifT, ifF, n10, n01, pv_v, if_pos, if_neg, zI_nat, zI_add, zI_mul, zI_addl, zI_laddl, zI_mull, zI_lmul, zI_subl, zI_pred, zI_le, zI_lt, zI_eq, zI_lel, zI_lle, zI_ltl, zI_llt, zI_eql, zI_leq, zI_ne1, zI_1ne]
      rw [e5]
      exact ⟨_, w, rfl, mrel_6 r1 1, eqw_rf n w, frm_tr (frm_tr (frm_wI rfl m' 6 0) r2) (frm_wI rfl x2 6 1), by rw [wI_eq, upd_eq]⟩
  · refine ok_err (c := 0) (code := 1) (m1 := mi) hM (by simp (discharger := omega) only [F_X3_ask, p_isT0' hp, jb_ask, bd_e, bo_e, bm_e, bts_l, bts_r, btm_l, btm_r, bp_lt, ck_ib, ck_z, ck_o, ifT, ifF, n10, n01, pv_v, if_pos, if_neg, zI_nat, zI_add, zI_mul, zI_addl, zI_laddl, zI_mull, zI_lmul, zI_subl, zI_pred, zI_le, zI_lt, zI_eq, zI_lel, zI_lle, zI_ltl, zI_llt, zI_eql, zI_leq, zI_ne1, zI_1ne]) rfl (by decide) hP (frp_rf _) hA (v' := 0) (fun m' hm => ?_)
    have e2 : F_X4_ask p m' = some (0, wI (wI m' (3, 0, 0, 0) 6 0) (3, 0, 0, 0) 6 1) := by
      simp (discharger := omega) only [F_X4_ask, m_isT0 hp, J_X4_ask_19, m_fails, bd_e, bo_e, bm_e, bts_l, bts_r, btm_l, btm_r, bp_lt, ck_ib, ck_z, ck_o, ifT, ifF, n10, n01, pv_v, if_pos, if_neg, zI_nat, zI_add, zI_mul, zI_addl, zI_laddl, zI_mull, zI_lmul, zI_subl, zI_pred, zI_le, zI_lt, zI_eq, zI_lel, zI_lle, zI_ltl, zI_llt, zI_eql, zI_leq, zI_ne1, zI_1ne]
    rw [e2]
    exact mok_fail hm 1
end QO
