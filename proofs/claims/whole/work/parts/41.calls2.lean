/-! the calls that look by a question; append, undo -/
section QK
variable {m mi x : Mem} {n k L T nt : Nat} {w tx tl ts tn : Nat → Int32} {pa : Nat → Nat → Int32} {nn TT : Nat → Nat}
theorem prel_4 (h : PRel m w n k pa nn L tx) (hk : k ≤ 6) (g : Nat → Int32) : PRel (wA m (0, 0, 0, 4) g) w n k pa nn L tx ∧ FrP m (wA m (0, 0, 0, 4) g) := h.step hk (frt_wA (wr4 _) m g) (sr_wA h.2.2.2.1 4 g)
theorem gt0_of {l : List Nat} {g : Nat → Int32} (h : FH g l) {j : Nat} (hj : j < l.length) : g j = zI (gt0 l j) := by
  refine h j _ ?_
  unfold gt0
  rw [List.getD_eq_getElem?_getD, List.getElem?_eq_getElem hj]
  rfl
theorem gt0_mem {l : List Nat} {j : Nat} (hj : j < l.length) : gt0 l j ∈ l := by
  unfold gt0
  rw [List.getD_eq_getElem?_getD, List.getElem?_eq_getElem hj]
  exact List.getElem_mem hj
theorem sd_none (w : Nat → Int32) {α : Nat → Nat} {a : Nat} (hα : ∀ i j, i < j → j < a → α i < α j) : SD w (-1) α a := by
  intro i j hij hj
  have e : ∀ r, ky w (-1) r = 10000000000 := fun r => if_pos rfl
  exact Or.inr ⟨by rw [e, e], hα i j hij hj⟩
/-- an answer by its place, the class's side -/
theorem p_answered (hP : PRel m w n k pa nn L tx) (hA : AInv w n T k pa nn TT L tx) (hq : QP m.1 nt tl ts tn) (hk : TK nt tl ts tn) {t : Nat} (ht : t < 3) {c : Int32} (hc : isC c) : ∃ g, F_X3_collectAnswers (zI t) m = some (zI (aL w nt tl ts tn t n).length, wA m (0, 0, 0, 4) g) ∧ (aL w nt tl ts tn t n).length ≤ 120 ∧ (∀ j, j < (aL w nt tl ts tn t n).length → g j = zI (gt0 (aL w nt tl ts tn t n) j)) ∧
    ∃ g2 σ, F_X3_sortAnswers (zI (aL w nt tl ts tn t n).length) c (wA m (0, 0, 0, 4) g) = some ((), wA m (0, 0, 0, 4) g2) ∧ (∀ j, j < (aL w nt tl ts tn t n).length → g2 j = zI (σ j)) ∧ SD w c σ (aL w nt tl ts tn t n).length ∧ SP σ (gt0 (aL w nt tl ts tn t n)) (aL w nt tl ts tn t n).length := by
  have hs := hP.1 6 (by omega)
  obtain ⟨g, e, hg⟩ := p_collect hP.2.2.2.1 hs hA.1 hq hk ht
  have hl := aL_len w nt tl ts tn t n
  have hn := hA.1.1
  have hgg : ∀ j, j < (aL w nt tl ts tn t n).length → g j = zI (gt0 (aL w nt tl ts tn t n) j) := fun j hj => gt0_of hg hj
  exact ⟨g, e, by omega, hgg, p_sort hP.2.2.2.1 hs hA.1 hc (by omega) (aL_asc w nt tl ts tn t n) (fun j hj => (aL_lt (gt0_mem hj)).1) g hgg⟩
/-- the question of the text: both read it, or both read none -/
theorem quest (hA : AInv w n T k pa nn TT L tx) : (∃ nt tl ts tn, TK nt tl ts tn ∧ (∀ m, PRel m w n k pa nn L tx → ∃ m2, F_X3_readQuestion m = some (1, m2) ∧ FrQ m m2 ∧ QP m2.1 nt tl ts tn) ∧ (∀ x, MRel x w k pa L tx → ∃ x2, F_X4_isText x = some (1, x2) ∧ FrX x x2 ∧ QM x2.1 nt tl ts tn)) ∨ ((∀ m, PRel m w n k pa nn L tx → ∃ m2, F_X3_readQuestion m = some (0, m2) ∧ FrQ m m2) ∧ (∀ x, MRel x w k pa L tx → ∃ x2, F_X4_isText x = some (0, x2) ∧ FrX x x2)) := by
  by_cases ho : (rd0 tx L).2.1 = true
  · refine Or.inl ⟨_, _, _, _, ((rd0_tk (tx := tx) hA.2.2.2.1).2 ho).2, fun m hP => ?_, fun x hM => ?_⟩
    · obtain ⟨m2, o1, o2, o3⟩ := p_question hP hA
      rw [if_pos ho] at o1
      exact ⟨m2, o1, o2, o3 ho⟩
    · obtain ⟨x2, o1, o2, -, -, o3⟩ := m_question hM hA
      rw [if_pos ho] at o1
      exact ⟨x2, o1, o2, o3 ho⟩
  · refine Or.inr ⟨fun m hP => ?_, fun x hM => ?_⟩
    · obtain ⟨m2, o1, o2, o3⟩ := p_question hP hA
      rw [if_neg ho] at o1
      exact ⟨m2, o1, o2⟩
    · obtain ⟨x2, o1, o2, -⟩ := m_question hM hA
      rw [if_neg ho] at o1
      exact ⟨x2, o1, o2⟩
theorem call_answer (h : St mi) (p q r : Int32) : CallOK (F_L_answer p q r mi) (fun m' => F_X4_answer p q r m') := by
  obtain ⟨w, n, T, k, pa, nn, TT, L, tx, hP, hM, hA⟩ := h
  have bad : F_X3_answer p q r mi = some (.inr 0, mi) → (∀ m', F_X4_answer p q r m' = some (0, wI (wI m' (3, 0, 0, 0) 6 0) (3, 0, 0, 0) 6 1)) → CallOK (F_L_answer p q r mi) (fun m' => F_X4_answer p q r m') := by
    intro e e2
    refine ok_err (c := 0) (code := 1) (m1 := mi) hM e rfl (by decide) hP (frp_rf _) hA (v' := 0) (fun m' hm => ?_)
    rw [e2]
    exact mok_fail hm 1
  have e17 : ∀ x, F_X4_in q (-1) 7 x = some (if q = -1 then 1 else if q < 0 then 0 else if 7 < q then 0 else 1) := by
    intro x
    rw [m_in]
    by_cases h1 : q = -1
    · rw [if_pos h1, h1]; rfl
    · rw [if_neg h1]
      by_cases h0 : q < 0
      · rw [if_pos h0]
        by_cases h2 : q < -1
        · rw [if_pos h2]
        · exfalso
          have a1 : ((-1 : Int32)).toInt = -1 := by decide
          have a0 : ((0 : Int32)).toInt = 0 := by decide
          rw [Int32.lt_iff_toInt_lt, a0] at h0
          rw [Int32.lt_iff_toInt_lt, a1] at h2
          exact h1 (Int32.toInt_inj.mp (by rw [a1]; omega))
      · rw [if_neg h0]
        have h2 : ¬ q < -1 := fun h => h0 (Int32.lt_trans h (by decide))
        rw [if_neg h2]
  rcases rng3 p with ⟨t, ht, rfl⟩ | hp
  · by_cases hq : q = -1 ∨ ∃ l, l < 8 ∧ q = zI l
    · by_cases hr : r < 0
      · refine bad ?_ (fun m' => ?_)
        · rcases hq with rfl | ⟨l, hl, rfl⟩
          · simp (discharger := omega) only [F_X3_answer, p_isT ht, J_X3_answer_19, hr, jb_answer, bd_e, bo_e, bm_e, bts_l, bts_r, btm_l, btm_r, bp_lt, ck_ib, ck_z, ck_o, ifT, ifF, n10, n01, pv_v, if_pos, if_neg, zI_nat, zI_add, zI_mul, zI_addl, zI_laddl, zI_mull, zI_lmul, zI_subl, zI_pred, zI_le, zI_lt, zI_eq, zI_lel, zI_lle, zI_ltl, zI_llt, zI_eql, zI_leq, zI_ne1, zI_1ne]
          · simp (discharger := omega) only [F_X3_answer, p_isT ht, p_isL hl, J_X3_answer_19, hr, jb_answer, bd_e, bo_e, bm_e, bts_l, bts_r, btm_l, btm_r, bp_lt, ck_ib, ck_z, ck_o, ifT, ifF, n10, n01, pv_v, if_pos, if_neg, zI_nat, zI_add, zI_mul, zI_addl, zI_laddl, zI_mull, zI_lmul, zI_subl, zI_pred, zI_le, zI_lt, zI_eq, zI_lel, zI_lle, zI_ltl, zI_llt, zI_eql, zI_leq, zI_ne1, zI_1ne]
        · have hr2 : ¬ 0 ≤ r := Int32.not_le.mpr hr
          rcases hq with rfl | ⟨l, hl, rfl⟩
          · have e := e17 (wI m' (3, 0, 0, 0) 6 0)
            rw [if_pos rfl] at e
            simp (discharger := omega) only [F_X4_answer, m_isT ht, e, hr2, m_fails, J_X4_answer_26, bd_e, bo_e, bm_e, bts_l, bts_r, btm_l, btm_r, bp_lt, ck_ib, ck_z, ck_o, ifT, ifF, n10, n01, pv_v, if_pos, if_neg, zI_nat, zI_add, zI_mul, zI_addl, zI_laddl, zI_mull, zI_lmul, zI_subl, zI_pred, zI_le, zI_lt, zI_eq, zI_lel, zI_lle, zI_ltl, zI_llt, zI_eql, zI_leq, zI_ne1, zI_1ne]
          · have e := e17 (wI m' (3, 0, 0, 0) 6 0)
            rw [if_neg (by rw [zI_ne1 (by omega)]; exact not_false), if_neg (zI_nn (by omega)), if_neg (by show ¬ zI 7 < zI l; rw [zI_lt (by omega) (by omega)]; omega)] at e
            simp (discharger := omega) only [F_X4_answer, m_isT ht, e, hr2, m_fails, J_X4_answer_26, bd_e, bo_e, bm_e, bts_l, bts_r, btm_l, btm_r, bp_lt, ck_ib, ck_z, ck_o, ifT, ifF, n10, n01, pv_v, if_pos, if_neg, zI_nat, zI_add, zI_mul, zI_addl, zI_laddl, zI_mull, zI_lmul, zI_subl, zI_pred, zI_le, zI_lt, zI_eq, zI_lel, zI_lle, zI_ltl, zI_llt, zI_eql, zI_leq, zI_ne1, zI_1ne]
      · have hr2 : 0 ≤ r := Int32.not_lt.mp hr
        have er := zI_of hr2
        obtain ⟨pl, hpl⟩ : ∃ pl, pl = r.toNatClampNeg := ⟨_, rfl⟩
        have hb : pl < 2147483648 := by rw [hpl]; exact Int32.toNatClampNeg_lt r
        rw [← hpl] at er
        subst er
        have tq : F_X3_answer (zI t) q (zI pl) mi = J_X3_answer_28 (zI t) q (zI pl) mi 1 := by
          rcases hq with rfl | ⟨l, hl, rfl⟩
          · simp (discharger := omega) only [F_X3_answer, p_isT ht, J_X3_answer_19, hr, bd_e, bo_e, bm_e, bts_l, bts_r, btm_l, btm_r, bp_lt, ck_ib, ck_z, ck_o, ifT, ifF, n10, n01, pv_v, if_pos, if_neg, zI_nat, zI_add, zI_mul, zI_addl, zI_laddl, zI_mull, zI_lmul, zI_subl, zI_pred, zI_le, zI_lt, zI_eq, zI_lel, zI_lle, zI_ltl, zI_llt, zI_eql, zI_leq, zI_ne1, zI_1ne]
          · simp (discharger := omega) only [F_X3_answer, p_isT ht, p_isL hl, J_X3_answer_19, hr, bd_e, bo_e, bm_e, bts_l, bts_r, btm_l, btm_r, bp_lt, ck_ib, ck_z, ck_o, ifT, ifF, n10, n01, pv_v, if_pos, if_neg, zI_nat, zI_add, zI_mul, zI_addl, zI_laddl, zI_mull, zI_lmul, zI_subl, zI_pred, zI_le, zI_lt, zI_eq, zI_lel, zI_lle, zI_ltl, zI_llt, zI_eql, zI_leq, zI_ne1, zI_1ne]
        have mq : ∀ m', F_X4_answer (zI t) q (zI pl) m' = bm (F_X4_isText (wI m' (3, 0, 0, 0) 6 0)) fun v7 m8 => (if v7 = 0 then (J_X4_answer_50 m8) (-1) else bo (F_X4_answered (zI t) q (zI pl) m8) fun v11 => (J_X4_answer_50 m8) v11) := by
          intro m'
          have e := e17 (wI m' (3, 0, 0, 0) 6 0)
          rcases hq with rfl | ⟨l, hl, rfl⟩
          · rw [if_pos rfl] at e
            simp (discharger := omega) only [F_X4_answer, m_isT ht, e, hr2, bd_e, bo_e, bm_e, bts_l, bts_r, btm_l, btm_r, bp_lt, ck_ib, ck_z, ck_o, ifT, ifF, n10, n01, pv_v, if_pos, if_neg, zI_nat, zI_add, zI_mul, zI_addl, zI_laddl, zI_mull, zI_lmul, zI_subl, zI_pred, zI_le, zI_lt, zI_eq, zI_lel, zI_lle, zI_ltl, zI_llt, zI_eql, zI_leq, zI_ne1, zI_1ne]
          · rw [if_neg (by rw [zI_ne1 (by omega)]; exact not_false), if_neg (zI_nn (by omega)), if_neg (by show ¬ zI 7 < zI l; rw [zI_lt (by omega) (by omega)]; omega)] at e
            simp (discharger := omega) only [F_X4_answer, m_isT ht, e, hr2, bd_e, bo_e, bm_e, bts_l, bts_r, btm_l, btm_r, bp_lt, ck_ib, ck_z, ck_o, ifT, ifF, n10, n01, pv_v, if_pos, if_neg, zI_nat, zI_add, zI_mul, zI_addl, zI_laddl, zI_mull, zI_lmul, zI_subl, zI_pred, zI_le, zI_lt, zI_eq, zI_lel, zI_lle, zI_ltl, zI_llt, zI_eql, zI_leq, zI_ne1, zI_1ne]
        rcases quest hA with ⟨nt, tl, ts, tn, hK, qp, qm⟩ | ⟨qp, qm⟩
        · obtain ⟨m2, o1, o2, hQ⟩ := qp mi hP
          obtain ⟨hP2, hF2⟩ := prel_frq hP o2
          have hs2 := hP2.1 6 (by omega)
          rcases hq with rfl | ⟨l, hl, rfl⟩
          · obtain ⟨g, c1, c2, c3, -⟩ := p_answered hP2 hA hQ hK ht (Or.inl rfl)
            have c4 := p_answerAt (m := m2) c2 hb c3
            have e : F_X3_answer (zI t) (-1) (zI pl) mi = some (.inl (if pl < (aL w nt tl ts tn t n).length then zI (gt0 (aL w nt tl ts tn t n) pl) else -1), wA m2 (0, 0, 0, 4) g) := by
              rw [tq]
              simp (discharger := omega) only [J_X3_answer_28, p_req1, o1, c1, c4, J_X3_answer_71, bd_e, bo_e, bm_e, bts_l, bts_r, btm_l, btm_r, bp_lt, ck_ib, ck_z, ck_o, ifT, ifF, n10, n01, pv_v, if_pos, if_neg, zI_nat, zI_add, zI_mul, zI_addl, zI_laddl, zI_mull, zI_lmul, zI_subl, zI_pred, zI_le, zI_lt, zI_eq, zI_lel, zI_lle, zI_ltl, zI_llt, zI_eql, zI_leq, zI_ne1, zI_1ne]
            obtain ⟨hP3, hF3⟩ := prel_4 hP2 hA.2.1 g
            refine ok_val hM e hP3 (frp_tr hF2 hF3) hA (fun m' hm => ?_)
            obtain ⟨x2, e1, e2, e3⟩ := qm _ (mrel_6 hm 0)
            obtain ⟨r1, r2⟩ := mrel_frx (mrel_6 hm 0) e2
            have e4 := m_answered (mw_of r1 hA.1) e3 hK ht hb (Or.inl rfl) (sd_none w (aL_asc w nt tl ts tn t n)) (fun P => rfl)
            have e5 : F_X4_answer (zI t) (-1) (zI pl) m' = some (if pl < (aL w nt tl ts tn t n).length then zI (gt0 (aL w nt tl ts tn t n) pl) else -1, x2) := by
              rw [mq]
              simp (discharger := omega) only [e1, F_X4_answered, e4, J_X4_answer_50, bd_e, bo_e, bm_e, bts_l, bts_r, btm_l, btm_r, bp_lt, ck_ib, ck_z, ck_o, ifT, ifF, n10, n01, pv_v, if_pos, if_neg, zI_nat, zI_add, zI_mul, zI_addl, zI_laddl, zI_mull, zI_lmul, zI_subl, zI_pred, zI_le, zI_lt, zI_eq, zI_lel, zI_lle, zI_ltl, zI_llt, zI_eql, zI_leq, zI_ne1, zI_1ne]
            rw [e5]
            exact ⟨x2, w, rfl, r1, eqw_rf n w, frm_tr (frm_wI rfl m' 6 0) r2, by rw [e2.2.2 6 (by decide) (by decide) (by decide), wI_eq, upd_eq]⟩
          · obtain ⟨g, c1, c2, c3, g2, σ, c5, c6, c7, c8⟩ := p_answered hP2 hA hQ hK ht (cO_isC w t (zI l))
            have c4 := p_answerAt (m := m2) c2 hb c6
            obtain ⟨hP3, hF3⟩ := prel_4 hP2 hA.2.1 g
            have hcol := p_columnOf hP3.2.2.2.1 hA.1.2.2.2.2.1 ht (l := zI l) (fun e => by rw [zI_ne1 (by omega)] at e; exact e)
            have ql : ¬ zI l = -1 := fun e => by rw [zI_ne1 (by omega)] at e; exact e
            have hs3 := hP3.1 6 (by omega)
            have e : F_X3_answer (zI t) (zI l) (zI pl) mi = some (.inl (if pl < (aL w nt tl ts tn t n).length then zI (σ pl) else -1), wA m2 (0, 0, 0, 4) g2) := by
              rw [tq]
              simp (discharger := omega) only [J_X3_answer_28, p_req1, o1, c1, ql, hs3, hcol, c5, c4, J_X3_answer_71, bd_e, bo_e, bm_e, bts_l, bts_r, btm_l, btm_r, bp_lt, ck_ib, ck_z, ck_o, ifT, ifF, n10, n01, pv_v, if_pos, if_neg, zI_nat, zI_add, zI_mul, zI_addl, zI_laddl, zI_mull, zI_lmul, zI_subl, zI_pred, zI_le, zI_lt, zI_eq, zI_lel, zI_lle, zI_ltl, zI_llt, zI_eql, zI_leq, zI_ne1, zI_1ne]
            obtain ⟨hP4, hF4⟩ := prel_4 hP2 hA.2.1 g2
            refine ok_val hM e hP4 (frp_tr hF2 hF4) hA (fun m' hm => ?_)
            obtain ⟨x2, e1, e2, e3⟩ := qm _ (mrel_6 hm 0)
            obtain ⟨r1, r2⟩ := mrel_frx (mrel_6 hm 0) e2
            have e4 := m_answered (mw_of r1 hA.1) e3 hK ht hb (cO_isC w t (zI l)) c7 c8
            have e6 := m_columnOf (mw_of r1 hA.1) ht (zI l)
            have e5 : F_X4_answer (zI t) (zI l) (zI pl) m' = some (if pl < (aL w nt tl ts tn t n).length then zI (σ pl) else -1, x2) := by
              rw [mq]
              simp (discharger := omega) only [e1, F_X4_answered, ql, e6, e4, J_X4_answer_50, bd_e, bo_e, bm_e, bts_l, bts_r, btm_l, btm_r, bp_lt, ck_ib, ck_z, ck_o, ifT, ifF, n10, n01, pv_v, if_pos, if_neg, zI_nat, zI_add, zI_mul, zI_addl, zI_laddl, zI_mull, zI_lmul, zI_subl, zI_pred, zI_le, zI_lt, zI_eq, zI_lel, zI_lle, zI_ltl, zI_llt, zI_eql, zI_leq, zI_ne1, zI_1ne]
            rw [e5]
            exact ⟨x2, w, rfl, r1, eqw_rf n w, frm_tr (frm_wI rfl m' 6 0) r2, by rw [e2.2.2 6 (by decide) (by decide) (by decide), wI_eq, upd_eq]⟩
        · obtain ⟨m2, o1, o2⟩ := qp mi hP
          obtain ⟨hP2, hF2⟩ := prel_frq hP o2
          have e : F_X3_answer (zI t) q (zI pl) mi = some (.inl (-1), m2) := by
            rw [tq]
            simp (discharger := omega) only [J_X3_answer_28, p_req1, o1, bd_e, bo_e, bm_e, bts_l, bts_r, btm_l, btm_r, bp_lt, ck_ib, ck_z, ck_o, ifT, ifF, n10, n01, pv_v, if_pos, if_neg, zI_nat, zI_add, zI_mul, zI_addl, zI_laddl, zI_mull, zI_lmul, zI_subl, zI_pred, zI_le, zI_lt, zI_eq, zI_lel, zI_lle, zI_ltl, zI_llt, zI_eql, zI_leq, zI_ne1, zI_1ne]
          refine ok_val (v := -1) (m1 := m2) hM e hP2 hF2 hA (fun m' hm => ?_)
          obtain ⟨x2, e1, e2⟩ := qm _ (mrel_6 hm 0)
          obtain ⟨r1, r2⟩ := mrel_frx (mrel_6 hm 0) e2
          have e3 : F_X4_answer (zI t) q (zI pl) m' = some (-1, x2) := by
            rw [mq]
            simp (discharger := omega) only [e1, J_X4_answer_50, bd_e, bo_e, bm_e, bts_l, bts_r, btm_l, btm_r, bp_lt, ck_ib, ck_z, ck_o, ifT, ifF, n10, n01, pv_v, if_pos, if_neg, zI_nat, zI_add, zI_mul, zI_addl, zI_laddl, zI_mull, zI_lmul, zI_subl, zI_pred, zI_le, zI_lt, zI_eq, zI_lel, zI_lle, zI_ltl, zI_llt, zI_eql, zI_leq, zI_ne1, zI_1ne]
          rw [e3]
          exact ⟨x2, w, rfl, r1, eqw_rf n w, frm_tr (frm_wI rfl m' 6 0) r2, by rw [e2.2.2 6 (by decide) (by decide) (by decide), wI_eq, upd_eq]⟩
    · have hq8 : q < 0 ∨ (¬ q < 0 ∧ zI 7 < q ∧ zI (7 + 1) ≤ q) := by
        rcases rng8 q with ⟨l, hl, e⟩ | h
        · exact absurd (Or.inr ⟨l, hl, e⟩) hq
        · exact h
      have hq1 : ¬ q = -1 := fun h => hq (Or.inl h)
      refine bad ?_ (fun m' => ?_)
      · simp (discharger := omega) only [F_X3_answer, p_isT ht, hq1, p_isL0' hq8, jb_answer, bd_e, bo_e, bm_e, bts_l, bts_r, btm_l, btm_r, bp_lt, ck_ib, ck_z, ck_o, ifT, ifF, n10, n01, pv_v, if_pos, if_neg, zI_nat, zI_add, zI_mul, zI_addl, zI_laddl, zI_mull, zI_lmul, zI_subl, zI_pred, zI_le, zI_lt, zI_eq, zI_lel, zI_lle, zI_ltl, zI_llt, zI_eql, zI_leq, zI_ne1, zI_1ne]
      · have e := e17 (wI m' (3, 0, 0, 0) 6 0)
        rw [if_neg hq1] at e
        have e2 : F_X4_in q (-1) 7 (wI m' (3, 0, 0, 0) 6 0) = some 0 := by
          rw [e]
          rcases hq8 with h | ⟨h1, h2, -⟩
          · rw [if_pos h]
          · have h7 : (7 : Int32) < q := h2
            rw [if_neg h1, if_pos h7]
        simp (discharger := omega) only [F_X4_answer, m_isT ht, e2, m_fails, J_X4_answer_26, bd_e, bo_e, bm_e, bts_l, bts_r, btm_l, btm_r, bp_lt, ck_ib, ck_z, ck_o, ifT, ifF, n10, n01, pv_v, if_pos, if_neg, zI_nat, zI_add, zI_mul, zI_addl, zI_laddl, zI_mull, zI_lmul, zI_subl, zI_pred, zI_le, zI_lt, zI_eq, zI_lel, zI_lle, zI_ltl, zI_llt, zI_eql, zI_leq, zI_ne1, zI_1ne]
  · refine bad ?_ (fun m' => ?_)
    · simp (discharger := omega) only [F_X3_answer, p_isT0' hp, jb_answer, bd_e, bo_e, bm_e, bts_l, bts_r, btm_l, btm_r, bp_lt, ck_ib, ck_z, ck_o, ifT, ifF, n10, n01, pv_v, if_pos, if_neg, zI_nat, zI_add, zI_mul, zI_addl, zI_laddl, zI_mull, zI_lmul, zI_subl, zI_pred, zI_le, zI_lt, zI_eq, zI_lel, zI_lle, zI_ltl, zI_llt, zI_eql, zI_leq, zI_ne1, zI_1ne]
    · simp (discharger := omega) only [F_X4_answer, m_isT0 hp, m_fails, J_X4_answer_26, bd_e, bo_e, bm_e, bts_l, bts_r, btm_l, btm_r, bp_lt, ck_ib, ck_z, ck_o, ifT, ifF, n10, n01, pv_v, if_pos, if_neg, zI_nat, zI_add, zI_mul, zI_addl, zI_laddl, zI_mull, zI_lmul, zI_subl, zI_pred, zI_le, zI_lt, zI_eq, zI_lel, zI_lle, zI_ltl, zI_llt, zI_eql, zI_leq, zI_ne1, zI_1ne]
theorem mok_q (r1 : MRel x w k pa L tx) {m' : Mem} (e2 : FrX (wI m' (3, 0, 0, 0) 6 0) x) (v : Int32) (r2 : FrM (wI m' (3, 0, 0, 0) 6 0) x) : MOk m' (some (v, x)) v 0 w n k pa L tx :=
  ⟨x, w, rfl, r1, eqw_rf n w, frm_tr (frm_wI rfl m' 6 0) r2, by rw [e2.2.2 6 (by decide) (by decide) (by decide), wI_eq, upd_eq]⟩
theorem call_looked (h : St mi) (p q : Int32) : CallOK (F_L_looked p q mi) (fun m' => F_X4_looked p q m') := by
  obtain ⟨w, n, T, k, pa, nn, TT, L, tx, hP, hM, hA⟩ := h
  rcases rng3 p with ⟨t, ht, rfl⟩ | hp
  · rcases quest hA with ⟨nt, tl, ts, tn, hK, qp, qm⟩ | ⟨qp, qm⟩
    · obtain ⟨m2, o1, o2, hQ⟩ := qp mi hP
      obtain ⟨hP2, hF2⟩ := prel_frq hP o2
      have hs2 := hP2.1 6 (by omega)
      obtain ⟨i1, i2, i3, i4, i5, i6, i7, i8, i9, -⟩ := id hA.1
      have f5 := (hP2.2.2.2.1.2.2.2.2.2.2.1 t ht).2.2.1
      have pl := p_looks hP2.2.2.2.1 hs2 hA.1 hQ hK ht
      have e : F_X3_looked (zI t) q mi = some (.inl (lkT w n nt tl ts tn t (if q = 0 then w (1159 + t) else 1) (-1)), m2) := by
        by_cases h0 : q = 0
        · rw [if_pos h0]
          rcases i7 t ht with hv | hv
          · rw [hv] at f5 ⊢
            simp (discharger := omega) only [F_X3_looked, p_isT ht, p_req1, o1, h0, hs2, f5, J_X3_looked_42, pl, bd_e, bo_e, bm_e, bts_l, bts_r, btm_l, btm_r, bp_lt, ck_ib, ck_z, ck_o, ifT, ifF, n10, n01, pv_v, if_pos, if_neg, zI_nat, zI_add, zI_mul, zI_addl, zI_laddl, zI_mull, zI_lmul, zI_subl, zI_pred, zI_le, zI_lt, zI_eq, zI_lel, zI_lle, zI_ltl, zI_llt, zI_eql, zI_leq, zI_ne1, zI_1ne]
          · rw [hv] at f5 ⊢
            simp (discharger := omega) only [F_X3_looked, p_isT ht, p_req1, o1, h0, hs2, f5, J_X3_looked_37, J_X3_looked_42, pl, bd_e, bo_e, bm_e, bts_l, bts_r, btm_l, btm_r, bp_lt, ck_ib, ck_z, ck_o, ifT, ifF, n10, n01, pv_v, if_pos, if_neg, zI_nat, zI_add, zI_mul, zI_addl, zI_laddl, zI_mull, zI_lmul, zI_subl, zI_pred, zI_le, zI_lt, zI_eq, zI_lel, zI_lle, zI_ltl, zI_llt, zI_eql, zI_leq, zI_ne1, zI_1ne]
        · rw [if_neg h0]
          simp (discharger := omega) only [F_X3_looked, p_isT ht, p_req1, o1, h0, J_X3_looked_37, J_X3_looked_42, pl, bd_e, bo_e, bm_e, bts_l, bts_r, btm_l, btm_r, bp_lt, ck_ib, ck_z, ck_o, ifT, ifF, n10, n01, pv_v, if_pos, if_neg, zI_nat, zI_add, zI_mul, zI_addl, zI_laddl, zI_mull, zI_lmul, zI_subl, zI_pred, zI_le, zI_lt, zI_eq, zI_lel, zI_lle, zI_ltl, zI_llt, zI_eql, zI_leq, zI_ne1, zI_1ne]
      refine ok_val hM e hP2 hF2 hA (fun m' hm => ?_)
      obtain ⟨x2, e1, e2, e3⟩ := qm _ (mrel_6 hm 0)
      obtain ⟨r1, r2⟩ := mrel_frx (mrel_6 hm 0) e2
      have e4 := m_looks (mw_of r1 hA.1) i3 i7 i9 e3 hK ht q
      have e5 : F_X4_looked (zI t) q m' = some (lkT w n nt tl ts tn t (if q = 0 then w (1159 + t) else 1) (-1), x2) := by
        simp (discharger := omega) only [F_X4_looked, m_isT ht, e1, e4, J_X4_looked_35, bd_e, bo_e, bm_e, bts_l, bts_r, btm_l, btm_r, bp_lt, ck_ib, ck_z, ck_o, ifT, ifF, n10, n01, pv_v, if_pos, if_neg, zI_nat, zI_add, zI_mul, zI_addl, zI_laddl, zI_mull, zI_lmul, zI_subl, zI_pred, zI_le, zI_lt, zI_eq, zI_lel, zI_lle, zI_ltl, zI_llt, zI_eql, zI_leq, zI_ne1, zI_1ne]
      rw [e5]
      exact mok_q r1 e2 _ r2
    · obtain ⟨m2, o1, o2⟩ := qp mi hP
      obtain ⟨hP2, hF2⟩ := prel_frq hP o2
      have e : F_X3_looked (zI t) q mi = some (.inl (-1), m2) := by
        simp (discharger := omega) only [F_X3_looked, p_isT ht, p_req1, o1, bd_e, bo_e, bm_e, bts_l, bts_r, btm_l, btm_r, bp_lt, ck_ib, ck_z, ck_o, ifT, ifF, n10, n01, pv_v, if_pos, if_neg, zI_nat, zI_add, zI_mul, zI_addl, zI_laddl, zI_mull, zI_lmul, zI_subl, zI_pred, zI_le, zI_lt, zI_eq, zI_lel, zI_lle, zI_ltl, zI_llt, zI_eql, zI_leq, zI_ne1, zI_1ne]
      refine ok_val hM e hP2 hF2 hA (fun m' hm => ?_)
      obtain ⟨x2, e1, e2⟩ := qm _ (mrel_6 hm 0)
      obtain ⟨r1, r2⟩ := mrel_frx (mrel_6 hm 0) e2
      have e5 : F_X4_looked (zI t) q m' = some (-1, x2) := by
        simp (discharger := omega) only [F_X4_looked, m_isT ht, e1, J_X4_looked_35, bd_e, bo_e, bm_e, bts_l, bts_r, btm_l, btm_r, bp_lt, ck_ib, ck_z, ck_o, ifT, ifF, n10, n01, pv_v, if_pos, if_neg, zI_nat, zI_add, zI_mul, zI_addl, zI_laddl, zI_mull, zI_lmul, zI_subl, zI_pred, zI_le, zI_lt, zI_eq, zI_lel, zI_lle, zI_ltl, zI_llt, zI_eql, zI_leq, zI_ne1, zI_1ne]
      rw [e5]
      exact mok_q r1 e2 _ r2
  · refine ok_err (c := 0) (code := 1) (m1 := mi) hM (by simp (discharger := omega) only [F_X3_looked, p_isT0' hp, p_req0, bd_e, bo_e, bm_e, bts_l, bts_r, btm_l, btm_r, bp_lt, ck_ib, ck_z, ck_o, ifT, ifF, n10, n01, pv_v, if_pos, if_neg, zI_nat, zI_add, zI_mul, zI_addl, zI_laddl, zI_mull, zI_lmul, zI_subl, zI_pred, zI_le, zI_lt, zI_eq, zI_lel, zI_lle, zI_ltl, zI_llt, zI_eql, zI_leq, zI_ne1, zI_1ne]) rfl (by decide) hP (frp_rf _) hA (v' := 0) (fun m' hm => ?_)
    have e2 : F_X4_looked p q m' = some (0, wI (wI m' (3, 0, 0, 0) 6 0) (3, 0, 0, 0) 6 1) := by
      simp (discharger := omega) only [F_X4_looked, m_isT0 hp, m_fails, bd_e, bo_e, bm_e, bts_l, bts_r, btm_l, btm_r, bp_lt, ck_ib, ck_z, ck_o, ifT, ifF, n10, n01, pv_v, if_pos, if_neg, zI_nat, zI_add, zI_mul, zI_addl, zI_laddl, zI_mull, zI_lmul, zI_subl, zI_pred, zI_le, zI_lt, zI_eq, zI_lel, zI_lle, zI_ltl, zI_llt, zI_eql, zI_leq, zI_ne1, zI_1ne]
    rw [e2]
    exact mok_fail hm 1
theorem call_bestIndex (h : St mi) (p : Int32) : CallOK (F_L_bestIndex p mi) (fun m' => F_X4_bestIndex p m') := by
  obtain ⟨w, n, T, k, pa, nn, TT, L, tx, hP, hM, hA⟩ := h
  rcases rng3 p with ⟨t, ht, rfl⟩ | hp
  · rcases quest hA with ⟨nt, tl, ts, tn, hK, qp, qm⟩ | ⟨qp, qm⟩
    · obtain ⟨m2, o1, o2, hQ⟩ := qp mi hP
      obtain ⟨hP2, hF2⟩ := prel_frq hP o2
      have hs2 := hP2.1 6 (by omega)
      obtain ⟨i1, i2, i3, i4, i5, i6, i7, i8, i9, -⟩ := id hA.1
      have pl := p_best hP2.2.2.2.1 hs2 hA.1 hQ hK ht
      have e : F_X3_bestIndex (zI t) mi = some (.inl (bst w n nt tl ts tn t), m2) := by
        simp (discharger := omega) only [F_X3_bestIndex, p_isT ht, p_req1, o1, J_X3_bestIndex_23, pl, bd_e, bo_e, bm_e, bts_l, bts_r, btm_l, btm_r, bp_lt, ck_ib, ck_z, ck_o, ifT, ifF, n10, n01, pv_v, if_pos, if_neg, zI_nat, zI_add, zI_mul, zI_addl, zI_laddl, zI_mull, zI_lmul, zI_subl, zI_pred, zI_le, zI_lt, zI_eq, zI_lel, zI_lle, zI_ltl, zI_llt, zI_eql, zI_leq, zI_ne1, zI_1ne]
      refine ok_val hM e hP2 hF2 hA (fun m' hm => ?_)
      obtain ⟨x2, e1, e2, e3⟩ := qm _ (mrel_6 hm 0)
      obtain ⟨r1, r2⟩ := mrel_frx (mrel_6 hm 0) e2
      have e4 := m_best (mw_of r1 hA.1) i3 i7 i9 i5 e3 hK ht
      have e5 : F_X4_bestIndex (zI t) m' = some (bst w n nt tl ts tn t, x2) := by
        simp (discharger := omega) only [F_X4_bestIndex, m_isT ht, e1, e4, J_X4_bestIndex_34, bd_e, bo_e, bm_e, bts_l, bts_r, btm_l, btm_r, bp_lt, ck_ib, ck_z, ck_o, ifT, ifF, n10, n01, pv_v, if_pos, if_neg, zI_nat, zI_add, zI_mul, zI_addl, zI_laddl, zI_mull, zI_lmul, zI_subl, zI_pred, zI_le, zI_lt, zI_eq, zI_lel, zI_lle, zI_ltl, zI_llt, zI_eql, zI_leq, zI_ne1, zI_1ne]
      rw [e5]
      exact mok_q r1 e2 _ r2
    · obtain ⟨m2, o1, o2⟩ := qp mi hP
      obtain ⟨hP2, hF2⟩ := prel_frq hP o2
      have e : F_X3_bestIndex (zI t) mi = some (.inl (-1), m2) := by
        simp (discharger := omega) only [F_X3_bestIndex, p_isT ht, p_req1, o1, J_X3_bestIndex_23, bd_e, bo_e, bm_e, bts_l, bts_r, btm_l, btm_r, bp_lt, ck_ib, ck_z, ck_o, ifT, ifF, n10, n01, pv_v, if_pos, if_neg, zI_nat, zI_add, zI_mul, zI_addl, zI_laddl, zI_mull, zI_lmul, zI_subl, zI_pred, zI_le, zI_lt, zI_eq, zI_lel, zI_lle, zI_ltl, zI_llt, zI_eql, zI_leq, zI_ne1, zI_1ne]
      refine ok_val hM e hP2 hF2 hA (fun m' hm => ?_)
      obtain ⟨x2, e1, e2⟩ := qm _ (mrel_6 hm 0)
      obtain ⟨r1, r2⟩ := mrel_frx (mrel_6 hm 0) e2
      have e5 : F_X4_bestIndex (zI t) m' = some (-1, x2) := by
        simp (discharger := omega) only [F_X4_bestIndex, m_isT ht, e1, J_X4_bestIndex_34, bd_e, bo_e, bm_e, bts_l, bts_r, btm_l, btm_r, bp_lt, ck_ib, ck_z, ck_o, ifT, ifF, n10, n01, pv_v, if_pos, if_neg, zI_nat, zI_add, zI_mul, zI_addl, zI_laddl, zI_mull, zI_lmul, zI_subl, zI_pred, zI_le, zI_lt, zI_eq, zI_lel, zI_lle, zI_ltl, zI_llt, zI_eql, zI_leq, zI_ne1, zI_1ne]
      rw [e5]
      exact mok_q r1 e2 _ r2
  · refine ok_err (c := 0) (code := 1) (m1 := mi) hM (by simp (discharger := omega) only [F_X3_bestIndex, p_isT0' hp, p_req0, bd_e, bo_e, bm_e, bts_l, bts_r, btm_l, btm_r, bp_lt, ck_ib, ck_z, ck_o, ifT, ifF, n10, n01, pv_v, if_pos, if_neg, zI_nat, zI_add, zI_mul, zI_addl, zI_laddl, zI_mull, zI_lmul, zI_subl, zI_pred, zI_le, zI_lt, zI_eq, zI_lel, zI_lle, zI_ltl, zI_llt, zI_eql, zI_leq, zI_ne1, zI_1ne]) rfl (by decide) hP (frp_rf _) hA (v' := 0) (fun m' hm => ?_)
    have e2 : F_X4_bestIndex p m' = some (0, wI (wI m' (3, 0, 0, 0) 6 0) (3, 0, 0, 0) 6 1) := by
      simp (discharger := omega) only [F_X4_bestIndex, m_isT0 hp, m_fails, bd_e, bo_e, bm_e, bts_l, bts_r, btm_l, btm_r, bp_lt, ck_ib, ck_z, ck_o, ifT, ifF, n10, n01, pv_v, if_pos, if_neg, zI_nat, zI_add, zI_mul, zI_addl, zI_laddl, zI_mull, zI_lmul, zI_subl, zI_pred, zI_le, zI_lt, zI_eq, zI_lel, zI_lle, zI_ltl, zI_llt, zI_eql, zI_leq, zI_ne1, zI_1ne]
    rw [e2]
    exact mok_fail hm 1
theorem call_undo (h : St mi) : CallOK (F_L_undo mi) (fun m' => F_X4_undo m') := by
  obtain ⟨w, n, T, k, pa, nn, TT, L, tx, hP, hM, hA⟩ := h
  by_cases hk : k = 0
  · subst hk
    have g3 := hP.2.2.1
    refine ok_err (c := 1) (code := 1) (m1 := mi) hM (by simp (discharger := omega) only [F_X3_undo, g3, bd_e, bo_e, bm_e, bts_l, bts_r, btm_l, btm_r, bp_lt, ck_ib, ck_z, ck_o, ifT, ifF, n10, n01, pv_v, if_pos, if_neg, zI_nat, zI_add, zI_mul, zI_addl, zI_laddl, zI_mull, zI_lmul, zI_subl, zI_pred, zI_le, zI_lt, zI_eq, zI_lel, zI_lle, zI_ltl, zI_llt, zI_eql, zI_leq, zI_ne1, zI_1ne]) rfl (by decide) hP (frp_rf _) hA (v' := 0) (fun m' hm => ?_)
    have g2 := (mrel_6 hm 0).2.1
    have e2 : F_X4_undo m' = some (0, wI (wI m' (3, 0, 0, 0) 6 0) (3, 0, 0, 0) 6 1) := by
      simp (discharger := omega) only [F_X4_undo, g2, m_fails, bd_e, bo_e, bm_e, bts_l, bts_r, btm_l, btm_r, bp_lt, ck_ib, ck_z, ck_o, ifT, ifF, n10, n01, pv_v, if_pos, if_neg, zI_nat, zI_add, zI_mul, zI_addl, zI_laddl, zI_mull, zI_lmul, zI_subl, zI_pred, zI_le, zI_lt, zI_eq, zI_lel, zI_lle, zI_ltl, zI_llt, zI_eql, zI_leq, zI_ne1, zI_1ne]
    rw [e2]
    exact mok_fail hm 1
  · obtain ⟨m2, e1, e2, e3⟩ := p_undo hP (by omega) hA.2.1
    have hA2 : AInv (pa (k - 1)) (nn (k - 1)) (TT (k - 1)) (k - 1) pa nn TT L tx := ⟨hA.2.2.1 _ (by omega), by have := hA.2.1; omega, fun j hj => hA.2.2.1 j (by omega), hA.2.2.2⟩
    refine ok_val hM e1 e2 e3 hA2 (fun m' hm => ?_)
    obtain ⟨x2, w2, o1, o2, o3, o4, o5⟩ := m_undo hm (by omega) hA.2.1
    exact ⟨x2, w2, o1, o3, eqw_1174 (hA.2.2.1 (k - 1) (by omega)).1 o2, o4, o5⟩
theorem call_append (h : St mi) (v : Int32) : CallOK (F_L_append v mi) (fun m' => F_X4_append v m') := by
  obtain ⟨w, n, T, k, pa, nn, TT, L, tx, hP, hM, hA⟩ := h
  by_cases h1 : v < 33 ∨ 126 < v
  · refine ok_err (c := 0) (code := 1) (m1 := mi) hM (p_append_bad h1) rfl (by decide) hP (frp_rf _) hA (v' := 0) (fun m' hm => ?_)
    have e : F_X4_in v 33 126 (wI m' (3, 0, 0, 0) 6 0) = some 0 := by
      rw [m_in]
      rcases h1 with h | h
      · rw [if_pos h]
      · by_cases h2 : v < 33
        · rw [if_pos h2]
        · rw [if_neg h2, if_pos h]
    have e2 : F_X4_append v m' = some (0, wI (wI m' (3, 0, 0, 0) 6 0) (3, 0, 0, 0) 6 1) := by
      simp (discharger := omega) only [F_X4_append, e, m_fails, bd_e, bo_e, bm_e, bts_l, bts_r, btm_l, btm_r, bp_lt, ck_ib, ck_z, ck_o, ifT, ifF, n10, n01, pv_v, if_pos, if_neg, zI_nat, zI_add, zI_mul, zI_addl, zI_laddl, zI_mull, zI_lmul, zI_subl, zI_pred, zI_le, zI_lt, zI_eq, zI_lel, zI_lle, zI_ltl, zI_llt, zI_eql, zI_leq, zI_ne1, zI_1ne]
    rw [e2]
    exact mok_fail hm 1
  · have a1 : ¬ v < 33 := fun h => h1 (Or.inl h)
    have a2 : ¬ 126 < v := fun h => h1 (Or.inr h)
    by_cases hL : L = 40
    · refine ok_err (c := 1) (code := 2) (m1 := mi) hM (p_append_full hP a1 a2 hL) rfl (by decide) hP (frp_rf _) hA (v' := 0) (fun m' hm => ?_)
      have e : F_X4_in v 33 126 (wI m' (3, 0, 0, 0) 6 0) = some 1 := by
        rw [m_in, if_neg a1, if_neg a2]
      have g4 := (mrel_6 hm 0).2.2.2.1
      rw [hL] at g4
      have e2 : F_X4_append v m' = some (0, wI (wI m' (3, 0, 0, 0) 6 0) (3, 0, 0, 0) 6 2) := by
        simp (discharger := omega) only [F_X4_append, e, g4, m_fails, bd_e, bo_e, bm_e, bts_l, bts_r, btm_l, btm_r, bp_lt, ck_ib, ck_z, ck_o, ifT, ifF, n10, n01, pv_v, if_pos, if_neg, zI_nat, zI_add, zI_mul, zI_addl, zI_laddl, zI_mull, zI_lmul, zI_subl, zI_pred, zI_le, zI_lt, zI_eq, zI_lel, zI_lle, zI_ltl, zI_llt, zI_eql, zI_leq, zI_ne1, zI_1ne]
      rw [e2]
      exact mok_fail hm 2
    · have hL2 : L < 40 := by have := hA.2.2.2.1; omega
      obtain ⟨m2, e1, e2, e3⟩ := p_append_ok hP a1 a2 hL2
      have hA2 : AInv w n T k pa nn TT (L + 1) (upd tx L v) := ⟨hA.1, hA.2.1, hA.2.2.1, by omega, fun i hi => by
        unfold upd
        by_cases e : i = L
        · rw [if_pos e]; exact ⟨Int32.not_lt.mp a1, Int32.not_lt.mp a2⟩
        · rw [if_neg e]; exact hA.2.2.2.2 i (by omega)⟩
      refine ok_val hM e1 e2 e3 hA2 (fun m' hm => ?_)
      obtain ⟨x2, o1, o2, o3, o4⟩ := m_append_ok hm a1 a2 hL2
      exact ⟨x2, w, o1, o2, eqw_rf n w, o3, o4⟩
end QK
