/-! what the law asks of each state *-/
section RG
variable {m m2 mi : Mem} {n k L T t l p : Nat} {w tx tl ts tn : Nat → Int32} {pa : Nat → Nat → Int32} {nn TT : Nat → Nat}
theorem t_tenant (h : IS m w n T k pa nn TT L tx) (ht : t < 3) {j : Nat} (hj : j < 9) : F_X3_tenant (zI t) (zI j) m = some (.inl (tenT w n t j)) := p_tenant h.1.2.2.2.1 (h.1.1 6 (by omega)) h.2.1.1 ht hj
theorem t_row (h : IS m w n T k pa nn TT L tx) {r j : Nat} (hr : r < n) (hj : j < 10) : F_X3_rowOf (zI r) (zI j) m = some (.inl (rowT w r j)) := p_rowOf h.1.2.2.2.1 (h.1.1 6 (by omega)) h.2.1.1 hr hj
theorem t_column (h : IS m w n T k pa nn TT L tx) (ht : t < 3) {c j : Nat} (hc : c < 8) (hj : j < 6) : F_X3_column (zI t) (zI c) (zI j) m = some (.inl (colT w n t c j)) := p_column h.1.2.2.2.1 (h.1.1 6 (by omega)) h.2.1.1 ht hc hj
theorem t_count (h : IS m w n T k pa nn TT L tx) {j : Nat} (hj : j < 8) : F_X3_count (zI j) m = some (.inl (cntT w n T (zI k) j)) := by
  have e := p_count h.1.2.2.2.1 (h.1.1 6 (by omega)) h.2.1.1 hj
  rw [h.1.2.2.1] at e
  exact e
theorem a_loop (h : IS m w n T k pa nn TT 3 tx) (hq : RQ tx tl ts tn) (ht : t < 3) (hl : l < 8) : ∃ m2, IS m2 w n T k pa nn TT 3 tx ∧ L_L_asks_64 (zI t) (zI l) fu 0 1 m = C_L_asks_127 (zI t) (zI (aL w 1 tl ts tn t n).length) 1 m2 := by
  have hle := aL_len w 1 tl ts tn t n
  have hn := h.2.1.1.1
  have hmem : ∀ y, IS y w n T k pa nn TT 3 tx → ∀ r, r < n → w (9 * r) = zI t → F_X3_rowOf (zI r) 0 y = some (.inl (zI t)) := fun y hy r hr ho => by
    have e := t_row hy hr (j := 0) (by omega)
    have e2 : rowT w r 0 = zI t := ho
    rw [e2] at e
    exact e
  rw [← zI_zero]
  refine loop_ex (L := fun k (y : Mem) i => L_L_asks_64 (zI t) (zI l) k i 1 y) (P := fun _ y => IS y w n T k pa nn TT 3 tx) (R := fun o => ∃ m2, IS m2 w n T k pa nn TT 3 tx ∧ o = C_L_asks_127 (zI t) (zI (aL w 1 tl ts tn t n).length) 1 m2) (n := (aL w 1 tl ts tn t n).length) ?_ ?_ (aL w 1 tl ts tn t n).length 0 fu m (by omega) (by rw [fu_eq]; omega) h
  · intro k2 y r hr hy
    obtain ⟨v1, y1, a1, b1, c1⟩ := s_answer hy hq ht (c := -1) (p := r) (Or.inl rfl) (by omega)
    obtain ⟨v2, y2, a2, b2, c2⟩ := s_answer b1 hq ht (c := -1) (p := r) (Or.inl rfl) (by omega)
    obtain ⟨v3, y3, a3, b3, c3⟩ := s_answer b2 hq ht (c := zI l) (p := r) (Or.inr ⟨l, hl, rfl⟩) (by omega)
    rcases c1 with ⟨-, q1, d1, f1, rfl⟩ | ⟨c1, -⟩
    · rcases c2 with ⟨-, q2, d2, f2, rfl⟩ | ⟨c2, -⟩
      · rcases c3 with ⟨-, q3, d3, f3, rfl⟩ | ⟨c3, -⟩
        · have g2 := hmem y2 b2 q2 d2 f2
          have g3 := hmem y3 b3 q3 d3 f3
          have z1 : ¬ zI q1 < 0 := zI_nn (by omega)
          refine Or.inl ⟨y3, b3, ?_⟩
          simp (discharger := omega) only [L_L_asks_64, J_L_asks_119, a1, a2, a3, g2, g3, z1, bd_e, bo_e, bm_e, bts_l, bts_r, btm_l, btm_r, bp_lt, ck_ib, ck_z, ck_o, ifT, ifF, n10, n01, pv_v, if_pos, if_neg, zI_nat, zI_add, zI_mul, zI_addl, zI_laddl, zI_mull, zI_lmul, zI_subl, zI_pred, zI_le, zI_lt, zI_eq, zI_lel, zI_lle, zI_ltl, zI_llt, zI_eql, zI_leq, zI_ne1, zI_1ne]
        · omega
      · omega
    · omega
  · intro k2 y hy
    obtain ⟨v1, y1, a1, b1, c1⟩ := s_answer hy hq ht (c := -1) (p := (aL w 1 tl ts tn t n).length) (Or.inl rfl) (by omega)
    rcases c1 with ⟨c1, -⟩ | ⟨-, rfl⟩
    · omega
    · refine ⟨y1, b1, ?_⟩
      have z1 : (-1 : Int32) < 0 := by decide
      simp (discharger := omega) only [L_L_asks_64, a1, z1, bd_e, bo_e, bm_e, bts_l, bts_r, btm_l, btm_r, bp_lt, ck_ib, ck_z, ck_o, ifT, ifF, n10, n01, pv_v, if_pos, if_neg, zI_nat, zI_add, zI_mul, zI_addl, zI_laddl, zI_mull, zI_lmul, zI_subl, zI_pred, zI_le, zI_lt, zI_eq, zI_lel, zI_lle, zI_ltl, zI_llt, zI_eql, zI_leq, zI_ne1, zI_1ne]
theorem a_end (h : IS m w n T k pa nn TT 3 tx) (hq : RQ tx tl ts tn) (ht : t < 3) : ∃ m2 w2 T2, C_L_asks_127 (zI t) (zI (aL w 1 tl ts tn t n).length) 1 m = some (1, m2) ∧ IS m2 w2 n T2 (svK k) (svF k pa w) (svF k nn n) (svF k TT T) 0 tx := by
  obtain ⟨m1, a1, b1⟩ := s_looked h hq ht 0
  rw [if_pos rfl] at a1
  have a2 := t_tenant b1 ht (j := 6) (by omega)
  have e2 : tenT w n t 6 = w (1165 + t) := rfl
  rw [e2] at a2
  obtain ⟨v, m3, w3, n3, T3, a3, b3, -, rfl, rfl, hC, e65⟩ := s_ask b1 ht hq.1 (fun y hy => hq.2 _ _ _ _ _ _ _ _ b1.2.1 hy)
  have a4 := t_tenant b3 ht (j := 6) (by omega)
  have e4 : tenT w3 n3 t 6 = w3 (1165 + t) := rfl
  rw [e4, e65] at a4
  have hlt := ans_le h.2.1.1 ht tl ts tn
  obtain ⟨m5, a5, b5⟩ := s_looked b3 hq ht 1
  have e5 : lkT w3 n3 1 tl ts tn t (if (1 : Int32) = 0 then w3 (1159 + t) else 1) (-1) = rwsOf w3 n3 t := rfl
  rw [e5] at a5
  have a6 := t_tenant b5 ht (j := 0) (by omega)
  have e6 : tenT w3 n3 t 0 = rwsOf w3 n3 t := rfl
  rw [e6] at a6
  have a7 := t_tenant b5 ht (j := 4) (by omega)
  have e7 : tenT w3 n3 t 4 = w3 (1159 + t) := rfl
  rw [e7] at a7
  have hn := h.2.1.1.1
  have fin : ∀ y, IS y w3 n3 T3 (svK k) (svF k pa w) (svF k nn n3) (svF k TT T) 3 tx → ∃ m2, J_L_asks_225 y = some (1, m2) ∧ IS m2 w3 n3 T3 (svK k) (svF k pa w) (svF k nn n3) (svF k TT T) 0 tx := fun y hy => by
    obtain ⟨v, y2, c1, c2⟩ := s_clear hy
    refine ⟨y2, ?_, c2⟩
    simp (discharger := omega) only [J_L_asks_225, J_L_asks_230, c1, bd_e, bo_e, bm_e, bts_l, bts_r, btm_l, btm_r, bp_lt, ck_ib, ck_z, ck_o, ifT, ifF, n10, n01, pv_v, if_pos, if_neg, zI_nat, zI_add, zI_mul, zI_addl, zI_laddl, zI_mull, zI_lmul, zI_subl, zI_pred, zI_le, zI_lt, zI_eq, zI_lel, zI_lle, zI_ltl, zI_llt, zI_eql, zI_leq, zI_ne1, zI_1ne]
  have a2' : F_X3_tenant (zI t) 6 m1 = some (.inl (w (1165 + t))) := a2
  have a4' : F_X3_tenant (zI t) 6 m3 = some (.inl (w (1165 + t) + lkT w n3 1 tl ts tn t (w (1159 + t)) (-1))) := a4
  have a6' : F_X3_tenant (zI t) 0 m5 = some (.inl (rwsOf w3 n3 t)) := a6
  have a7' : F_X3_tenant (zI t) 4 m5 = some (.inl (w3 (1159 + t))) := a7
  rcases b3.2.1.1.2.2.2.2.2.2.1 t ht with hv | hv
  · obtain ⟨m9, f1, f2⟩ := fin m5 b5
    refine ⟨m9, w3, T3, ?_, f2⟩
    rw [hv] at a7'
    simp (discharger := omega) only [C_L_asks_127, a1, a2', a3, a4', hlt, a5, a6', a7', f1, bd_e, bo_e, bm_e, bts_l, bts_r, btm_l, btm_r, bp_lt, ck_ib, ck_z, ck_o, ifT, ifF, n10, n01, pv_v, if_pos, if_neg, zI_nat, zI_add, zI_mul, zI_addl, zI_laddl, zI_mull, zI_lmul, zI_subl, zI_pred, zI_le, zI_lt, zI_eq, zI_lel, zI_lle, zI_ltl, zI_llt, zI_eql, zI_leq, zI_ne1, zI_1ne]
  · have hv0 : w (1159 + t) = 1 := by rw [← hC (1159 + t) (by omega)]; exact hv
    obtain ⟨m8, a8, b8⟩ := s_best b5 hq ht
    rw [best_mv hv] at a8
    have a9 : F_X3_tenant (zI t) 0 m8 = some (.inl (rwsOf w3 n3 t)) := t_tenant b8 ht (j := 0) (by omega)
    have elk : lkT w n3 1 tl ts tn t (w (1159 + t)) (-1) = rwsOf w3 n3 t := by
      rw [rwsOf_lc hC hn, hv0]; rfl
    obtain ⟨m9, f1, f2⟩ := fin m8 b8
    refine ⟨m9, w3, T3, ?_, f2⟩
    rw [hv] at a7'
    rw [elk] at a1 a4' hlt
    simp (discharger := omega) only [C_L_asks_127, a1, a2', a3, a4', hlt, a5, a6', a7', a8, a9, f1, bd_e, bo_e, bm_e, bts_l, bts_r, btm_l, btm_r, bp_lt, ck_ib, ck_z, ck_o, ifT, ifF, n10, n01, pv_v, if_pos, if_neg, zI_nat, zI_add, zI_mul, zI_addl, zI_laddl, zI_mull, zI_lmul, zI_subl, zI_pred, zI_le, zI_lt, zI_eq, zI_lel, zI_lle, zI_ltl, zI_llt, zI_eql, zI_leq, zI_ne1, zI_1ne]
theorem a_asks (h : IS m w n T k pa nn TT 0 tx) (ht : t < 3) (hl : l < 8) (v : Int32) : ∃ m2 w2 T2 tx2, F_L_asks (zI t) (zI l) v m = some (1, m2) ∧ IS m2 w2 n T2 (svK k) (svF k pa w) (svF k nn n) (svF k TT T) 0 tx2 := by
  obtain ⟨m1, a1, b1⟩ := s_append h (q := 97 + l) (by omega) (by omega) (by omega)
  obtain ⟨d1, hd1, e1⟩ := l_low v (n := 3) (by omega) (by omega) m1
  have e1' : F_L_low v 3 m1 = some (zI d1) := e1
  have go : ∀ sg : Nat, 60 ≤ sg ∧ sg ≤ 62 → ∃ m2 w2 T2 tx2, J_L_asks_39 (zI t) (zI l) v m1 (zI sg) = some (1, m2) ∧ IS m2 w2 n T2 (svK k) (svF k pa w) (svF k nn n) (svF k TT T) 0 tx2 := by
    intro sg hs
    obtain ⟨m3, a3, b3⟩ := s_append b1 (q := sg) (by omega) (by omega) (by omega)
    obtain ⟨d, hd, e3⟩ := l_low (v >>> (4 &&& 31)) (n := 3) (by omega) (by omega) m3
    have e3' : F_L_low (v >>> (4 &&& 31)) 3 m3 = some (zI d) := e3
    obtain ⟨m5, a5, b5⟩ := s_append b3 (q := 48 + d) (by omega) (by omega) (by omega)
    obtain ⟨tl, ts, tn, hq, -, -, -⟩ := q_rq (tx := upd (upd (upd tx 0 (zI (97 + l))) (0 + 1) (zI sg)) (0 + 1 + 1) (zI (48 + d))) hl hs hd (by rw [upd_ne _ (by omega), upd_ne _ (by omega), upd_eq]) (by rw [upd_ne _ (by omega), upd_eq]) (by rw [upd_eq])
    obtain ⟨m6, b6, e6⟩ := a_loop b5 hq ht hl
    obtain ⟨m7, w7, T7, e7, b7⟩ := a_end b6 hq ht
    refine ⟨m7, w7, T7, _, ?_, b7⟩
    simp (discharger := omega) only [J_L_asks_39, a3, e3', a5, e6, e7, bd_e, bo_e, bm_e, bts_l, bts_r, btm_l, btm_r, bp_lt, ck_ib, ck_z, ck_o, ifT, ifF, n10, n01, pv_v, if_pos, if_neg, zI_nat, zI_add, zI_mul, zI_addl, zI_laddl, zI_mull, zI_lmul, zI_subl, zI_pred, zI_le, zI_lt, zI_eq, zI_lel, zI_lle, zI_ltl, zI_llt, zI_eql, zI_leq, zI_ne1, zI_1ne]
  rcases (show d1 = 0 ∨ d1 = 1 ∨ d1 = 2 by omega) with rfl | rfl | rfl
  · obtain ⟨m2, w2, T2, tx2, f1, f2⟩ := go 61 (by omega)
    refine ⟨m2, w2, T2, tx2, ?_, f2⟩
    have f1' : J_L_asks_39 (zI t) (zI l) v m1 61 = some (1, m2) := f1
    simp (discharger := omega) only [F_L_asks, a1, e1', f1', bd_e, bo_e, bm_e, bts_l, bts_r, btm_l, btm_r, bp_lt, ck_ib, ck_z, ck_o, ifT, ifF, n10, n01, pv_v, if_pos, if_neg, zI_nat, zI_add, zI_mul, zI_addl, zI_laddl, zI_mull, zI_lmul, zI_subl, zI_pred, zI_le, zI_lt, zI_eq, zI_lel, zI_lle, zI_ltl, zI_llt, zI_eql, zI_leq, zI_ne1, zI_1ne]
  · obtain ⟨m2, w2, T2, tx2, f1, f2⟩ := go 60 (by omega)
    refine ⟨m2, w2, T2, tx2, ?_, f2⟩
    have f1' : J_L_asks_39 (zI t) (zI l) v m1 60 = some (1, m2) := f1
    simp (discharger := omega) only [F_L_asks, a1, e1', f1', bd_e, bo_e, bm_e, bts_l, bts_r, btm_l, btm_r, bp_lt, ck_ib, ck_z, ck_o, ifT, ifF, n10, n01, pv_v, if_pos, if_neg, zI_nat, zI_add, zI_mul, zI_addl, zI_laddl, zI_mull, zI_lmul, zI_subl, zI_pred, zI_le, zI_lt, zI_eq, zI_lel, zI_lle, zI_ltl, zI_llt, zI_eql, zI_leq, zI_ne1, zI_1ne]
  · obtain ⟨m2, w2, T2, tx2, f1, f2⟩ := go 62 (by omega)
    refine ⟨m2, w2, T2, tx2, ?_, f2⟩
    have f1' : J_L_asks_39 (zI t) (zI l) v m1 62 = some (1, m2) := f1
    simp (discharger := omega) only [F_L_asks, a1, e1', f1', bd_e, bo_e, bm_e, bts_l, bts_r, btm_l, btm_r, bp_lt, ck_ib, ck_z, ck_o, ifT, ifF, n10, n01, pv_v, if_pos, if_neg, zI_nat, zI_add, zI_mul, zI_addl, zI_laddl, zI_mull, zI_lmul, zI_subl, zI_pred, zI_le, zI_lt, zI_eq, zI_lel, zI_lle, zI_ltl, zI_llt, zI_eql, zI_leq, zI_ne1, zI_1ne]
end RG
