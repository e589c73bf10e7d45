/-! what the law looks at in each state *-/
section RH
variable {m m2 mi : Mem} {n k L T t l p : Nat} {w tx : Nat → Int32} {pa : Nat → Nat → Int32} {nn TT : Nat → Nat}
theorem vq {v : Int32} (h1 : -9999 ≤ v.toInt) (h2 : v.toInt ≤ 9999) : ∃ q : Nat, v + 10000 = zI q ∧ (q : Int) = v.toInt + 10000 := by
  refine ⟨(v.toInt + 10000).toNat, Int32.toInt_inj.mp ?_, by omega⟩
  have e : ((10000 : Int32)).toInt = 10000 := by decide
  rw [Int32.toInt_add, e, zI_int (by omega), Int.bmod_eq_of_le (by omega) (by omega)]
  omega
theorem fit_q {kd : Nat} {v : Int32} (hk : kd < 3) (hf : ftK (zI kd) v = 1) : ∃ q, v + 10000 = zI q ∧ q < 20000 ∧ ((kd = 0 ∧ 9001 ≤ q ∧ q ≤ 10999) ∨ (kd = 1 ∧ 10000 ≤ q ∧ q ≤ 10001) ∨ (kd = 2 ∧ 10000 ≤ q ∧ q ≤ 13650)) := by
  have go : ∀ (a b : Int32) (x y : Int), a.toInt = x → b.toInt = y → (if v < a then (0 : Int32) else if b < v then 0 else 1) = 1 → x ≤ v.toInt ∧ v.toInt ≤ y := by
    intro a b x y ha hb h
    by_cases h1 : v < a
    · rw [if_pos h1] at h; exact absurd h (by decide)
    · rw [if_neg h1] at h
      by_cases h2 : b < v
      · rw [if_pos h2] at h; exact absurd h (by decide)
      · rw [Int32.lt_iff_toInt_lt] at h1 h2
        omega
  unfold ftK at hf
  rcases (show kd = 0 ∨ kd = 1 ∨ kd = 2 by omega) with rfl | rfl | rfl
  · rw [if_pos (show zI 0 = 0 from rfl)] at hf
    obtain ⟨b1, b2⟩ := go (-999) 999 (-999) 999 (by decide) (by decide) hf
    obtain ⟨q, e1, e2⟩ := vq (v := v) (by omega) (by omega)
    exact ⟨q, e1, by omega, Or.inl ⟨rfl, by omega, by omega⟩⟩
  · rw [if_neg (show ¬ zI 1 = 0 by decide), if_pos (show zI 1 = 1 from rfl)] at hf
    obtain ⟨b1, b2⟩ := go 0 1 0 1 (by decide) (by decide) hf
    obtain ⟨q, e1, e2⟩ := vq (v := v) (by omega) (by omega)
    exact ⟨q, e1, by omega, Or.inr (Or.inl ⟨rfl, by omega, by omega⟩)⟩
  · rw [if_neg (show ¬ zI 2 = 0 by decide), if_neg (show ¬ zI 2 = 1 by decide)] at hf
    obtain ⟨b1, b2⟩ := go 0 3650 0 3650 (by decide) (by decide) hf
    obtain ⟨q, e1, e2⟩ := vq (v := v) (by omega) (by omega)
    exact ⟨q, e1, by omega, Or.inr (Or.inr ⟨rfl, by omega, by omega⟩)⟩
theorem tb_row (h : IS m w n T k pa nn TT L tx) {r : Nat} (hr : r < n) (ht : t < 3) (ho : w (9 * r) = zI t) (v71 : Int32) (kb : Int32 → Int32 → Int32 → Option Int32) (v78 : Int32) : L_L_table_94 m v71 (zI r) kb (zI t) v78 fu 1 0 0 = C_L_table_229 m v71 (zI r) kb v78 1 (valsIn w r) := by
  refine loop_sg0 (L := fun k a i => L_L_table_94 m v71 (zI r) kb (zI t) v78 k 1 a i) (f := fun c => if w (9 * r + 1 + c) = -100000 then 0 else 1) (c := fun a => C_L_table_229 m v71 (zI r) kb v78 1 a) (n := 8) ?_ ?_ fu (by rw [fu_eq]; omega)
  · intro k2 a c hc
    have e1 := t_row h hr (j := 1 + c) (by omega)
    have er : rowT w r (1 + c) = if w (9 * r + 1 + c) = -100000 then -1 else w (9 * r + 1 + c) + 10000 := by
      unfold rowT
      rw [if_neg (by omega), if_neg (by omega), Nat.add_sub_cancel_left]
    have e2 : F_X3_column (zI t) (zI c) 1 m = some (.inl (colT w n t c 1)) := t_column h ht hc (j := 1) (by omega)
    rw [er] at e1
    by_cases hw : w (9 * r + 1 + c) = -100000
    · rw [if_pos hw] at e1
      rw [if_pos hw]
      simp (discharger := omega) only [L_L_table_94, J_L_table_142, J_L_table_216, J_L_table_221, e1, e2, bd_e, bo_e, bm_e, bts_l, bts_r, btm_l, btm_r, bp_lt, ck_ib, ck_z, ck_o, ifT, ifF, n10, n01, pv_v, if_pos, if_neg, zI_nat, zI_add, zI_mul, zI_addl, zI_laddl, zI_mull, zI_lmul, zI_subl, zI_pred, zI_le, zI_lt, zI_eq, zI_lel, zI_lle, zI_ltl, zI_llt, zI_eql, zI_leq, zI_ne1, zI_1ne]
    · rw [if_neg hw] at e1
      rw [if_neg hw]
      rcases h.2.2.1.1 r hr t ht ho c hc with hx | ⟨hl, hf⟩
      · exact absurd hx hw
      · obtain ⟨kd, hkd, ek⟩ := h.2.2.1.2.1 t ht c hc hl
        rw [ek] at hf
        obtain ⟨q, eq, hq, hcase⟩ := fit_q hkd hf
        rw [eq] at e1
        have ec : colT w n t c 1 = zI kd := by
          unfold colT
          rw [if_neg hl]; exact ek
        rw [ec] at e2
        rcases hcase with ⟨rfl, h1, h2⟩ | ⟨rfl, h1, h2⟩ | ⟨rfl, h1, h2⟩
        · simp (discharger := omega) only [L_L_table_94, J_L_table_142, J_L_table_216, J_L_table_221, e1, e2, bd_e, bo_e, bm_e, bts_l, bts_r, btm_l, btm_r, bp_lt, ck_ib, ck_z, ck_o, ifT, ifF, n10, n01, pv_v, if_pos, if_neg, zI_nat, zI_add, zI_mul, zI_addl, zI_laddl, zI_mull, zI_lmul, zI_subl, zI_pred, zI_le, zI_lt, zI_eq, zI_lel, zI_lle, zI_ltl, zI_llt, zI_eql, zI_leq, zI_ne1, zI_1ne]
        · simp (discharger := omega) only [L_L_table_94, J_L_table_142, e1, e2, bd_e, bo_e, bm_e, bts_l, bts_r, btm_l, btm_r, bp_lt, ck_ib, ck_z, ck_o, ifT, ifF, n10, n01, pv_v, if_pos, if_neg, zI_nat, zI_add, zI_mul, zI_addl, zI_laddl, zI_mull, zI_lmul, zI_subl, zI_pred, zI_le, zI_lt, zI_eq, zI_lel, zI_lle, zI_ltl, zI_llt, zI_eql, zI_leq, zI_ne1, zI_1ne]
          simp (discharger := omega) only [J_L_table_172, bd_e, bo_e, bm_e, bts_l, bts_r, btm_l, btm_r, bp_lt, ck_ib, ck_z, ck_o, ifT, ifF, n10, n01, pv_v, if_pos, if_neg, zI_nat, zI_add, zI_mul, zI_addl, zI_laddl, zI_mull, zI_lmul, zI_subl, zI_pred, zI_le, zI_lt, zI_eq, zI_lel, zI_lle, zI_ltl, zI_llt, zI_eql, zI_leq, zI_ne1, zI_1ne]
          simp (discharger := omega) only [J_L_table_216, J_L_table_221, bd_e, bo_e, bm_e, bts_l, bts_r, btm_l, btm_r, bp_lt, ck_ib, ck_z, ck_o, ifT, ifF, n10, n01, pv_v, if_pos, if_neg, zI_nat, zI_add, zI_mul, zI_addl, zI_laddl, zI_mull, zI_lmul, zI_subl, zI_pred, zI_le, zI_lt, zI_eq, zI_lel, zI_lle, zI_ltl, zI_llt, zI_eql, zI_leq, zI_ne1, zI_1ne]
        · simp (discharger := omega) only [L_L_table_94, J_L_table_142, e1, e2, bd_e, bo_e, bm_e, bts_l, bts_r, btm_l, btm_r, bp_lt, ck_ib, ck_z, ck_o, ifT, ifF, n10, n01, pv_v, if_pos, if_neg, zI_nat, zI_add, zI_mul, zI_addl, zI_laddl, zI_mull, zI_lmul, zI_subl, zI_pred, zI_le, zI_lt, zI_eq, zI_lel, zI_lle, zI_ltl, zI_llt, zI_eql, zI_leq, zI_ne1, zI_1ne]
          simp (discharger := omega) only [J_L_table_172, bd_e, bo_e, bm_e, bts_l, bts_r, btm_l, btm_r, bp_lt, ck_ib, ck_z, ck_o, ifT, ifF, n10, n01, pv_v, if_pos, if_neg, zI_nat, zI_add, zI_mul, zI_addl, zI_laddl, zI_mull, zI_lmul, zI_subl, zI_pred, zI_le, zI_lt, zI_eq, zI_lel, zI_lle, zI_ltl, zI_llt, zI_eql, zI_leq, zI_ne1, zI_1ne]
          simp (discharger := omega) only [J_L_table_194, bd_e, bo_e, bm_e, bts_l, bts_r, btm_l, btm_r, bp_lt, ck_ib, ck_z, ck_o, ifT, ifF, n10, n01, pv_v, if_pos, if_neg, zI_nat, zI_add, zI_mul, zI_addl, zI_laddl, zI_mull, zI_lmul, zI_subl, zI_pred, zI_le, zI_lt, zI_eq, zI_lel, zI_lle, zI_ltl, zI_llt, zI_eql, zI_leq, zI_ne1, zI_1ne]
          simp (discharger := omega) only [J_L_table_216, J_L_table_221, bd_e, bo_e, bm_e, bts_l, bts_r, btm_l, btm_r, bp_lt, ck_ib, ck_z, ck_o, ifT, ifF, n10, n01, pv_v, if_pos, if_neg, zI_nat, zI_add, zI_mul, zI_addl, zI_laddl, zI_mull, zI_lmul, zI_subl, zI_pred, zI_le, zI_lt, zI_eq, zI_lel, zI_lle, zI_ltl, zI_llt, zI_eql, zI_leq, zI_ne1, zI_1ne]
  · intro k2 a
    simp (discharger := omega) only [L_L_table_94, Nat.le_refl, bd_e, bo_e, bm_e, bts_l, bts_r, btm_l, btm_r, bp_lt, ck_ib, ck_z, ck_o, ifT, ifF, n10, n01, pv_v, if_pos, if_neg, zI_nat, zI_add, zI_mul, zI_addl, zI_laddl, zI_mull, zI_lmul, zI_subl, zI_pred, zI_le, zI_lt, zI_eq, zI_lel, zI_lle, zI_ltl, zI_llt, zI_eql, zI_leq, zI_ne1, zI_1ne]
theorem tb_c0 (h : IS m w n T k pa nn TT L tx) : F_X3_count 0 m = some (.inl (zI T)) := by
  have e : F_X3_count 0 m = some (.inl (inTb w n)) := t_count h (j := 0) (by omega)
  rw [e, inTb_T h.2.1.1.2.2.1 h.2.1.1.2.2.2.2.2.2.1 h.2.1.1.2.2.2.2.2.2.2.1]
theorem tb_rows (h : IS m w n T k pa nn TT L tx) : L_L_table_45 m fu 1 (-1) 0 = C_L_table_300 m 1 := by
  obtain ⟨i1, i2, i3, i4, i5, i6, i7, i8, i9, i10, i11, i12, i13⟩ := id h.2.1.1
  have c0 := tb_c0 h
  have c1 : F_X3_count 1 m = some (.inl (zI n)) := t_count h (j := 1) (by omega)
  rw [← zI_zero]
  refine loop_ex (L := fun k a i => L_L_table_45 m k 1 a i) (P := fun r a => a = -1 ∨ ∃ q, q + 1 = r ∧ T ≤ q ∧ a = w (9 * q)) (R := fun y => y = C_L_table_300 m 1) (n := n) ?_ ?_ n 0 fu (-1) (by omega) (by rw [fu_eq]; omega) (Or.inl rfl)
  · intro k2 a r hr hp
    obtain ⟨t, ht, ho⟩ := i3 r hr
    have hm := mvd_of ht ho
    have r0 : F_X3_rowOf (zI r) 0 m = some (.inl (zI t)) := by
      have e := t_row h hr (j := 0) (by omega)
      have e2 : rowT w r 0 = zI t := ho
      rw [e2] at e
      exact e
    have r9 : F_X3_rowOf (zI r) 9 m = some (.inl (valsIn w r)) := t_row h hr (j := 9) (by omega)
    have t4 : F_X3_tenant (zI t) 4 m = some (.inl (w (1159 + t))) := t_tenant h ht (j := 4) (by omega)
    by_cases hT : r < T
    · have hv : w (1159 + t) = 0 := by rw [← hm]; exact i8.2.1 r hT
      have ea : a = -1 := by
        rcases hp with hp | ⟨q, q1, q2, -⟩
        · exact hp
        · omega
      subst ea
      rw [hv] at t4
      have e := fun kb => tb_row h hr ht ho (-1) kb (-1)
      have z1 : ¬ ((-1 : Int32) < -1) := by decide
      refine Or.inl ⟨-1, Or.inl rfl, ?_⟩
      simp (discharger := omega) only [L_L_table_45, J_L_table_86, e, C_L_table_229, J_L_table_265, J_L_table_280, J_L_table_288, c0, c1, r0, r9, t4, z1, bd_e, bo_e, bm_e, bts_l, bts_r, btm_l, btm_r, bp_lt, ck_ib, ck_z, ck_o, ifT, ifF, n10, n01, pv_v, if_pos, if_neg, zI_nat, zI_add, zI_mul, zI_addl, zI_laddl, zI_mull, zI_lmul, zI_subl, zI_pred, zI_le, zI_lt, zI_eq, zI_lel, zI_lle, zI_ltl, zI_llt, zI_eql, zI_leq, zI_ne1, zI_1ne]
    · have hv : w (1159 + t) = 1 := by rw [← hm]; exact i8.2.2 r (by omega) hr
      rw [hv] at t4
      have z1 : ¬ zI t < a := by
        rcases hp with rfl | ⟨q, q1, q2, rfl⟩
        · exact Int32.not_lt.mpr (m1_le (by omega))
        · obtain ⟨t2, ht2, ho2⟩ := i3 q (by omega)
          have h1 := i13 q r (by omega) hr
          unfold cls at h1
          rw [i8.2.2 q q2 (by omega), i8.2.2 r (by omega) hr, if_neg (by decide), if_neg (by decide), ho, ho2, zI_nat (by omega), zI_nat (by omega)] at h1
          rw [ho2, zI_lt (by omega) (by omega)]
          omega
      have e := fun kb => tb_row h hr ht ho a kb (zI t)
      refine Or.inl ⟨zI t, Or.inr ⟨r, rfl, by omega, ho.symm⟩, ?_⟩
      simp (discharger := omega) only [L_L_table_45, J_L_table_86, e, C_L_table_229, J_L_table_265, J_L_table_280, J_L_table_288, c0, c1, r0, r9, t4, z1, bd_e, bo_e, bm_e, bts_l, bts_r, btm_l, btm_r, bp_lt, ck_ib, ck_z, ck_o, ifT, ifF, n10, n01, pv_v, if_pos, if_neg, zI_nat, zI_add, zI_mul, zI_addl, zI_laddl, zI_mull, zI_lmul, zI_subl, zI_pred, zI_le, zI_lt, zI_eq, zI_lel, zI_lle, zI_ltl, zI_llt, zI_eql, zI_leq, zI_ne1, zI_1ne]
  · intro k2 a _
    simp (discharger := omega) only [L_L_table_45, c1, Nat.le_refl, bd_e, bo_e, bm_e, bts_l, bts_r, btm_l, btm_r, bp_lt, ck_ib, ck_z, ck_o, ifT, ifF, n10, n01, pv_v, if_pos, if_neg, zI_nat, zI_add, zI_mul, zI_addl, zI_laddl, zI_mull, zI_lmul, zI_subl, zI_pred, zI_le, zI_lt, zI_eq, zI_lel, zI_lle, zI_ltl, zI_llt, zI_eql, zI_leq, zI_ne1, zI_1ne]
theorem bits (q l : Nat) (hq : q < 256) (hl : l < 8) : ((zI q >>> (zI l &&& 31)) &&& 1) = (if q.testBit l = true then 1 else 0) ∧ zI q ||| (1 <<< (zI l &&& 31)) = zI (q ||| 2 ^ l) := by
  have h : ∀ q : Fin 256, ∀ l : Fin 8, ((zI q.1 >>> (zI l.1 &&& 31)) &&& 1) = (if q.1.testBit l.1 = true then 1 else 0) ∧ zI q.1 ||| (1 <<< (zI l.1 &&& 31)) = zI (q.1 ||| 2 ^ l.1) := by decide +kernel
  exact h ⟨q, hq⟩ ⟨l, hl⟩
theorem nWith_cn (w : Nat → Int32) (n t : Nat) (c : Int32) : nWith w n t c = zI (cn (fun r => decide (w (9 * r) = zI t) && !decide (vl w r c = -100000)) n) := by
  unfold nWith
  refine sg_cn (fun r hr => ?_)
  by_cases h1 : w (9 * r) = zI t
  · rw [if_pos h1, decide_eq_true h1, Bool.true_and]
    by_cases h2 : vl w r c = -100000
    · rw [if_pos h2, decide_eq_true h2]; rfl
    · rw [if_neg h2, decide_eq_false h2]; rfl
  · rw [if_neg h1, decide_eq_false h1]; rfl
theorem unOf_cn (w : Nat → Int32) (n t : Nat) (c : Int32) : unOf w n t c = zI (cn (fun r => decide (w (9 * r) = zI t) && (!decide (vl w r c = -100000) && frst w t c r)) n) := by
  unfold unOf
  refine sg_cn (fun r hr => ?_)
  by_cases h1 : w (9 * r) = zI t
  · rw [if_pos h1, decide_eq_true h1, Bool.true_and]
    by_cases h2 : vl w r c = -100000
    · rw [if_pos h2, decide_eq_true h2]; rfl
    · rw [if_neg h2, decide_eq_false h2]; rfl
  · rw [if_neg h1, decide_eq_false h1]; rfl
theorem with_le (w : Nat → Int32) (hn : n ≤ 120) (t : Nat) (c : Int32) : (¬ rwsOf w n t < nWith w n t c) ∧ ¬ nWith w n t c < unOf w n t c := by
  have b1 := cn_le (fun r => decide (w (9 * r) = zI t)) n
  have b2 := cn_le (fun r => decide (w (9 * r) = zI t) && !decide (vl w r c = -100000)) n
  have b3 := cn_le (fun r => decide (w (9 * r) = zI t) && (!decide (vl w r c = -100000) && frst w t c r)) n
  have m1 : cn (fun r => decide (w (9 * r) = zI t) && !decide (vl w r c = -100000)) n ≤ cn (fun r => decide (w (9 * r) = zI t)) n := cn_mono (fun r _ h => by
    rw [Bool.and_eq_true] at h
    exact h.1)
  have m2 : cn (fun r => decide (w (9 * r) = zI t) && (!decide (vl w r c = -100000) && frst w t c r)) n ≤ cn (fun r => decide (w (9 * r) = zI t) && !decide (vl w r c = -100000)) n := cn_mono (fun r _ h => by
    rw [Bool.and_eq_true, Bool.and_eq_true] at h
    rw [Bool.and_eq_true]
    exact ⟨h.1, h.2.1⟩)
  rw [nWith_cn, unOf_cn, own_cn, zI_lt (by omega) (by omega), zI_lt (by omega) (by omega)]
  omega
theorem tb_cols (h : IS m w n T k pa nn TT L tx) (ht : t < 3) (v21 v22 v23 : Int32) (kb : Int32 → Int32 → Int32 → Int32 → Int32 → Option Int32) : L_L_table_323 m v21 v22 v23 (zI t) kb fu 1 0 0 0 = C_L_table_450 m v21 v22 v23 (zI t) kb 1 (mngs w t) := by
  obtain ⟨i1, i2, i3, i4, i5, i6, i7, i8, i9, i10, i11, i12, i13⟩ := id h.2.1.1
  have t0 : F_X3_tenant (zI t) 0 m = some (.inl (rwsOf w n t)) := t_tenant h ht (j := 0) (by omega)
  have start : L_L_table_323 m v21 v22 v23 (zI t) kb fu 1 0 0 0 = L_L_table_323 m v21 v22 v23 (zI t) kb fu 1 0 0 (zI 0) := rfl
  rw [start]
  refine loop_ex (L := fun k (a : Int32 × Int32) i => L_L_table_323 m v21 v22 v23 (zI t) kb k 1 a.1 a.2 i) (P := fun c a => (∃ q, q < 256 ∧ a.1 = zI q ∧ ∀ l, l < 8 → (q.testBit l = true ↔ ∃ c2, c2 < c ∧ w (1081 + 8 * t + c2) = zI l)) ∧ a.2 = sg (fun c => if w (1081 + 8 * t + c) = -1 then 0 else 1) c) (R := fun y => y = C_L_table_450 m v21 v22 v23 (zI t) kb 1 (mngs w t)) (n := 8) ?_ ?_ 8 0 fu (0, 0) (by omega) (by rw [fu_eq]; omega) ⟨⟨0, by omega, rfl, fun l _ => ⟨fun h => by rw [Nat.zero_testBit] at h; exact absurd h (by decide), fun ⟨c2, h, _⟩ => absurd h (Nat.not_lt_zero _)⟩⟩, rfl⟩
  · rintro k2 ⟨x, y⟩ c hc ⟨⟨q, hq, e1, hb⟩, e2⟩
    simp only at e1 e2
    subst e1
    have c0 : F_X3_column (zI t) (zI c) 0 m = some (.inl (colT w n t c 0)) := t_column h ht hc (j := 0) (by omega)
    refine Or.inl ?_
    by_cases hl : w (1081 + 8 * t + c) = -1
    · have e0 : colT w n t c 0 = -1 := if_pos hl
      rw [e0] at c0
      refine ⟨(zI q ||| 0, y + 0), ⟨⟨q, hq, Int32.or_zero, fun l hl8 => (hb l hl8).trans ⟨fun ⟨c2, h1, h2⟩ => ⟨c2, by omega, h2⟩, fun ⟨c2, h1, h2⟩ => ?_⟩⟩, ?_⟩, ?_⟩
      · by_cases e : c2 = c
        · rw [e, hl] at h2
          exact absurd h2.symm (fun h => by rw [zI_ne1 (by omega)] at h; exact h)
        · exact ⟨c2, by omega, h2⟩
      · show y + 0 = sg (fun c => if w (1081 + 8 * t + c) = -1 then 0 else 1) c + (if w (1081 + 8 * t + c) = -1 then 0 else 1)
        rw [if_pos hl, e2]
      · simp (discharger := omega) only [L_L_table_323, J_L_table_402, J_L_table_407, J_L_table_425, J_L_table_441, c0, bd_e, bo_e, bm_e, bts_l, bts_r, btm_l, btm_r, bp_lt, ck_ib, ck_z, ck_o, ifT, ifF, n10, n01, pv_v, if_pos, if_neg, zI_nat, zI_add, zI_mul, zI_addl, zI_laddl, zI_mull, zI_lmul, zI_subl, zI_pred, zI_le, zI_lt, zI_eq, zI_lel, zI_lle, zI_ltl, zI_llt, zI_eql, zI_leq, zI_ne1, zI_1ne]
    · obtain ⟨l0, hl0, el⟩ := (i6 t ht c hc).resolve_left hl
      have e0 : colT w n t c 0 = zI l0 := (if_neg hl).trans el
      rw [e0] at c0
      have c3 : F_X3_column (zI t) (zI c) 3 m = some (.inl (nWith w n t (zI c))) := by
        have e : F_X3_column (zI t) (zI c) 3 m = some (.inl (colT w n t c 3)) := t_column h ht hc (j := 3) (by omega)
        have e2 : colT w n t c 3 = nWith w n t (zI c) := if_neg hl
        rw [e, e2]
      have c5 : F_X3_column (zI t) (zI c) 5 m = some (.inl (unOf w n t (zI c))) := by
        have e : F_X3_column (zI t) (zI c) 5 m = some (.inl (colT w n t c 5)) := t_column h ht hc (j := 5) (by omega)
        have e2 : colT w n t c 5 = unOf w n t (zI c) := if_neg hl
        rw [e, e2]
      obtain ⟨z1, z2⟩ := with_le w i1 t (zI c)
      obtain ⟨b1, b2⟩ := bits q l0 hq hl0
      have hnb : ¬ q.testBit l0 = true := fun hh => by
        obtain ⟨c2, h1, h2⟩ := (hb l0 hl0).mp hh
        have := i5 t ht c2 (by omega) c hc (by rw [h2, el]) (by rw [h2]; exact fun h => by rw [zI_ne1 (by omega)] at h; exact h)
        omega
      rw [if_neg hnb] at b1
      refine ⟨(zI q ||| (1 <<< (zI l0 &&& 31)), y + 1), ⟨⟨q ||| 2 ^ l0, Nat.or_lt_two_pow (n := 8) hq (Nat.pow_lt_pow_right (by omega) hl0), b2, fun l hl8 => ?_⟩, ?_⟩, ?_⟩
      · rw [Nat.testBit_or, Nat.testBit_two_pow, Bool.or_eq_true, hb l hl8, decide_eq_true_eq]
        constructor
        · rintro (⟨c2, h1, h2⟩ | rfl)
          · exact ⟨c2, by omega, h2⟩
          · exact ⟨c, by omega, el⟩
        · rintro ⟨c2, h1, h2⟩
          by_cases e : c2 = c
          · rw [e, el, zI_eq (by omega) (by omega)] at h2
            exact Or.inr h2
          · exact Or.inl ⟨c2, by omega, h2⟩
      · show y + 1 = sg (fun c => if w (1081 + 8 * t + c) = -1 then 0 else 1) c + (if w (1081 + 8 * t + c) = -1 then 0 else 1)
        rw [if_neg hl, e2]
      · simp (discharger := omega) only [L_L_table_323, J_L_table_402, J_L_table_407, J_L_table_425, J_L_table_441, c0, c3, c5, t0, z1, z2, b1, bd_e, bo_e, bm_e, bts_l, bts_r, btm_l, btm_r, bp_lt, ck_ib, ck_z, ck_o, ifT, ifF, n10, n01, pv_v, if_pos, if_neg, zI_nat, zI_add, zI_mul, zI_addl, zI_laddl, zI_mull, zI_lmul, zI_subl, zI_pred, zI_le, zI_lt, zI_eq, zI_lel, zI_lle, zI_ltl, zI_llt, zI_eql, zI_leq, zI_ne1, zI_1ne]
  · rintro k2 ⟨x, y⟩ ⟨-, e2⟩
    simp only at e2
    have e3 : y = mngs w t := e2
    subst e3
    simp (discharger := omega) only [L_L_table_323, Nat.le_refl, bd_e, bo_e, bm_e, bts_l, bts_r, btm_l, btm_r, bp_lt, ck_ib, ck_z, ck_o, ifT, ifF, n10, n01, pv_v, if_pos, if_neg, zI_nat, zI_add, zI_mul, zI_addl, zI_laddl, zI_mull, zI_lmul, zI_subl, zI_pred, zI_le, zI_lt, zI_eq, zI_lel, zI_lle, zI_ltl, zI_llt, zI_eql, zI_leq, zI_ne1, zI_1ne]
theorem tb_tens (h : IS m w n T k pa nn TT L tx) : L_L_table_303 m fu 0 0 0 1 0 = some 1 := by
  obtain ⟨i1, i2, i3, i4, i5, i6, i7, i8, i9, i10, i11, i12, i13⟩ := id h.2.1.1
  have lp := loop_fo0 (L := fun k (a : Int32 × Int32 × Int32) i => L_L_table_303 m k a.1 a.2.1 a.2.2 1 i) (g := fun t a => (a.1 + rwsOf w n t, a.2.1 + (if w (1159 + t) = 1 then 0 else rwsOf w n t), a.2.2 + w (1159 + t))) (c := fun a => C_L_table_525 m a.1 a.2.1 a.2.2 1) (n := 3) (fun k2 a t ht => by
    obtain ⟨x, y, z⟩ := a
    show L_L_table_303 m (k2 + 1) x y z 1 (zI t) = L_L_table_303 m k2 (x + rwsOf w n t) (y + (if w (1159 + t) = 1 then 0 else rwsOf w n t)) (z + w (1159 + t)) 1 (zI (t + 1))
    have e := fun kb => tb_cols h ht x y z kb
    have t0 : F_X3_tenant (zI t) 0 m = some (.inl (rwsOf w n t)) := t_tenant h ht (j := 0) (by omega)
    have t1 : F_X3_tenant (zI t) 1 m = some (.inl (mngs w t)) := t_tenant h ht (j := 1) (by omega)
    have t4 : F_X3_tenant (zI t) 4 m = some (.inl (w (1159 + t))) := t_tenant h ht (j := 4) (by omega)
    rcases i7 t ht with hv | hv
    · rw [hv] at t4
      rw [hv, if_neg (by decide)]
      simp (discharger := omega) only [L_L_table_303, e, C_L_table_450, J_L_table_483, J_L_table_517, t0, t1, t4, bd_e, bo_e, bm_e, bts_l, bts_r, btm_l, btm_r, bp_lt, ck_ib, ck_z, ck_o, ifT, ifF, n10, n01, pv_v, if_pos, if_neg, zI_nat, zI_add, zI_mul, zI_addl, zI_laddl, zI_mull, zI_lmul, zI_subl, zI_pred, zI_le, zI_lt, zI_eq, zI_lel, zI_lle, zI_ltl, zI_llt, zI_eql, zI_leq, zI_ne1, zI_1ne]
    · rw [hv] at t4
      rw [hv, if_pos rfl]
      simp (discharger := omega) only [L_L_table_303, e, C_L_table_450, J_L_table_483, J_L_table_517, t0, t1, t4, bd_e, bo_e, bm_e, bts_l, bts_r, btm_l, btm_r, bp_lt, ck_ib, ck_z, ck_o, ifT, ifF, n10, n01, pv_v, if_pos, if_neg, zI_nat, zI_add, zI_mul, zI_addl, zI_laddl, zI_mull, zI_lmul, zI_subl, zI_pred, zI_le, zI_lt, zI_eq, zI_lel, zI_lle, zI_ltl, zI_llt, zI_eql, zI_leq, zI_ne1, zI_1ne]) (fun k2 a => by
    simp (discharger := omega) only [L_L_table_303, Nat.le_refl, bd_e, bo_e, bm_e, bts_l, bts_r, btm_l, btm_r, bp_lt, ck_ib, ck_z, ck_o, ifT, ifF, n10, n01, pv_v, if_pos, if_neg, zI_nat, zI_add, zI_mul, zI_addl, zI_laddl, zI_mull, zI_lmul, zI_subl, zI_pred, zI_le, zI_lt, zI_eq, zI_lel, zI_lle, zI_ltl, zI_llt, zI_eql, zI_leq, zI_ne1, zI_1ne]) fu (by rw [fu_eq]; omega) (0, 0, 0)
  have lp2 : L_L_table_303 m fu 0 0 0 1 0 = C_L_table_525 m (0 + rwsOf w n 0 + rwsOf w n 1 + rwsOf w n 2) (inTb w n) (sg (fun r => w (1159 + r)) 3) 1 := lp
  rw [lp2]
  have es : 0 + rwsOf w n 0 + rwsOf w n 1 + rwsOf w n 2 = zI n := by
    rw [own_cn, own_cn, own_cn, ← zI_zero, zI_add, zI_add, zI_add, Nat.zero_add, own_sum w n i3 i1]
  rw [es]
  have c1 : F_X3_count 1 m = some (.inl (zI n)) := t_count h (j := 1) (by omega)
  have c0 : F_X3_count 0 m = some (.inl (inTb w n)) := t_count h (j := 0) (by omega)
  have c6 : F_X3_count 6 m = some (.inl (sg (fun r => w (1159 + r)) 3)) := t_count h (j := 6) (by omega)
  have fl := p_share h.1.2.2.2.1 (h.1.1 6 (by omega)) h.2.1.1
  obtain ⟨f1, f2⟩ := sh_in01 h.2.1.1
  simp (discharger := omega) only [C_L_table_525, J_L_table_581, c0, c1, c6, fl, f1, f2, bd_e, bo_e, bm_e, bts_l, bts_r, btm_l, btm_r, bp_lt, ck_ib, ck_z, ck_o, ifT, ifF, n10, n01, pv_v, if_pos, if_neg, zI_nat, zI_add, zI_mul, zI_addl, zI_laddl, zI_mull, zI_lmul, zI_subl, zI_pred, zI_le, zI_lt, zI_eq, zI_lel, zI_lle, zI_ltl, zI_llt, zI_eql, zI_leq, zI_ne1, zI_1ne]
theorem tb_34 (w : Nat → Int32) : ¬ 8 < sg (shF w 2) 8 + (8 - sg (shF w 1) 8) := by
  have sh : ∀ p : Int32, sg (shF w p) 8 = zI (cn (fun c => !decide (mnC w c < p)) 8) := fun p => sg_cn (fun c _ => by
    unfold shF
    by_cases h : mnC w c < p
    · rw [if_pos h, decide_eq_true h]; rfl
    · rw [if_neg h, decide_eq_false h]; rfl)
  have b1 := cn_le (fun c => !decide (mnC w c < 1)) 8
  have m1 : cn (fun c => !decide (mnC w c < 2)) 8 ≤ cn (fun c => !decide (mnC w c < 1)) 8 := cn_mono (fun c _ h => by
    rw [Bool.not_eq_true', decide_eq_false_iff_not] at h ⊢
    exact fun h2 => h (Int32.lt_trans h2 (by decide)))
  rw [sh, sh]
  show ¬ zI 8 < zI _ + (zI 8 - zI _)
  rw [zI_sub b1, zI_add, zI_lt (by omega) (by omega)]
  omega
theorem a_table (h : IS m w n T k pa nn TT L tx) : F_L_table m = some 1 := by
  have c0 := tb_c0 h
  have i12 := h.2.1.1.2.2.2.2.2.2.2.2.2.2.2.1
  have c3 : F_X3_count 3 m = some (.inl (sg (shF w 2) 8)) := t_count h (j := 3) (by omega)
  have c4 : F_X3_count 4 m = some (.inl (8 - sg (shF w 1) 8)) := t_count h (j := 4) (by omega)
  have z := tb_34 w
  have e1 := tb_rows h
  have e2 := tb_tens h
  simp (discharger := omega) only [F_L_table, J_L_table_37, C_L_table_300, c0, c3, c4, z, e1, e2, bd_e, bo_e, bm_e, bts_l, bts_r, btm_l, btm_r, bp_lt, ck_ib, ck_z, ck_o, ifT, ifF, n10, n01, pv_v, if_pos, if_neg, zI_nat, zI_add, zI_mul, zI_addl, zI_laddl, zI_mull, zI_lmul, zI_subl, zI_pred, zI_le, zI_lt, zI_eq, zI_lel, zI_lle, zI_ltl, zI_llt, zI_eql, zI_leq, zI_ne1, zI_1ne]
end RH
