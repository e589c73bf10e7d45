/-! what the law does to a state *-/
def actC (m0 : Mem) (v4 v5 v7 v8 v10 : Int32) : Option (Int32 × Mem) :=
  (if v10 = 0 then (J_L_act_152 m0 v4 v5 v7) else (if v10 = 1 then (J_L_act_152 m0 v4 v5 v7) else (if v10 = 2 then (J_L_act_152 m0 v4 v5 v7) else (if v10 = 3 then (J_L_act_152 m0 v4 v5 v7) else (if v10 = 4 then (J_L_act_152 m0 v4 v5 v7) else (if v10 = 5 then btm (F_X3_forget v5 v7 m0) (fun _ _ => none) fun v37 m38 => some (v37, m38) else (if v10 = 6 then btm (F_X3_pack v5 m0) (fun _ _ => none) fun v39 m40 => some (v39, m40) else (if v10 = 7 then btm (F_X3_index v5 v7 m0) (fun _ _ => none) fun v41 m42 => some (v41, m42) else (if v10 = 8 then (J_L_act_192 m0 v5) else (if v10 = 9 then (J_L_act_192 m0 v5) else (if v10 = 10 then (J_L_act_192 m0 v5) else (if v10 = 11 then (J_L_act_192 m0 v5) else (if v10 = 12 then (J_L_act_192 m0 v5) else (if v10 = 13 then (J_L_act_199 m0 v4 v7 v8) else (if v10 = 14 then (J_L_act_199 m0 v4 v7 v8) else (if v10 = 15 then (J_L_act_199 m0 v4 v7 v8) else (if v10 = 16 then (J_L_act_199 m0 v4 v7 v8) else (if v10 = 17 then (J_L_act_199 m0 v4 v7 v8) else (if v10 = 18 then (if v8 = 0 then J_L_act_280 (-30) m0 else bo (F_L_low v4 v8 m0) fun v46 => btm (F_X3_remove v46 m0) (fun _ _ => none) fun v47 m48 => J_L_act_280 v47 m48) else (if v10 = 19 then (J_L_act_281 m0 v5) else (if v10 = 20 then (J_L_act_281 m0 v5) else (if v10 = 21 then bo (F_L_low v4 2 m0) fun v49 => (if v49 = 0 then (J_L_act_305 m0 v4 v5) 1 else (J_L_act_305 m0 v4 v5) 0) else bm (F_L_undo m0) fun v56 m57 => some (v56, m57)))))))))))))))))))))))
/-- what the law may ask of a step -/
def AQ (j : Nat) (v : Int32) (w : Nat → Int32) (n k : Nat) (w2 : Nat → Int32) (n2 k2 : Nat) : Prop :=
  (j ≤ 21 → (RFQ w w2 v ∧ k2 = svK k) ∨ (v = -30 ∧ RFS w2 = RFS w ∧ k2 = k)) ∧ (8 ≤ j → j ≤ 12 → RFQ w w2 v ∧ ((v < 0 ∧ n2 = n) ∨ (0 ≤ v ∧ n2 = n + 1))) ∧ (j = 18 → v = -30 ∨ n2 + 1 = n) ∧ (22 ≤ j → v = -30 → k2 = k)
def AOut (FA : Option (Int32 × Mem)) (j : Nat) (w : Nat → Int32) (n k : Nat) (tx : Nat → Int32) : Prop := ∃ v m2 w2 n2 T2 k2 pa2 nn2 TT2, FA = some (v, m2) ∧ IS m2 w2 n2 T2 k2 pa2 nn2 TT2 0 tx ∧ AQ j v w n k w2 n2 k2
section RI
variable {m m2 mi : Mem} {n k L T t l p j : Nat} {w tx : Nat → Int32} {pa : Nat → Nat → Int32} {nn TT : Nat → Nat} {F : Option ((Int32 ⊕ Nat) × Mem)} {FA : Option (Int32 × Mem)} {Q : Int32 → (Nat → Int32) → Nat → Prop} {v4 : Int32}
theorem ac_so (hs : SOut F Q w n T k pa nn TT 0 tx) (hj : j ≤ 21) (h8 : ∀ v w2 n2, Q v w2 n2 → 8 ≤ j → j ≤ 12 → (v < 0 ∧ n2 = n) ∨ (0 ≤ v ∧ n2 = n + 1)) (h18 : ∀ v w2 n2, Q v w2 n2 → j = 18 → n2 + 1 = n) (eF : FA = btm F (fun _ _ => none) (fun a b => some (a, b))) : AOut FA j w n k tx := by
  obtain ⟨v, m2, w2, n2, T2, e, hI, hr, hq⟩ := hs
  rw [e, btm_l] at eF
  exact ⟨v, m2, w2, n2, T2, _, _, _, _, eF, hI, fun _ => Or.inl ⟨hr, rfl⟩, fun a b => ⟨hr, h8 v w2 n2 hq a b⟩, fun a => Or.inr (h18 v w2 n2 hq a), fun a => by omega⟩
theorem ac_none (h : IS m w n T k pa nn TT 0 tx) (h13 : 13 ≤ j) (hj : j ≤ 21) (eF : FA = some (-30, m)) : AOut FA j w n k tx :=
  ⟨-30, m, w, n, T, k, pa, nn, TT, eF, h, fun _ => Or.inr ⟨rfl, rfl, rfl⟩, fun a b => by omega, fun _ => Or.inl rfl, fun a => by omega⟩
theorem ac_undo (h : IS m w n T k pa nn TT 0 tx) (hj : 22 ≤ j) (eF : FA = bm (F_L_undo m) fun a b => some (a, b)) : AOut FA j w n k tx := by
  rcases s_undo h with ⟨-, e⟩ | ⟨m2, e, hI⟩
  · rw [e, bm_e] at eF
    exact ⟨-30, m, w, n, T, k, pa, nn, TT, eF, h, fun a => by omega, fun a b => by omega, fun a => by omega, fun _ _ => rfl⟩
  · rw [e, bm_e] at eF
    refine ⟨_, m2, _, _, _, _, _, _, _, eF, hI, fun a => by omega, fun a b => by omega, fun a => by omega, fun _ h30 => ?_⟩
    have h6 := h.2.1.2.1
    exact absurd h30 (fun e => by
      have := congrArg Int32.toInt e
      rw [zI_int (by omega)] at this
      have e2 : ((-30 : Int32)).toInt = -30 := by decide
      omega)
theorem sub200 {e : Nat} (he : e < 4000) : (¬ zI e - 200 < -9999) ∧ ¬ 9999 < zI e - 200 := by
  have e1 : ((200 : Int32)).toInt = 200 := by decide
  have e2 : ((-9999 : Int32)).toInt = -9999 := by decide
  have e3 : ((9999 : Int32)).toInt = 9999 := by decide
  rw [Int32.lt_iff_toInt_lt, Int32.lt_iff_toInt_lt, Int32.toInt_sub, zI_int (by omega), e1, e2, e3, Int.bmod_eq_of_le (by omega) (by omega)]
  omega
theorem ac_put (h : IS m w n T k pa nn TT 0 tx) (hl : l < 8) (h13 : 13 ≤ j) (hj : j ≤ 17) (eF : FA = J_L_act_199 m v4 (zI l) (zI n)) : AOut FA j w n k tx := by
  have hn := h.2.1.1.1
  by_cases h0 : n = 0
  · subst h0
    refine ac_none h h13 (by omega) ?_
    rw [eF]
    simp (discharger := omega) only [J_L_act_199, J_L_act_258, bd_e, bo_e, bm_e, bts_l, bts_r, btm_l, btm_r, bp_lt, ck_ib, ck_z, ck_o, ifT, ifF, n10, n01, pv_v, if_pos, if_neg, zI_nat, zI_add, zI_mul, zI_addl, zI_laddl, zI_mull, zI_lmul, zI_subl, zI_pred, zI_le, zI_lt, zI_eq, zI_lel, zI_lle, zI_ltl, zI_llt, zI_eql, zI_leq, zI_ne1, zI_1ne]
  · obtain ⟨r, hr, e1⟩ := l_low (v4 >>> (4 &&& 31)) (n := n) (by omega) (by omega) m
    obtain ⟨d, hd, e2⟩ := l_low v4 (n := 3) (by omega) (by omega) m
    have e2' : F_L_low v4 3 m = some (zI d) := e2
    have fin : ∀ v : Int32, (¬ v < -9999) → (¬ 9999 < v) → J_L_act_199 m v4 (zI l) (zI n) = J_L_act_255 m (zI l) (zI r) v → AOut FA j w n k tx := fun v a b e => by
      refine ac_so (s_put h hr hl a b) (by omega) (fun _ _ _ _ h1 h2 => by omega) (fun _ _ _ _ h => by omega) ?_
      rw [eF, e]
      simp (discharger := omega) only [J_L_act_255, J_L_act_258, bd_e, bo_e, bm_e, bts_l, bts_r, btm_l, btm_r, bp_lt, ck_ib, ck_z, ck_o, ifT, ifF, n10, n01, pv_v, if_pos, if_neg, zI_nat, zI_add, zI_mul, zI_addl, zI_laddl, zI_mull, zI_lmul, zI_subl, zI_pred, zI_le, zI_lt, zI_eq, zI_lel, zI_lle, zI_ltl, zI_llt, zI_eql, zI_leq, zI_ne1, zI_1ne]
    by_cases hd0 : d = 0
    · obtain ⟨e, he, e3⟩ := l_low (v4 >>> (2 &&& 31)) (n := 4) (by omega) (by omega) m
      have e3' : F_L_low (v4 >>> (2 &&& 31)) 4 m = some (zI e) := e3
      refine fin (zI e) ?_ ?_ ?_
      · exact fun hh => zI_nn (by omega) (Int32.lt_trans hh (by decide))
      · show ¬ zI 9999 < zI e
        rw [zI_lt (by omega) (by omega)]
        omega
      · simp (discharger := omega) only [J_L_act_199, h0, hd0, e1, e2', e3', bd_e, bo_e, bm_e, bts_l, bts_r, btm_l, btm_r, bp_lt, ck_ib, ck_z, ck_o, ifT, ifF, n10, n01, pv_v, if_pos, if_neg, zI_nat, zI_add, zI_mul, zI_addl, zI_laddl, zI_mull, zI_lmul, zI_subl, zI_pred, zI_le, zI_lt, zI_eq, zI_lel, zI_lle, zI_ltl, zI_llt, zI_eql, zI_leq, zI_ne1, zI_1ne]
    · obtain ⟨e, he, e3⟩ := l_low (v4 >>> (2 &&& 31)) (n := 4000) (by omega) (by omega) m
      have e3' : F_L_low (v4 >>> (2 &&& 31)) 4000 m = some (zI e) := e3
      obtain ⟨s1, s2⟩ := sub200 he
      refine fin (zI e - 200) s1 s2 ?_
      obtain ⟨u, hu⟩ : ∃ u, u = zI e - 200 := ⟨_, rfl⟩
      rw [← hu]
      have e4 : bd (zI e - 200) (fun v27 => J_L_act_255 m (zI l) (zI r) v27) = J_L_act_255 m (zI l) (zI r) u := by rw [hu, bd_e]
      simp (discharger := omega) only [J_L_act_199, h0, hd0, e1, e2', e3', e4, bd_e (v4 >>> (4 &&& 31)), bd_e (v4 >>> (2 &&& 31)), bo_e, ifT, ifF, if_pos, if_neg, zI_nat, zI_add, zI_mul, zI_addl, zI_laddl, zI_mull, zI_lmul, zI_subl, zI_pred, zI_le, zI_lt, zI_eq, zI_lel, zI_lle, zI_ltl, zI_llt, zI_eql, zI_leq, zI_ne1, zI_1ne]
theorem ac_chain (h : IS m w n T k pa nn TT 0 tx) (ht : t < 3) (hl : l < 8) (hj : j < 24) : AOut (actC m v4 (zI t) (zI l) (zI n) (zI j)) j w n k tx := by
  have hn := h.2.1.1.1
  rcases (show j = 0 ∨ j = 1 ∨ j = 2 ∨ j = 3 ∨ j = 4 ∨ j = 5 ∨ j = 6 ∨ j = 7 ∨ j = 8 ∨ j = 9 ∨ j = 10 ∨ j = 11 ∨ j = 12 ∨ j = 13 ∨ j = 14 ∨ j = 15 ∨ j = 16 ∨ j = 17 ∨ j = 18 ∨ j = 19 ∨ j = 20 ∨ j = 21 ∨ j = 22 ∨ j = 23 by omega) with rfl | rfl | rfl | rfl | rfl | rfl | rfl | rfl | rfl | rfl | rfl | rfl | rfl | rfl | rfl | rfl | rfl | rfl | rfl | rfl | rfl | rfl | rfl | rfl
  · -- 0
    obtain ⟨kd, hkd, e4⟩ := l_low v4 (n := 3) (by omega) (by omega) m
    have e4' : F_L_low v4 3 m = some (zI kd) := e4
    exact ac_so (s_mean h ht hl hkd) (by omega) (fun _ _ _ _ h1 h2 => by omega) (fun _ _ _ _ h => by omega) (by simp (discharger := omega) only [actC, J_L_act_152, e4', bd_e, bo_e, bm_e, bts_l, bts_r, btm_l, btm_r, bp_lt, ck_ib, ck_z, ck_o, ifT, ifF, n10, n01, pv_v, if_pos, if_neg, zI_nat, zI_add, zI_mul, zI_addl, zI_laddl, zI_mull, zI_lmul, zI_subl, zI_pred, zI_le, zI_lt, zI_eq, zI_lel, zI_lle, zI_ltl, zI_llt, zI_eql, zI_leq, zI_ne1, zI_1ne])
  · -- 1
    obtain ⟨kd, hkd, e4⟩ := l_low v4 (n := 3) (by omega) (by omega) m
    have e4' : F_L_low v4 3 m = some (zI kd) := e4
    exact ac_so (s_mean h ht hl hkd) (by omega) (fun _ _ _ _ h1 h2 => by omega) (fun _ _ _ _ h => by omega) (by simp (discharger := omega) only [actC, J_L_act_152, e4', bd_e, bo_e, bm_e, bts_l, bts_r, btm_l, btm_r, bp_lt, ck_ib, ck_z, ck_o, ifT, ifF, n10, n01, pv_v, if_pos, if_neg, zI_nat, zI_add, zI_mul, zI_addl, zI_laddl, zI_mull, zI_lmul, zI_subl, zI_pred, zI_le, zI_lt, zI_eq, zI_lel, zI_lle, zI_ltl, zI_llt, zI_eql, zI_leq, zI_ne1, zI_1ne])
  · -- 2
    obtain ⟨kd, hkd, e4⟩ := l_low v4 (n := 3) (by omega) (by omega) m
    have e4' : F_L_low v4 3 m = some (zI kd) := e4
    exact ac_so (s_mean h ht hl hkd) (by omega) (fun _ _ _ _ h1 h2 => by omega) (fun _ _ _ _ h => by omega) (by simp (discharger := omega) only [actC, J_L_act_152, e4', bd_e, bo_e, bm_e, bts_l, bts_r, btm_l, btm_r, bp_lt, ck_ib, ck_z, ck_o, ifT, ifF, n10, n01, pv_v, if_pos, if_neg, zI_nat, zI_add, zI_mul, zI_addl, zI_laddl, zI_mull, zI_lmul, zI_subl, zI_pred, zI_le, zI_lt, zI_eq, zI_lel, zI_lle, zI_ltl, zI_llt, zI_eql, zI_leq, zI_ne1, zI_1ne])
  · -- 3
    obtain ⟨kd, hkd, e4⟩ := l_low v4 (n := 3) (by omega) (by omega) m
    have e4' : F_L_low v4 3 m = some (zI kd) := e4
    exact ac_so (s_mean h ht hl hkd) (by omega) (fun _ _ _ _ h1 h2 => by omega) (fun _ _ _ _ h => by omega) (by simp (discharger := omega) only [actC, J_L_act_152, e4', bd_e, bo_e, bm_e, bts_l, bts_r, btm_l, btm_r, bp_lt, ck_ib, ck_z, ck_o, ifT, ifF, n10, n01, pv_v, if_pos, if_neg, zI_nat, zI_add, zI_mul, zI_addl, zI_laddl, zI_mull, zI_lmul, zI_subl, zI_pred, zI_le, zI_lt, zI_eq, zI_lel, zI_lle, zI_ltl, zI_llt, zI_eql, zI_leq, zI_ne1, zI_1ne])
  · -- 4
    obtain ⟨kd, hkd, e4⟩ := l_low v4 (n := 3) (by omega) (by omega) m
    have e4' : F_L_low v4 3 m = some (zI kd) := e4
    exact ac_so (s_mean h ht hl hkd) (by omega) (fun _ _ _ _ h1 h2 => by omega) (fun _ _ _ _ h => by omega) (by simp (discharger := omega) only [actC, J_L_act_152, e4', bd_e, bo_e, bm_e, bts_l, bts_r, btm_l, btm_r, bp_lt, ck_ib, ck_z, ck_o, ifT, ifF, n10, n01, pv_v, if_pos, if_neg, zI_nat, zI_add, zI_mul, zI_addl, zI_laddl, zI_mull, zI_lmul, zI_subl, zI_pred, zI_le, zI_lt, zI_eq, zI_lel, zI_lle, zI_ltl, zI_llt, zI_eql, zI_leq, zI_ne1, zI_1ne])
  · -- 5
    exact ac_so (s_forget h ht hl) (by omega) (fun _ _ _ _ h1 h2 => by omega) (fun _ _ _ _ h => by omega) (by simp (discharger := omega) only [actC, bd_e, bo_e, bm_e, bts_l, bts_r, btm_l, btm_r, bp_lt, ck_ib, ck_z, ck_o, ifT, ifF, n10, n01, pv_v, if_pos, if_neg, zI_nat, zI_add, zI_mul, zI_addl, zI_laddl, zI_mull, zI_lmul, zI_subl, zI_pred, zI_le, zI_lt, zI_eq, zI_lel, zI_lle, zI_ltl, zI_llt, zI_eql, zI_leq, zI_ne1, zI_1ne])
  · -- 6
    exact ac_so (s_pack h ht) (by omega) (fun _ _ _ _ h1 h2 => by omega) (fun _ _ _ _ h => by omega) (by simp (discharger := omega) only [actC, bd_e, bo_e, bm_e, bts_l, bts_r, btm_l, btm_r, bp_lt, ck_ib, ck_z, ck_o, ifT, ifF, n10, n01, pv_v, if_pos, if_neg, zI_nat, zI_add, zI_mul, zI_addl, zI_laddl, zI_mull, zI_lmul, zI_subl, zI_pred, zI_le, zI_lt, zI_eq, zI_lel, zI_lle, zI_ltl, zI_llt, zI_eql, zI_leq, zI_ne1, zI_1ne])
  · -- 7
    exact ac_so (s_index h ht hl) (by omega) (fun _ _ _ _ h1 h2 => by omega) (fun _ _ _ _ h => by omega) (by simp (discharger := omega) only [actC, bd_e, bo_e, bm_e, bts_l, bts_r, btm_l, btm_r, bp_lt, ck_ib, ck_z, ck_o, ifT, ifF, n10, n01, pv_v, if_pos, if_neg, zI_nat, zI_add, zI_mul, zI_addl, zI_laddl, zI_mull, zI_lmul, zI_subl, zI_pred, zI_le, zI_lt, zI_eq, zI_lel, zI_lle, zI_ltl, zI_llt, zI_eql, zI_leq, zI_ne1, zI_1ne])
  · -- 8
    exact ac_so (s_row h ht) (by omega) (fun _ _ _ h _ _ => h) (fun _ _ _ _ h => by omega) (by simp (discharger := omega) only [actC, J_L_act_192, bd_e, bo_e, bm_e, bts_l, bts_r, btm_l, btm_r, bp_lt, ck_ib, ck_z, ck_o, ifT, ifF, n10, n01, pv_v, if_pos, if_neg, zI_nat, zI_add, zI_mul, zI_addl, zI_laddl, zI_mull, zI_lmul, zI_subl, zI_pred, zI_le, zI_lt, zI_eq, zI_lel, zI_lle, zI_ltl, zI_llt, zI_eql, zI_leq, zI_ne1, zI_1ne])
  · -- 9
    exact ac_so (s_row h ht) (by omega) (fun _ _ _ h _ _ => h) (fun _ _ _ _ h => by omega) (by simp (discharger := omega) only [actC, J_L_act_192, bd_e, bo_e, bm_e, bts_l, bts_r, btm_l, btm_r, bp_lt, ck_ib, ck_z, ck_o, ifT, ifF, n10, n01, pv_v, if_pos, if_neg, zI_nat, zI_add, zI_mul, zI_addl, zI_laddl, zI_mull, zI_lmul, zI_subl, zI_pred, zI_le, zI_lt, zI_eq, zI_lel, zI_lle, zI_ltl, zI_llt, zI_eql, zI_leq, zI_ne1, zI_1ne])
  · -- 10
    exact ac_so (s_row h ht) (by omega) (fun _ _ _ h _ _ => h) (fun _ _ _ _ h => by omega) (by simp (discharger := omega) only [actC, J_L_act_192, bd_e, bo_e, bm_e, bts_l, bts_r, btm_l, btm_r, bp_lt, ck_ib, ck_z, ck_o, ifT, ifF, n10, n01, pv_v, if_pos, if_neg, zI_nat, zI_add, zI_mul, zI_addl, zI_laddl, zI_mull, zI_lmul, zI_subl, zI_pred, zI_le, zI_lt, zI_eq, zI_lel, zI_lle, zI_ltl, zI_llt, zI_eql, zI_leq, zI_ne1, zI_1ne])
  · -- 11
    exact ac_so (s_row h ht) (by omega) (fun _ _ _ h _ _ => h) (fun _ _ _ _ h => by omega) (by simp (discharger := omega) only [actC, J_L_act_192, bd_e, bo_e, bm_e, bts_l, bts_r, btm_l, btm_r, bp_lt, ck_ib, ck_z, ck_o, ifT, ifF, n10, n01, pv_v, if_pos, if_neg, zI_nat, zI_add, zI_mul, zI_addl, zI_laddl, zI_mull, zI_lmul, zI_subl, zI_pred, zI_le, zI_lt, zI_eq, zI_lel, zI_lle, zI_ltl, zI_llt, zI_eql, zI_leq, zI_ne1, zI_1ne])
  · -- 12
    exact ac_so (s_row h ht) (by omega) (fun _ _ _ h _ _ => h) (fun _ _ _ _ h => by omega) (by simp (discharger := omega) only [actC, J_L_act_192, bd_e, bo_e, bm_e, bts_l, bts_r, btm_l, btm_r, bp_lt, ck_ib, ck_z, ck_o, ifT, ifF, n10, n01, pv_v, if_pos, if_neg, zI_nat, zI_add, zI_mul, zI_addl, zI_laddl, zI_mull, zI_lmul, zI_subl, zI_pred, zI_le, zI_lt, zI_eq, zI_lel, zI_lle, zI_ltl, zI_llt, zI_eql, zI_leq, zI_ne1, zI_1ne])
  · -- 13
    refine ac_put (v4 := v4) h hl (by omega) (by omega) ?_
    simp (discharger := omega) only [actC, bd_e, bo_e, bm_e, bts_l, bts_r, btm_l, btm_r, bp_lt, ck_ib, ck_z, ck_o, ifT, ifF, n10, n01, pv_v, if_pos, if_neg, zI_nat, zI_add, zI_mul, zI_addl, zI_laddl, zI_mull, zI_lmul, zI_subl, zI_pred, zI_le, zI_lt, zI_eq, zI_lel, zI_lle, zI_ltl, zI_llt, zI_eql, zI_leq, zI_ne1, zI_1ne]
  · -- 14
    refine ac_put (v4 := v4) h hl (by omega) (by omega) ?_
    simp (discharger := omega) only [actC, bd_e, bo_e, bm_e, bts_l, bts_r, btm_l, btm_r, bp_lt, ck_ib, ck_z, ck_o, ifT, ifF, n10, n01, pv_v, if_pos, if_neg, zI_nat, zI_add, zI_mul, zI_addl, zI_laddl, zI_mull, zI_lmul, zI_subl, zI_pred, zI_le, zI_lt, zI_eq, zI_lel, zI_lle, zI_ltl, zI_llt, zI_eql, zI_leq, zI_ne1, zI_1ne]
  · -- 15
    refine ac_put (v4 := v4) h hl (by omega) (by omega) ?_
    simp (discharger := omega) only [actC, bd_e, bo_e, bm_e, bts_l, bts_r, btm_l, btm_r, bp_lt, ck_ib, ck_z, ck_o, ifT, ifF, n10, n01, pv_v, if_pos, if_neg, zI_nat, zI_add, zI_mul, zI_addl, zI_laddl, zI_mull, zI_lmul, zI_subl, zI_pred, zI_le, zI_lt, zI_eq, zI_lel, zI_lle, zI_ltl, zI_llt, zI_eql, zI_leq, zI_ne1, zI_1ne]
  · -- 16
    refine ac_put (v4 := v4) h hl (by omega) (by omega) ?_
    simp (discharger := omega) only [actC, bd_e, bo_e, bm_e, bts_l, bts_r, btm_l, btm_r, bp_lt, ck_ib, ck_z, ck_o, ifT, ifF, n10, n01, pv_v, if_pos, if_neg, zI_nat, zI_add, zI_mul, zI_addl, zI_laddl, zI_mull, zI_lmul, zI_subl, zI_pred, zI_le, zI_lt, zI_eq, zI_lel, zI_lle, zI_ltl, zI_llt, zI_eql, zI_leq, zI_ne1, zI_1ne]
  · -- 17
    refine ac_put (v4 := v4) h hl (by omega) (by omega) ?_
    simp (discharger := omega) only [actC, bd_e, bo_e, bm_e, bts_l, bts_r, btm_l, btm_r, bp_lt, ck_ib, ck_z, ck_o, ifT, ifF, n10, n01, pv_v, if_pos, if_neg, zI_nat, zI_add, zI_mul, zI_addl, zI_laddl, zI_mull, zI_lmul, zI_subl, zI_pred, zI_le, zI_lt, zI_eq, zI_lel, zI_lle, zI_ltl, zI_llt, zI_eql, zI_leq, zI_ne1, zI_1ne]
  · -- 18
    by_cases hn : n = 0
    · subst hn
      refine ac_none h (by omega) (by omega) ?_
      simp (discharger := omega) only [actC, J_L_act_280, bd_e, bo_e, bm_e, bts_l, bts_r, btm_l, btm_r, bp_lt, ck_ib, ck_z, ck_o, ifT, ifF, n10, n01, pv_v, if_pos, if_neg, zI_nat, zI_add, zI_mul, zI_addl, zI_laddl, zI_mull, zI_lmul, zI_subl, zI_pred, zI_le, zI_lt, zI_eq, zI_lel, zI_lle, zI_ltl, zI_llt, zI_eql, zI_leq, zI_ne1, zI_1ne]
    · obtain ⟨r, hr, e4⟩ := l_low v4 (n := n) (by omega) (by omega) m
      exact ac_so (s_remove h hr) (by omega) (fun _ _ _ _ h1 h2 => by omega) (fun _ _ _ h _ => h) (by simp (discharger := omega) only [actC, e4, J_L_act_280, bd_e, bo_e, bm_e, bts_l, bts_r, btm_l, btm_r, bp_lt, ck_ib, ck_z, ck_o, ifT, ifF, n10, n01, pv_v, if_pos, if_neg, zI_nat, zI_add, zI_mul, zI_addl, zI_laddl, zI_mull, zI_lmul, zI_subl, zI_pred, zI_le, zI_lt, zI_eq, zI_lel, zI_lle, zI_ltl, zI_llt, zI_eql, zI_leq, zI_ne1, zI_1ne])
  · -- 19
    exact ac_so (s_move h ht) (by omega) (fun _ _ _ _ h1 h2 => by omega) (fun _ _ _ _ h => by omega) (by simp (discharger := omega) only [actC, J_L_act_281, bd_e, bo_e, bm_e, bts_l, bts_r, btm_l, btm_r, bp_lt, ck_ib, ck_z, ck_o, ifT, ifF, n10, n01, pv_v, if_pos, if_neg, zI_nat, zI_add, zI_mul, zI_addl, zI_laddl, zI_mull, zI_lmul, zI_subl, zI_pred, zI_le, zI_lt, zI_eq, zI_lel, zI_lle, zI_ltl, zI_llt, zI_eql, zI_leq, zI_ne1, zI_1ne])
  · -- 20
    exact ac_so (s_move h ht) (by omega) (fun _ _ _ _ h1 h2 => by omega) (fun _ _ _ _ h => by omega) (by simp (discharger := omega) only [actC, J_L_act_281, bd_e, bo_e, bm_e, bts_l, bts_r, btm_l, btm_r, bp_lt, ck_ib, ck_z, ck_o, ifT, ifF, n10, n01, pv_v, if_pos, if_neg, zI_nat, zI_add, zI_mul, zI_addl, zI_laddl, zI_mull, zI_lmul, zI_subl, zI_pred, zI_le, zI_lt, zI_eq, zI_lel, zI_lle, zI_ltl, zI_llt, zI_eql, zI_leq, zI_ne1, zI_1ne])
  · -- 21
    obtain ⟨d, hd, e4⟩ := l_low v4 (n := 2) (by omega) (by omega) m
    have e4' : F_L_low v4 2 m = some (zI d) := e4
    obtain ⟨a, ha, e5⟩ := l_low (v4 >>> (3 &&& 31)) (n := 9) (by omega) (by omega) m
    have e5' : F_L_low (v4 >>> (3 &&& 31)) 9 m = some (zI a) := e5
    by_cases hd0 : d = 0
    · exact ac_so (s_limit h ht 1 (a := a) (by omega)) (by omega) (fun _ _ _ _ h1 h2 => by omega) (fun _ _ _ _ h => by omega) (by simp (discharger := omega) only [actC, e4', e5', hd0, J_L_act_305, bd_e, bo_e, bm_e, bts_l, bts_r, btm_l, btm_r, bp_lt, ck_ib, ck_z, ck_o, ifT, ifF, n10, n01, pv_v, if_pos, if_neg, zI_nat, zI_add, zI_mul, zI_addl, zI_laddl, zI_mull, zI_lmul, zI_subl, zI_pred, zI_le, zI_lt, zI_eq, zI_lel, zI_lle, zI_ltl, zI_llt, zI_eql, zI_leq, zI_ne1, zI_1ne])
    · exact ac_so (s_limit h ht 0 (a := a) (by omega)) (by omega) (fun _ _ _ _ h1 h2 => by omega) (fun _ _ _ _ h => by omega) (by simp (discharger := omega) only [actC, e4', e5', hd0, J_L_act_305, bd_e, bo_e, bm_e, bts_l, bts_r, btm_l, btm_r, bp_lt, ck_ib, ck_z, ck_o, ifT, ifF, n10, n01, pv_v, if_pos, if_neg, zI_nat, zI_add, zI_mul, zI_addl, zI_laddl, zI_mull, zI_lmul, zI_subl, zI_pred, zI_le, zI_lt, zI_eq, zI_lel, zI_lle, zI_ltl, zI_llt, zI_eql, zI_leq, zI_ne1, zI_1ne])
  · -- 22
    refine ac_undo h (by omega) ?_
    simp (discharger := omega) only [actC, bd_e, bo_e, bm_e, bts_l, bts_r, btm_l, btm_r, bp_lt, ck_ib, ck_z, ck_o, ifT, ifF, n10, n01, pv_v, if_pos, if_neg, zI_nat, zI_add, zI_mul, zI_addl, zI_laddl, zI_mull, zI_lmul, zI_subl, zI_pred, zI_le, zI_lt, zI_eq, zI_lel, zI_lle, zI_ltl, zI_llt, zI_eql, zI_leq, zI_ne1, zI_1ne]
  · -- 23
    refine ac_undo h (by omega) ?_
    simp (discharger := omega) only [actC, bd_e, bo_e, bm_e, bts_l, bts_r, btm_l, btm_r, bp_lt, ck_ib, ck_z, ck_o, ifT, ifF, n10, n01, pv_v, if_pos, if_neg, zI_nat, zI_add, zI_mul, zI_addl, zI_laddl, zI_mull, zI_lmul, zI_subl, zI_pred, zI_le, zI_lt, zI_eq, zI_lel, zI_lle, zI_ltl, zI_llt, zI_eql, zI_leq, zI_ne1, zI_1ne]
theorem a_act (h : IS m w n T k pa nn TT 0 tx) {sL : Nat} {sx : Nat → Int32} (hL : sL ≤ 260) (hp : p < 1000) {a0 : Int32} (ha : F_L_cell sL sx (zI p) m = some a0) (hj : j < 24) (hl : F_L_low a0 24 m = some (zI j)) : AOut (F_L_act sL sx (zI p) m) j w n k tx := by
  obtain ⟨a, e1⟩ := l_cell (sx := sx) hL (p := p + 1) (by omega) m
  obtain ⟨b, e2⟩ := l_cell (sx := sx) hL (p := p + 2) (by omega) m
  obtain ⟨t, ht, e3⟩ := l_low a (n := 3) (by omega) (by omega) m
  have e3' : F_L_low a 3 m = some (zI t) := e3
  obtain ⟨l, hl8, e4⟩ := l_low (a >>> (2 &&& 31)) (n := 8) (by omega) (by omega) m
  have e4' : F_L_low (a >>> (2 &&& 31)) 8 m = some (zI l) := e4
  have c1 : F_X3_count 1 m = some (.inl (zI n)) := t_count h (j := 1) (by omega)
  have e : F_L_act sL sx (zI p) m = actC m b (zI t) (zI l) (zI n) (zI j) := by
    unfold F_L_act actC
    rw [bd_e, zI_addl, e1, bo_e, bd_e, zI_addl, e2, bo_e, e3', bo_e, bd_e, e4', bo_e, c1, bts_l, ha, bo_e, hl, bo_e]
  rw [e]
  exact ac_chain h ht hl8 hj
end RI
