/-! digest, the reference's side -/
theorem zI_div6 {k : Nat} (h : k < 48) : zI k / 6 = zI (k / 6) := by
  have e : ∀ k : Fin 48, zI k.1 / 6 = zI (k.1 / 6) := by decide +kernel
  exact e ⟨k, h⟩
section RA
variable {m mi x : Mem} {n k L T nt t : Nat} {w tx tl ts tn : Nat → Int32} {pa : Nat → Nat → Int32} {nn' TT : Nat → Nat} {σ : Nat → Nat}
theorem md_ten (v2 : Int32) (h : MW x w n) (hI : WI w n T) (ht : t < 3) (kb : Int64 → Int32 → Mem → Option (Int64 × Mem)) (a : Int64) : L_X4_digest_110 v2 (zI t) x kb fu a 0 = C_X4_digest_179 v2 (zI t) x kb (tenH w n t a) := by
  have e1 : L_X4_digest_110 v2 (zI t) x kb fu a 0 = C_X4_digest_139 v2 (zI t) x kb (fo (mxI (tenT w n t)) 9 a) := by
    refine loop_fo0 (L := fun k2 a i => L_X4_digest_110 v2 (zI t) x kb k2 a i) (g := mxI (tenT w n t)) (c := C_X4_digest_139 v2 (zI t) x kb) (n := 9) ?_ ?_ fu (by rw [fu_eq]; omega) a
    · intro k3 a2 j hj
      have e := m_ofTenant h ht hj
      simp (discharger := omega) only [L_X4_digest_110, e, bd_e, bo_e, bm_e, bts_l, bts_r, btm_l, btm_r, bp_lt, ck_ib, ck_z, ck_o, ifT, ifF, n10, n01, pv_v, if_pos, if_neg, zI_nat, zI_add, zI_mul, zI_addl, zI_laddl, zI_mull, zI_lmul, zI_subl, zI_pred, zI_le, zI_lt, zI_eq, zI_lel, zI_lle, zI_ltl, zI_llt, zI_eql, zI_leq, zI_ne1, zI_1ne] <;> rfl
    · intro k3 a2
      simp (discharger := omega) only [L_X4_digest_110, Nat.le_refl, bd_e, bo_e, bm_e, bts_l, bts_r, btm_l, btm_r, bp_lt, ck_ib, ck_z, ck_o, ifT, ifF, n10, n01, pv_v, if_pos, if_neg, zI_nat, zI_add, zI_mul, zI_addl, zI_laddl, zI_mull, zI_lmul, zI_subl, zI_pred, zI_le, zI_lt, zI_eq, zI_lel, zI_lle, zI_ltl, zI_llt, zI_eql, zI_leq, zI_ne1, zI_1ne]
  rw [e1]
  unfold C_X4_digest_139 tenH
  rw [← fo_mul (fun c j b => mxI (colT w n t c) j b) 8]
  refine loop_fo0 (L := fun k2 a i => L_X4_digest_142 v2 (zI t) x kb k2 a i) (g := fun q b => mxI (colT w n t (q / 6)) (q % 6) b) (c := C_X4_digest_179 v2 (zI t) x kb) (n := 48) ?_ ?_ fu (by rw [fu_eq]; omega) _
  · intro k3 a2 j hj
    have e := m_ofColumn h hI ht (show j / 6 < 8 by omega) (show j % 6 < 6 by omega)
    have d1 := zI_div6 hj
    have d2 : zI j - zI (j / 6) * 6 = zI (j % 6) := by
      rw [zI_mull, zI_sub (by omega)]
      congr 1
      omega
    simp (discharger := omega) only [L_X4_digest_142, d1, bd_e, bo_e, bm_e, bts_l, bts_r, btm_l, btm_r, bp_lt, ck_ib, ck_z, ck_o, ifT, ifF, n10, n01, pv_v, if_pos, if_neg, zI_nat, zI_add, zI_mul, zI_addl, zI_laddl, zI_mull, zI_lmul, zI_subl, zI_pred, zI_le, zI_lt, zI_eq, zI_lel, zI_lle, zI_ltl, zI_llt, zI_eql, zI_leq, zI_ne1, zI_1ne]
    rw [← zI_mull, d2]
    simp (discharger := omega) only [e, bd_e, bo_e, bm_e, bts_l, bts_r, btm_l, btm_r, bp_lt, ck_ib, ck_z, ck_o, ifT, ifF, n10, n01, pv_v, if_pos, if_neg, zI_nat, zI_add, zI_mul, zI_addl, zI_laddl, zI_mull, zI_lmul, zI_subl, zI_pred, zI_le, zI_lt, zI_eq, zI_lel, zI_lle, zI_ltl, zI_llt, zI_eql, zI_leq, zI_ne1, zI_1ne] <;> rfl
  · intro k3 a2
    simp (discharger := omega) only [L_X4_digest_142, Nat.le_refl, bd_e, bo_e, bm_e, bts_l, bts_r, btm_l, btm_r, bp_lt, ck_ib, ck_z, ck_o, ifT, ifF, n10, n01, pv_v, if_pos, if_neg, zI_nat, zI_add, zI_mul, zI_addl, zI_laddl, zI_mull, zI_lmul, zI_subl, zI_pred, zI_le, zI_lt, zI_eq, zI_lel, zI_lle, zI_ltl, zI_llt, zI_eql, zI_leq, zI_ne1, zI_1ne]
theorem md_ans1 (h : MW x w n) (hI : WI w n T) (hq : QM x.1 nt tl ts tn) (hK : TK nt tl ts tn) (ht : t < 3) (hσ : goodS w n nt tl ts tn σ t) (kb : Int64 → Int32 → Mem → Option (Int64 × Mem)) (a : Int64) : C_X4_digest_179 1 (zI t) x kb a = kb (qsH true w n nt tl ts tn σ t a) (zI (t + 1)) x := by
  obtain ⟨i1, i2, i3, i4, i5, i6, i7, i8, i9, i10, i11, i12⟩ := id hI
  obtain ⟨h1, h2, h3⟩ := id h
  have k1 : Int32.toNatClampNeg 1080 = 1080 := rfl
  have k2 : ∀ {α : Type} (y : Option α), ck (ib 1080 1174) y = y := fun _ => rfl
  have e1 : C_X4_digest_179 1 (zI t) x kb a = C_X4_digest_230 1 (zI t) x kb (ansH w n nt tl ts tn t a) := by
    unfold C_X4_digest_179 ansH
    refine loop_fo0 (L := fun k2 a i => L_X4_digest_182 1 (zI t) x kb k2 a i) (g := fun r b => if an w nt tl ts tn t r = true then 31 * b + Int32.toInt64 (zI r) else b) (c := C_X4_digest_230 1 (zI t) x kb) (n := n) ?_ ?_ fu (by rw [fu_eq]; omega) a
    · intro k3 a2 j hj
      have e := m_isAnswer h hq hK ht hj
      by_cases hj2 : an w nt tl ts tn t j = true
      · rw [if_pos hj2] at e
        rw [if_pos hj2]
        simp (discharger := omega) only [L_X4_digest_182, k1, k2, h1, h2, e, J_X4_digest_223, bd_e, bo_e, bm_e, bts_l, bts_r, btm_l, btm_r, bp_lt, ck_ib, ck_z, ck_o, ifT, ifF, n10, n01, pv_v, if_pos, if_neg, zI_nat, zI_add, zI_mul, zI_addl, zI_laddl, zI_mull, zI_lmul, zI_subl, zI_pred, zI_le, zI_lt, zI_eq, zI_lel, zI_lle, zI_ltl, zI_llt, zI_eql, zI_leq, zI_ne1, zI_1ne]
      · rw [if_neg hj2] at e
        rw [if_neg hj2]
        simp (discharger := omega) only [L_X4_digest_182, k1, k2, h1, h2, e, J_X4_digest_223, bd_e, bo_e, bm_e, bts_l, bts_r, btm_l, btm_r, bp_lt, ck_ib, ck_z, ck_o, ifT, ifF, n10, n01, pv_v, if_pos, if_neg, zI_nat, zI_add, zI_mul, zI_addl, zI_laddl, zI_mull, zI_lmul, zI_subl, zI_pred, zI_le, zI_lt, zI_eq, zI_lel, zI_lle, zI_ltl, zI_llt, zI_eql, zI_leq, zI_ne1, zI_1ne]
    · intro k3 a2
      simp (discharger := omega) only [L_X4_digest_182, k1, k2, h1, h2, Nat.le_refl, bd_e, bo_e, bm_e, bts_l, bts_r, btm_l, btm_r, bp_lt, ck_ib, ck_z, ck_o, ifT, ifF, n10, n01, pv_v, if_pos, if_neg, zI_nat, zI_add, zI_mul, zI_addl, zI_laddl, zI_mull, zI_lmul, zI_subl, zI_pred, zI_le, zI_lt, zI_eq, zI_lel, zI_lle, zI_ltl, zI_llt, zI_eql, zI_leq, zI_ne1, zI_1ne]
  rw [e1]
  have e2 : C_X4_digest_230 1 (zI t) x kb (ansH w n nt tl ts tn t a) = C_X4_digest_270 1 (zI t) x kb (fo (mxI (fun p => if p < (aL w nt tl ts tn t n).length then zI (σ p) else -1)) 3 (ansH w n nt tl ts tn t a)) := by
    unfold C_X4_digest_230
    refine loop_fo0 (L := fun k2 a i => L_X4_digest_233 1 (zI t) x kb k2 a i) (g := mxI (fun p => if p < (aL w nt tl ts tn t n).length then zI (σ p) else -1)) (c := C_X4_digest_270 1 (zI t) x kb) (n := 3) ?_ ?_ fu (by rw [fu_eq]; omega) _
    · intro k3 a2 p hp
      have c0 := m_columnOf h ht 0
      have e := m_answered h hq hK ht (show p < 2147483648 by omega) (cO_isC w t 0) hσ.1 hσ.2
      have z1 : ((0 : Int32) = -1) = False := propext ⟨fun h => absurd h (by decide), False.elim⟩
      have ea : F_X4_answered (zI t) 0 (zI p) x = some (if p < (aL w nt tl ts tn t n).length then zI (σ p) else -1) := by
        unfold F_X4_answered
        rw [if_neg (by decide), c0, bo_e]
        exact e
      simp (discharger := omega) only [L_X4_digest_233, ea, J_X4_digest_261, bd_e, bo_e, bm_e, bts_l, bts_r, btm_l, btm_r, bp_lt, ck_ib, ck_z, ck_o, ifT, ifF, n10, n01, pv_v, if_pos, if_neg, zI_nat, zI_add, zI_mul, zI_addl, zI_laddl, zI_mull, zI_lmul, zI_subl, zI_pred, zI_le, zI_lt, zI_eq, zI_lel, zI_lle, zI_ltl, zI_llt, zI_eql, zI_leq, zI_ne1, zI_1ne] <;> rfl
    · intro k3 a2
      simp (discharger := omega) only [L_X4_digest_233, Nat.le_refl, bd_e, bo_e, bm_e, bts_l, bts_r, btm_l, btm_r, bp_lt, ck_ib, ck_z, ck_o, ifT, ifF, n10, n01, pv_v, if_pos, if_neg, zI_nat, zI_add, zI_mul, zI_addl, zI_laddl, zI_mull, zI_lmul, zI_subl, zI_pred, zI_le, zI_lt, zI_eq, zI_lel, zI_lle, zI_ltl, zI_llt, zI_eql, zI_leq, zI_ne1, zI_1ne]
  rw [e2]
  have lk0 := m_looks h i3 i7 i9 hq hK ht 0
  have lk1 := m_looks h i3 i7 i9 hq hK ht 1
  rw [if_pos rfl] at lk0
  rw [if_neg (by decide)] at lk1
  have bs := m_best h i3 i7 i9 i5 hq hK ht
  unfold qsH
  simp (discharger := omega) only [C_X4_digest_270, lk0, J_X4_digest_293, lk1, J_X4_digest_311, bs, J_X4_digest_333, bd_e, bo_e, bm_e, bts_l, bts_r, btm_l, btm_r, bp_lt, ck_ib, ck_z, ck_o, ifT, ifF, n10, n01, pv_v, if_pos, if_neg, zI_nat, zI_add, zI_mul, zI_addl, zI_laddl, zI_mull, zI_lmul, zI_subl, zI_pred, zI_le, zI_lt, zI_eq, zI_lel, zI_lle, zI_ltl, zI_llt, zI_eql, zI_leq, zI_ne1, zI_1ne] <;> rfl
theorem md_ans0 (h : MW x w n) (hI : WI w n T) (ht : t < 3) (kb : Int64 → Int32 → Mem → Option (Int64 × Mem)) (a : Int64) : C_X4_digest_179 0 (zI t) x kb a = kb (qsH false w n nt tl ts tn σ t a) (zI (t + 1)) x := by
  obtain ⟨h1, h2, h3⟩ := id h
  have k1 : Int32.toNatClampNeg 1080 = 1080 := rfl
  have k2 : ∀ {α : Type} (y : Option α), ck (ib 1080 1174) y = y := fun _ => rfl
  have e1 : C_X4_digest_179 0 (zI t) x kb a = C_X4_digest_230 0 (zI t) x kb a := by
    unfold C_X4_digest_179
    obtain ⟨f2, hf⟩ : ∃ f2, fu = f2 + 1 := ⟨9999, rfl⟩
    rw [hf]
    have z : zI n ≤ 0 ∨ ¬ zI n ≤ 0 := Classical.em _
    rcases z with z | z
    · simp (discharger := omega) only [L_X4_digest_182, k1, k2, h1, h2, z, bd_e, bo_e, bm_e, bts_l, bts_r, btm_l, btm_r, bp_lt, ck_ib, ck_z, ck_o, ifT, ifF, n10, n01, pv_v, if_pos, if_neg, zI_nat, zI_add, zI_mul, zI_addl, zI_laddl, zI_mull, zI_lmul, zI_subl, zI_pred, zI_le, zI_lt, zI_eq, zI_lel, zI_lle, zI_ltl, zI_llt, zI_eql, zI_leq, zI_ne1, zI_1ne]
    · simp (discharger := omega) only [L_X4_digest_182, k1, k2, h1, h2, z, bd_e, bo_e, bm_e, bts_l, bts_r, btm_l, btm_r, bp_lt, ck_ib, ck_z, ck_o, ifT, ifF, n10, n01, pv_v, if_pos, if_neg, zI_nat, zI_add, zI_mul, zI_addl, zI_laddl, zI_mull, zI_lmul, zI_subl, zI_pred, zI_le, zI_lt, zI_eq, zI_lel, zI_lle, zI_ltl, zI_llt, zI_eql, zI_leq, zI_ne1, zI_1ne]
  rw [e1]
  have e2 : C_X4_digest_230 0 (zI t) x kb a = C_X4_digest_270 0 (zI t) x kb (fo (mxI (fun p => if false = true then (if p < (aL w nt tl ts tn t n).length then zI (σ p) else -1) else -1)) 3 a) := by
    unfold C_X4_digest_230
    refine loop_fo0 (L := fun k2 a i => L_X4_digest_233 0 (zI t) x kb k2 a i) (g := mxI (fun p => if false = true then (if p < (aL w nt tl ts tn t n).length then zI (σ p) else -1) else -1)) (c := C_X4_digest_270 0 (zI t) x kb) (n := 3) ?_ ?_ fu (by rw [fu_eq]; omega) _
    · intro k3 a2 p hp
      simp only [mxI, Bool.false_eq_true, ifF]
      simp (discharger := omega) only [L_X4_digest_233, J_X4_digest_261, bd_e, bo_e, bm_e, bts_l, bts_r, btm_l, btm_r, bp_lt, ck_ib, ck_z, ck_o, ifT, ifF, n10, n01, pv_v, if_pos, if_neg, zI_nat, zI_add, zI_mul, zI_addl, zI_laddl, zI_mull, zI_lmul, zI_subl, zI_pred, zI_le, zI_lt, zI_eq, zI_lel, zI_lle, zI_ltl, zI_llt, zI_eql, zI_leq, zI_ne1, zI_1ne]
    · intro k3 a2
      simp (discharger := omega) only [L_X4_digest_233, Nat.le_refl, bd_e, bo_e, bm_e, bts_l, bts_r, btm_l, btm_r, bp_lt, ck_ib, ck_z, ck_o, ifT, ifF, n10, n01, pv_v, if_pos, if_neg, zI_nat, zI_add, zI_mul, zI_addl, zI_laddl, zI_mull, zI_lmul, zI_subl, zI_pred, zI_le, zI_lt, zI_eq, zI_lel, zI_lle, zI_ltl, zI_llt, zI_eql, zI_leq, zI_ne1, zI_1ne]
  rw [e2]
  unfold qsH
  rw [if_neg Bool.false_ne_true, if_neg Bool.false_ne_true, if_neg Bool.false_ne_true, if_neg Bool.false_ne_true]
  simp (discharger := omega) only [C_X4_digest_270, J_X4_digest_293, J_X4_digest_311, J_X4_digest_333, bd_e, bo_e, bm_e, bts_l, bts_r, btm_l, btm_r, bp_lt, ck_ib, ck_z, ck_o, ifT, ifF, n10, n01, pv_v, if_pos, if_neg, zI_nat, zI_add, zI_mul, zI_addl, zI_laddl, zI_mull, zI_lmul, zI_subl, zI_pred, zI_le, zI_lt, zI_eq, zI_lel, zI_lle, zI_ltl, zI_llt, zI_eql, zI_leq, zI_ne1, zI_1ne]
theorem md_head (v2 : Int32) (h : MW x w n) (hI : WI w n T) (h3 : x.1 (3, 0, 0, 0) 3 = zI k) : L_X4_digest_17 v2 x fu 3049 0 = L_X4_digest_101 v2 fu (rowH w n (fo (mxI (cntT w n T (zI k))) 8 3049)) 0 x := by
  obtain ⟨h1, h2, hn⟩ := id h
  have k1 : Int32.toNatClampNeg 1080 = 1080 := rfl
  have k2 : ∀ {α : Type} (y : Option α), ck (ib 1080 1174) y = y := fun _ => rfl
  have e1 : L_X4_digest_17 v2 x fu 3049 0 = C_X4_digest_44 v2 x (fo (mxI (cntT w n T (zI k))) 8 3049) := by
    refine loop_fo0 (L := fun k2 a i => L_X4_digest_17 v2 x k2 a i) (g := mxI (cntT w n T (zI k))) (c := C_X4_digest_44 v2 x) (n := 8) ?_ ?_ fu (by rw [fu_eq]; omega) 3049
    · intro k3 a r hr
      have e := m_counted h hI hr
      rw [h3] at e
      simp (discharger := omega) only [L_X4_digest_17, e, bd_e, bo_e, bm_e, bts_l, bts_r, btm_l, btm_r, bp_lt, ck_ib, ck_z, ck_o, ifT, ifF, n10, n01, pv_v, if_pos, if_neg, zI_nat, zI_add, zI_mul, zI_addl, zI_laddl, zI_mull, zI_lmul, zI_subl, zI_pred, zI_le, zI_lt, zI_eq, zI_lel, zI_lle, zI_ltl, zI_llt, zI_eql, zI_leq, zI_ne1, zI_1ne] <;> rfl
    · intro k3 a
      simp (discharger := omega) only [L_X4_digest_17, Nat.le_refl, bd_e, bo_e, bm_e, bts_l, bts_r, btm_l, btm_r, bp_lt, ck_ib, ck_z, ck_o, ifT, ifF, n10, n01, pv_v, if_pos, if_neg, zI_nat, zI_add, zI_mul, zI_addl, zI_laddl, zI_mull, zI_lmul, zI_subl, zI_pred, zI_le, zI_lt, zI_eq, zI_lel, zI_lle, zI_ltl, zI_llt, zI_eql, zI_leq, zI_ne1, zI_1ne]
  rw [e1]
  generalize fo (mxI (cntT w n T (zI k))) 8 3049 = a
  have e2 : C_X4_digest_44 v2 x a = C_X4_digest_98 v2 x (rowH w n a) := by
    unfold C_X4_digest_44 rowH
    refine loop_fo0 (L := fun k2 a i => L_X4_digest_47 v2 x k2 a i) (g := fun r b => fo (mxI (rowT w r)) 10 b) (c := C_X4_digest_98 v2 x) (n := n) ?_ ?_ fu (by rw [fu_eq]; omega) a
    · intro k3 b r hr
      have inner : ∀ kb, L_X4_digest_63 x (zI r) kb fu b 0 = C_X4_digest_92 (zI r) kb (fo (mxI (rowT w r)) 10 b) := fun kb => by
        refine loop_fo0 (L := fun k2 a i => L_X4_digest_63 x (zI r) kb k2 a i) (g := mxI (rowT w r)) (c := C_X4_digest_92 (zI r) kb) (n := 10) ?_ ?_ fu (by rw [fu_eq]; omega) b
        · intro k4 a2 j hj
          have e := m_ofRow h hr hj
          simp (discharger := omega) only [L_X4_digest_63, e, bd_e, bo_e, bm_e, bts_l, bts_r, btm_l, btm_r, bp_lt, ck_ib, ck_z, ck_o, ifT, ifF, n10, n01, pv_v, if_pos, if_neg, zI_nat, zI_add, zI_mul, zI_addl, zI_laddl, zI_mull, zI_lmul, zI_subl, zI_pred, zI_le, zI_lt, zI_eq, zI_lel, zI_lle, zI_ltl, zI_llt, zI_eql, zI_leq, zI_ne1, zI_1ne] <;> rfl
        · intro k4 a2
          simp (discharger := omega) only [L_X4_digest_63, Nat.le_refl, bd_e, bo_e, bm_e, bts_l, bts_r, btm_l, btm_r, bp_lt, ck_ib, ck_z, ck_o, ifT, ifF, n10, n01, pv_v, if_pos, if_neg, zI_nat, zI_add, zI_mul, zI_addl, zI_laddl, zI_mull, zI_lmul, zI_subl, zI_pred, zI_le, zI_lt, zI_eq, zI_lel, zI_lle, zI_ltl, zI_llt, zI_eql, zI_leq, zI_ne1, zI_1ne]
      simp (discharger := omega) only [L_X4_digest_47, k1, k2, h1, h2, inner, C_X4_digest_92, bd_e, bo_e, bm_e, bts_l, bts_r, btm_l, btm_r, bp_lt, ck_ib, ck_z, ck_o, ifT, ifF, n10, n01, pv_v, if_pos, if_neg, zI_nat, zI_add, zI_mul, zI_addl, zI_laddl, zI_mull, zI_lmul, zI_subl, zI_pred, zI_le, zI_lt, zI_eq, zI_lel, zI_lle, zI_ltl, zI_llt, zI_eql, zI_leq, zI_ne1, zI_1ne]
    · intro k3 b
      simp (discharger := omega) only [L_X4_digest_47, k1, k2, h1, h2, Nat.le_refl, bd_e, bo_e, bm_e, bts_l, bts_r, btm_l, btm_r, bp_lt, ck_ib, ck_z, ck_o, ifT, ifF, n10, n01, pv_v, if_pos, if_neg, zI_nat, zI_add, zI_mul, zI_addl, zI_laddl, zI_mull, zI_lmul, zI_subl, zI_pred, zI_le, zI_lt, zI_eq, zI_lel, zI_lle, zI_ltl, zI_llt, zI_eql, zI_leq, zI_ne1, zI_1ne]
  rw [e2]
  rfl
theorem md_tail (hM : MRel x w k pa L tx) (hI : WI w n T) (hL : L ≤ 40) (a : Int64) : C_X4_digest_342 a x = some (fo (mxI tx) L (31 * (31 * a + UInt64.toInt64 (shV w T)) + Int32.toInt64 (zI L)), x) := by
  have h := mw_of hM hI
  obtain ⟨g1, g2, g3, g4, g5⟩ := id hM
  have e1 := m_share h hI
  have e2 := m_bits hI x
  simp (discharger := omega) only [C_X4_digest_342, e1, e2, g4, bd_e, bo_e, bm_e, bts_l, bts_r, btm_l, btm_r, bp_lt, ck_ib, ck_z, ck_o, ifT, ifF, n10, n01, pv_v, if_pos, if_neg, zI_nat, zI_add, zI_mul, zI_addl, zI_laddl, zI_mull, zI_lmul, zI_subl, zI_pred, zI_le, zI_lt, zI_eq, zI_lel, zI_lle, zI_ltl, zI_llt, zI_eql, zI_leq, zI_ne1, zI_1ne]
  refine loop_fo0 (L := fun k2 a i => L_X4_digest_369 x k2 a i) (g := mxI tx) (c := fun b => some (b, x)) (n := L) ?_ ?_ fu (by rw [fu_eq]; omega) _
  · intro k3 b r hr
    have e := g5 r hr
    simp (discharger := omega) only [L_X4_digest_369, g4, e, bd_e, bo_e, bm_e, bts_l, bts_r, btm_l, btm_r, bp_lt, ck_ib, ck_z, ck_o, ifT, ifF, n10, n01, pv_v, if_pos, if_neg, zI_nat, zI_add, zI_mul, zI_addl, zI_laddl, zI_mull, zI_lmul, zI_subl, zI_pred, zI_le, zI_lt, zI_eq, zI_lel, zI_lle, zI_ltl, zI_llt, zI_eql, zI_leq, zI_ne1, zI_1ne] <;> rfl
  · intro k3 b
    simp (discharger := omega) only [L_X4_digest_369, C_X4_digest_399, g4, Nat.le_refl, bd_e, bo_e, bm_e, bts_l, bts_r, btm_l, btm_r, bp_lt, ck_ib, ck_z, ck_o, ifT, ifF, n10, n01, pv_v, if_pos, if_neg, zI_nat, zI_add, zI_mul, zI_addl, zI_laddl, zI_mull, zI_lmul, zI_subl, zI_pred, zI_le, zI_lt, zI_eq, zI_lel, zI_lle, zI_ltl, zI_llt, zI_eql, zI_leq, zI_ne1, zI_1ne]
theorem md_loop (b : Bool) (v2 : Int32) (hb : v2 = if b = true then 1 else 0) (hM : MRel x w k pa L tx) (hA : AInv w n T k pa nn' TT L tx) (hq : b = true → QM x.1 nt tl ts tn) (hK : b = true → TK nt tl ts tn) (σs : Nat → Nat → Nat) (hσ : b = true → ∀ t, t < 3 → goodS w n nt tl ts tn (σs t) t) (a : Int64) : L_X4_digest_101 v2 fu a 0 x = C_X4_digest_342 (fo (fun t a => qsH b w n nt tl ts tn (σs t) t (tenH w n t a)) 3 a) x := by
  have h := mw_of hM hA.1
  refine loop_fo0 (L := fun k2 a i => L_X4_digest_101 v2 k2 a i x) (g := fun t a => qsH b w n nt tl ts tn (σs t) t (tenH w n t a)) (c := fun a => C_X4_digest_342 a x) (n := 3) ?_ ?_ fu (by rw [fu_eq]; omega) a
  · intro k3 a2 t ht
    have n3 : ¬ (3 : Int32) ≤ zI t := by show ¬ zI 3 ≤ zI t; rw [zI_le (by omega) (by omega)]; omega
    have e1 := md_ten v2 h hA.1 ht (fun w0 w1 w2 => L_X4_digest_101 v2 k3 w0 w1 w2) a2
    rw [L_X4_digest_101, if_neg n3, e1]
    cases b with
    | true =>
      rw [if_pos rfl] at hb
      rw [hb]
      exact md_ans1 h hA.1 (hq rfl) (hK rfl) ht (hσ rfl t ht) _ _
    | false =>
      rw [if_neg Bool.false_ne_true] at hb
      rw [hb]
      exact md_ans0 h hA.1 ht _ _
  · intro k3 a2
    have y3 : (3 : Int32) ≤ zI 3 := by decide
    rw [L_X4_digest_101, if_pos y3]
end RA
