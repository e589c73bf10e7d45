/-! an answer by its place -/
section PM
variable {m : Mem} {n T nt : Nat} {w tl ts tn : Nat → Int32}
theorem less_eq (w : Nat → Int32) (c : Int32) (q r : Nat) : (if vl w q c = vl w r c then decide (q < r) else if vl w r c = -100000 then true else if vl w q c = -100000 then false else decide (vl w q c < vl w r c)) = ltB w c r q := by
  have b1 := Int32.toInt_lt (vl w q c)
  have b2 := Int32.toInt_lt (vl w r c)
  unfold ltB ky
  by_cases h1 : vl w q c = vl w r c
  · rw [if_pos h1, h1, decide_eq_false (show ¬ ((if vl w r c = -100000 then (10000000000 : Int) else (vl w r c).toInt) < (if vl w r c = -100000 then (10000000000 : Int) else (vl w r c).toInt)) from Int.lt_irrefl _), decide_eq_true rfl]; rfl
  · rw [if_neg h1]
    by_cases h2 : vl w r c = -100000
    · have h3 : vl w q c ≠ -100000 := fun h => h1 (h.trans h2.symm)
      rw [if_pos h2, if_pos h2, if_neg h3]
      symm
      rw [Bool.or_eq_true, decide_eq_true_eq]
      exact Or.inl (by omega)
    · rw [if_neg h2, if_neg h2]
      by_cases h3 : vl w q c = -100000
      · rw [if_pos h3, if_pos h3, decide_eq_false (by omega), decide_eq_false (by omega)]; rfl
      · rw [if_neg h3, if_neg h3]
        have h4 : (vl w q c).toInt ≠ (vl w r c).toInt := fun h => h1 (Int32.toInt_inj.mp h)
        rw [decide_eq_false h4, Bool.false_and, Bool.or_false]
        exact decide_eq_decide.mpr Int32.lt_iff_toInt_lt
theorem m_ahead (h : MW m w n) (hq : QM m.1 nt tl ts tn) (hk : TK nt tl ts tn) {t : Nat} (ht : t < 3) {c : Int32} (hc : isC c) {r : Nat} (hr : r < n) : F_X4_ahead (zI t) c (zI r) m = some (zI (cn (fun q => an w nt tl ts tn t q && ltB w c r q) n)) := by
  obtain ⟨h1, h2, h3⟩ := id h
  have k1 : Int32.toNatClampNeg 1080 = 1080 := rfl
  have k2 : ck (ib 1080 1174) = (fun (x : Option Int32) => x) := rfl
  unfold F_X4_ahead
  rw [m_valueOf h hr hc, bo_some, ← sg_cn (f := fun q => if (an w nt tl ts tn t q && ltB w c r q) = true then 1 else 0) (fun _ _ => rfl)]
  refine loop_sg0 (c := some) ?_ ?_ fu (by rw [fu_eq]; omega)
  · intro k a q hqn
    have e := m_isAnswer h hq hk ht hqn
    have e2 := m_valueOf h hqn hc
    have L := less_eq w c q r
    have fin : ∀ b : Bool, ltB w c r q = b → J_X4_ahead_83 (zI t) m a (zI q) (fun w0 w1 => L_X4_ahead_14 (zI t) c (zI r) m (vl w r c) k w0 w1) (if b = true then 1 else 0) = L_X4_ahead_14 (zI t) c (zI r) m (vl w r c) k (a + if (an w nt tl ts tn t q && ltB w c r q) = true then 1 else 0) (zI (q + 1)) := by
      intro b hb
      rw [hb]
      cases b with
      | false =>
        rw [Bool.and_false]
        simp (discharger := omega) only [J_X4_ahead_83, J_X4_ahead_106, J_X4_ahead_107, Bool.false_eq_true, bd, bo_some, bm_some, bts_inl, bts_inr, btm_inl, btm_inr, bp_lt, ck_ib, ck_b0, ck_b1, ifT, ifF, n10, n01, pv_v, if_pos, if_neg, zI_nat, zI_add, zI_mul, zI_addl, zI_laddl, zI_mull, zI_lmul, zI_subl, zI_pred, zI_le, zI_lt, zI_eq, zI_lel, zI_lle, zI_ltl, zI_llt, zI_eql, zI_leq, zI_ne1, zI_1ne]
      | true =>
        rw [Bool.and_true]
        by_cases ha : an w nt tl ts tn t q = true
        · simp (discharger := omega) only [J_X4_ahead_83, J_X4_ahead_106, J_X4_ahead_107, e, ha, bd, bo_some, bm_some, bts_inl, bts_inr, btm_inl, btm_inr, bp_lt, ck_ib, ck_b0, ck_b1, ifT, ifF, n10, n01, pv_v, if_pos, if_neg, zI_nat, zI_add, zI_mul, zI_addl, zI_laddl, zI_mull, zI_lmul, zI_subl, zI_pred, zI_le, zI_lt, zI_eq, zI_lel, zI_lle, zI_ltl, zI_llt, zI_eql, zI_leq, zI_ne1, zI_1ne]
        · simp (discharger := omega) only [J_X4_ahead_83, J_X4_ahead_106, J_X4_ahead_107, e, ha, Bool.false_eq_true, bd, bo_some, bm_some, bts_inl, bts_inr, btm_inl, btm_inr, bp_lt, ck_ib, ck_b0, ck_b1, ifT, ifF, n10, n01, pv_v, if_pos, if_neg, zI_nat, zI_add, zI_mul, zI_addl, zI_laddl, zI_mull, zI_lmul, zI_subl, zI_pred, zI_le, zI_lt, zI_eq, zI_lel, zI_lle, zI_ltl, zI_llt, zI_eql, zI_leq, zI_ne1, zI_1ne]
    have f1 : ltB w c r q = true → J_X4_ahead_83 (zI t) m a (zI q) (fun w0 w1 => L_X4_ahead_14 (zI t) c (zI r) m (vl w r c) k w0 w1) 1 = L_X4_ahead_14 (zI t) c (zI r) m (vl w r c) k (a + if (an w nt tl ts tn t q && ltB w c r q) = true then 1 else 0) (zI (q + 1)) := fun hb => fin true hb
    have f0 : ltB w c r q = false → J_X4_ahead_83 (zI t) m a (zI q) (fun w0 w1 => L_X4_ahead_14 (zI t) c (zI r) m (vl w r c) k w0 w1) 0 = L_X4_ahead_14 (zI t) c (zI r) m (vl w r c) k (a + if (an w nt tl ts tn t q && ltB w c r q) = true then 1 else 0) (zI (q + 1)) := fun hb => fin false hb
    by_cases g1 : vl w q c = vl w r c
    · rw [if_pos g1] at L
      by_cases g2 : q < r
      · simp (discharger := omega) only [L_X4_ahead_14, h1, h2, k1, k2, e2, g1, g2, bd, bo_some, bm_some, bts_inl, bts_inr, btm_inl, btm_inr, bp_lt, ck_ib, ck_b0, ck_b1, ifT, ifF, n10, n01, pv_v, if_pos, if_neg, zI_nat, zI_add, zI_mul, zI_addl, zI_laddl, zI_mull, zI_lmul, zI_subl, zI_pred, zI_le, zI_lt, zI_eq, zI_lel, zI_lle, zI_ltl, zI_llt, zI_eql, zI_leq, zI_ne1, zI_1ne]
        exact f1 (by rw [← L]; exact decide_eq_true g2)
      · simp (discharger := omega) only [L_X4_ahead_14, h1, h2, k1, k2, e2, g1, g2, bd, bo_some, bm_some, bts_inl, bts_inr, btm_inl, btm_inr, bp_lt, ck_ib, ck_b0, ck_b1, ifT, ifF, n10, n01, pv_v, if_pos, if_neg, zI_nat, zI_add, zI_mul, zI_addl, zI_laddl, zI_mull, zI_lmul, zI_subl, zI_pred, zI_le, zI_lt, zI_eq, zI_lel, zI_lle, zI_ltl, zI_llt, zI_eql, zI_leq, zI_ne1, zI_1ne]
        exact f0 (by rw [← L]; exact decide_eq_false g2)
    · rw [if_neg g1] at L
      by_cases g2 : vl w r c = -100000
      · rw [if_pos g2] at L
        simp (discharger := omega) only [L_X4_ahead_14, J_X4_ahead_78, h1, h2, k1, k2, e2, g1, bd, bo_some, bm_some, bts_inl, bts_inr, btm_inl, btm_inr, bp_lt, ck_ib, ck_b0, ck_b1, ifT, ifF, n10, n01, pv_v, if_pos, if_neg, zI_nat, zI_add, zI_mul, zI_addl, zI_laddl, zI_mull, zI_lmul, zI_subl, zI_pred, zI_le, zI_lt, zI_eq, zI_lel, zI_lle, zI_ltl, zI_llt, zI_eql, zI_leq, zI_ne1, zI_1ne]
        exact f1 L.symm
      · rw [if_neg g2] at L
        by_cases g3 : vl w q c = -100000
        · rw [if_pos g3] at L
          simp (discharger := omega) only [L_X4_ahead_14, J_X4_ahead_82, h1, h2, k1, k2, e2, g1, bd, bo_some, bm_some, bts_inl, bts_inr, btm_inl, btm_inr, bp_lt, ck_ib, ck_b0, ck_b1, ifT, ifF, n10, n01, pv_v, if_pos, if_neg, zI_nat, zI_add, zI_mul, zI_addl, zI_laddl, zI_mull, zI_lmul, zI_subl, zI_pred, zI_le, zI_lt, zI_eq, zI_lel, zI_lle, zI_ltl, zI_llt, zI_eql, zI_leq, zI_ne1, zI_1ne]
          exact f0 L.symm
        · rw [if_neg g3] at L
          by_cases g4 : vl w q c < vl w r c
          · have g5 : ¬ vl w r c ≤ vl w q c := fun h => absurd g4 (Int32.not_lt.mpr h)
            simp (discharger := omega) only [L_X4_ahead_14, J_X4_ahead_78, h1, h2, k1, k2, e2, g1, bd, bo_some, bm_some, bts_inl, bts_inr, btm_inl, btm_inr, bp_lt, ck_ib, ck_b0, ck_b1, ifT, ifF, n10, n01, pv_v, if_pos, if_neg, zI_nat, zI_add, zI_mul, zI_addl, zI_laddl, zI_mull, zI_lmul, zI_subl, zI_pred, zI_le, zI_lt, zI_eq, zI_lel, zI_lle, zI_ltl, zI_llt, zI_eql, zI_leq, zI_ne1, zI_1ne]
            exact f1 (by rw [← L]; exact decide_eq_true g4)
          · have g5 : vl w r c ≤ vl w q c := Int32.not_lt.mp g4
            simp (discharger := omega) only [L_X4_ahead_14, J_X4_ahead_82, h1, h2, k1, k2, e2, g1, bd, bo_some, bm_some, bts_inl, bts_inr, btm_inl, btm_inr, bp_lt, ck_ib, ck_b0, ck_b1, ifT, ifF, n10, n01, pv_v, if_pos, if_neg, zI_nat, zI_add, zI_mul, zI_addl, zI_laddl, zI_mull, zI_lmul, zI_subl, zI_pred, zI_le, zI_lt, zI_eq, zI_lel, zI_lle, zI_ltl, zI_llt, zI_eql, zI_leq, zI_ne1, zI_1ne]
            exact f0 (by rw [← L]; exact decide_eq_false g4)
  · intro k a
    simp (discharger := omega) only [L_X4_ahead_14, C_X4_ahead_116, h1, h2, k1, k2, Nat.le_refl, bd, bo_some, bm_some, bts_inl, bts_inr, btm_inl, btm_inr, bp_lt, ck_ib, ck_b0, ck_b1, ifT, ifF, n10, n01, pv_v, if_pos, if_neg, zI_nat, zI_add, zI_mul, zI_addl, zI_laddl, zI_mull, zI_lmul, zI_subl, zI_pred, zI_le, zI_lt, zI_eq, zI_lel, zI_lle, zI_ltl, zI_llt, zI_eql, zI_leq, zI_ne1, zI_1ne]
theorem sd_rank {σ : Nat → Nat} {a : Nat} {c : Int32} (h : SD w c σ a) {j : Nat} (hj : j < a) : cn (fun i => ltB w c (σ j) (σ i)) a = j := by
  refine cn_low (by omega) (fun r hr => ltB_iff.mpr (h r j hr hj)) (fun r h1 h2 => ?_)
  cases hb : ltB w c (σ j) (σ r) with
  | false => rfl
  | true =>
    have h3 := ltB_iff.mp hb
    unfold ltK at h3
    by_cases hrj : r = j
    · rw [hrj] at h3; omega
    · have h4 := h j r (by omega) h2
      unfold ltK at h4
      omega
theorem m_answered (h : MW m w n) (hq : QM m.1 nt tl ts tn) (hk : TK nt tl ts tn) {t p : Nat} (ht : t < 3) (hp : p < 2147483648) {c : Int32} (hc : isC c) {σ : Nat → Nat} (hd : SD w c σ (aL w nt tl ts tn t n).length) (hs : SP σ (gt0 (aL w nt tl ts tn t n)) (aL w nt tl ts tn t n).length) : J_X4_answered_15 (zI t) (zI p) m c = some (if p < (aL w nt tl ts tn t n).length then zI (σ p) else -1) := by
  obtain ⟨h1, h2, h3⟩ := id h
  have k1 : Int32.toNatClampNeg 1080 = 1080 := rfl
  have k2 : ck (ib 1080 1174) = (fun (x : Option Int32) => x) := rfl
  have rank : ∀ j, j < (aL w nt tl ts tn t n).length → cn (fun q => an w nt tl ts tn t q && ltB w c (σ j) q) n = j := by
    intro j hj
    rw [← cn_aL, ← hs (fun q => ltB w c (σ j) q)]
    exact sd_rank hd hj
  have isan : ∀ j, j < (aL w nt tl ts tn t n).length → σ j < n ∧ an w nt tl ts tn t (σ j) = true := by
    intro j hj
    have e := sp_all hs (fun y => decide (y < n) && an w nt tl ts tn t y) (fun i hi => by
      have hm : gt0 (aL w nt tl ts tn t n) i ∈ aL w nt tl ts tn t n := by
        unfold gt0
        rw [List.getD_eq_getElem?_getD, List.getElem?_eq_getElem hi]
        exact List.getElem_mem _
      rw [(aL_lt hm).2, Bool.and_true]
      exact decide_eq_true (aL_lt hm).1) j hj
    rw [Bool.and_eq_true, decide_eq_true_eq] at e
    exact e
  have onto : ∀ r, r < n → an w nt tl ts tn t r = true → ∃ j, j < (aL w nt tl ts tn t n).length ∧ σ j = r := by
    intro r hr ha
    refine Classical.byContradiction (fun hne => ?_)
    have e := hs (fun y => decide (y = r))
    rw [cn_none (p := fun j => decide (σ j = r)) (fun j hj => decide_eq_false (fun he => hne ⟨j, hj, he⟩))] at e
    have := cn_zero (e.trans (cn_aL w nt tl ts tn t (fun y => decide (y = r)) n)).symm r hr
    rw [ha, decide_eq_true rfl] at this
    cases this
  unfold J_X4_answered_15
  refine loop_ex (L := fun k (_ : Unit) i => L_X4_answered_20 (zI t) (zI p) m c k i) (P := fun j _ => ∀ q, q < j → an w nt tl ts tn t q = true → cn (fun y => an w nt tl ts tn t y && ltB w c q y) n ≠ p) (R := fun x => x = some (if p < (aL w nt tl ts tn t n).length then zI (σ p) else -1)) (n := n) ?_ ?_ n 0 fu () (by omega) (by rw [fu_eq]; omega) (fun q hq => absurd hq (Nat.not_lt_zero q))
  · intro k _ r hr hP
    have e1 := m_isAnswer h hq hk ht hr
    have e2 := m_ahead h hq hk ht hc hr
    have e3 := cn_le (fun y => an w nt tl ts tn t y && ltB w c r y) n
    by_cases ha : an w nt tl ts tn t r = true
    · by_cases hrk : cn (fun y => an w nt tl ts tn t y && ltB w c r y) n = p
      · refine Or.inr ?_
        obtain ⟨j, hj, he⟩ := onto r hr ha
        have e4 := rank j hj
        rw [he, hrk] at e4
        subst e4
        rw [if_pos hj, he]
        rw [hrk] at e2
        simp (discharger := omega) only [L_X4_answered_20, h1, h2, k1, k2, e1, ha, e2, bd, bo_some, bm_some, bts_inl, bts_inr, btm_inl, btm_inr, bp_lt, ck_ib, ck_b0, ck_b1, ifT, ifF, n10, n01, pv_v, if_pos, if_neg, zI_nat, zI_add, zI_mul, zI_addl, zI_laddl, zI_mull, zI_lmul, zI_subl, zI_pred, zI_le, zI_lt, zI_eq, zI_lel, zI_lle, zI_ltl, zI_llt, zI_eql, zI_leq, zI_ne1, zI_1ne]
      · refine Or.inl ⟨(), fun q hq hqa => ?_, ?_⟩
        · by_cases hqr : q = r
          · rw [hqr]; exact hrk
          · exact hP q (by omega) hqa
        · generalize cn (fun y => an w nt tl ts tn t y && ltB w c r y) n = A at e2 e3 hrk
          simp (discharger := omega) only [L_X4_answered_20, J_X4_answered_59, h1, h2, k1, k2, e1, ha, e2, hrk, bd, bo_some, bm_some, bts_inl, bts_inr, btm_inl, btm_inr, bp_lt, ck_ib, ck_b0, ck_b1, ifT, ifF, n10, n01, pv_v, if_pos, if_neg, zI_nat, zI_add, zI_mul, zI_addl, zI_laddl, zI_mull, zI_lmul, zI_subl, zI_pred, zI_le, zI_lt, zI_eq, zI_lel, zI_lle, zI_ltl, zI_llt, zI_eql, zI_leq, zI_ne1, zI_1ne]
    · refine Or.inl ⟨(), fun q hq hqa => ?_, ?_⟩
      · by_cases hqr : q = r
        · rw [hqr] at hqa; exact absurd hqa ha
        · exact hP q (by omega) hqa
      · simp (discharger := omega) only [L_X4_answered_20, J_X4_answered_59, h1, h2, k1, k2, e1, ha, Bool.false_eq_true, bd, bo_some, bm_some, bts_inl, bts_inr, btm_inl, btm_inr, bp_lt, ck_ib, ck_b0, ck_b1, ifT, ifF, n10, n01, pv_v, if_pos, if_neg, zI_nat, zI_add, zI_mul, zI_addl, zI_laddl, zI_mull, zI_lmul, zI_subl, zI_pred, zI_le, zI_lt, zI_eq, zI_lel, zI_lle, zI_ltl, zI_llt, zI_eql, zI_leq, zI_ne1, zI_1ne]
  · intro k _ hP
    have e4 : ¬ p < (aL w nt tl ts tn t n).length := fun hp2 => hP (σ p) (isan p hp2).1 (isan p hp2).2 (rank p hp2)
    simp (discharger := omega) only [L_X4_answered_20, C_X4_answered_65, h1, h2, k1, k2, Nat.le_refl, e4, bd, bo_some, bm_some, bts_inl, bts_inr, btm_inl, btm_inr, bp_lt, ck_ib, ck_b0, ck_b1, ifT, ifF, n10, n01, pv_v, if_pos, if_neg, zI_nat, zI_add, zI_mul, zI_addl, zI_laddl, zI_mull, zI_lmul, zI_subl, zI_pred, zI_le, zI_lt, zI_eq, zI_lel, zI_lle, zI_ltl, zI_llt, zI_eql, zI_leq, zI_ne1, zI_1ne]
end PM
