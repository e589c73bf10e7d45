/-! a question of one term: its text, the looks by it *-/
def RQ (tx tl ts tn : Nat → Int32) : Prop := TK 1 tl ts tn ∧ ∀ (w : Nat → Int32) (n T k : Nat) (pa : Nat → Nat → Int32) (nn TT : Nat → Nat) (m : Mem), AInv w n T k pa nn TT 3 tx → PRel m w n k pa nn 3 tx → ∃ m2, F_X3_readQuestion m = some (1, m2) ∧ FrQ m m2 ∧ QP m2.1 1 tl ts tn
section RF
variable {m m2 mi : Mem} {n k L T t l p sg d : Nat} {w tx tl ts tn : Nat → Int32} {pa : Nat → Nat → Int32} {nn TT : Nat → Nat}
theorem rn_l {c : Nat → Nat} {d i nt : Nat} {ng : Bool} {v : Nat} {tl ts tn : Nat → Int32} (h : 97 ≤ c i ∧ c i ≤ 104) : rn c (d + 1) i 0 nt ng v tl ts tn = rn c d (i + 1) 1 (nt + 1) false 0 (upd tl nt (zI (c i - 97))) (upd ts nt 0) (upd tn nt 0) := by
  rw [rn, if_pos rfl, if_pos h]
theorem rn_s {c : Nat → Nat} {d i nt : Nat} {ng : Bool} {v : Nat} {tl ts tn : Nat → Int32} (h : 60 ≤ c i ∧ c i ≤ 62) : rn c (d + 1) i 1 nt ng v tl ts tn = rn c d (i + 1) 2 nt ng v tl (upd ts (nt - 1) (zI (c i))) tn := by
  rw [rn, if_neg (by decide), if_pos rfl, if_pos h]
theorem rn_d {c : Nat → Nat} {d i nt : Nat} {ng : Bool} {v : Nat} {tl ts tn : Nat → Int32} (h : 48 ≤ c i ∧ c i ≤ 57) : rn c (d + 1) i 2 nt ng v tl ts tn = rn c d (i + 1) 4 nt ng (v * 10 + (c i - 48)) tl ts (upd tn (nt - 1) (sn ng (v * 10 + (c i - 48)))) := by
  rw [rn, if_neg (by decide), if_neg (by decide), if_neg (by omega), if_neg (by omega), if_pos ⟨fun e => absurd e (by decide), h⟩]
theorem q_text (hl : l < 8) (hs : 60 ≤ sg ∧ sg ≤ 62) (hd : d < 3) (h0 : tx 0 = zI (97 + l)) (h1 : tx 1 = zI sg) (h2 : tx 2 = zI (48 + d)) : (rd0 tx 3).2.1 = true ∧ (rd0 tx 3).2.2.1 = 1 ∧ (rd0 tx 3).2.2.2.1 0 = zI l ∧ (rd0 tx 3).2.2.2.2.1 0 = zI sg ∧ (rd0 tx 3).2.2.2.2.2 0 = zI d := by
  obtain ⟨c, hc⟩ : ∃ c : Nat → Nat, c = fun i => Int32.toNatClampNeg (tx i) := ⟨_, rfl⟩
  have c0 : c 0 = 97 + l := by rw [hc]; show Int32.toNatClampNeg (tx 0) = _; rw [h0, zI_nat (by omega)]
  have c1 : c 1 = sg := by rw [hc]; show Int32.toNatClampNeg (tx 1) = _; rw [h1, zI_nat (by omega)]
  have c2 : c 2 = 48 + d := by rw [hc]; show Int32.toNatClampNeg (tx 2) = _; rw [h2, zI_nat (by omega)]
  have e : rd0 tx 3 = rn c 3 0 0 0 false 0 (fun _ => 0) (fun _ => 0) (fun _ => 0) := by rw [hc]; rfl
  have e1 := rn_l (c := c) (d := 2) (i := 0) (nt := 0) (ng := false) (v := 0) (tl := fun _ => 0) (ts := fun _ => 0) (tn := fun _ => 0) (by omega)
  have e2 := rn_s (c := c) (d := 1) (i := 1) (nt := 1) (ng := false) (v := 0) (tl := upd (fun _ => 0) 0 (zI (c 0 - 97))) (ts := upd (fun _ => 0) 0 0) (tn := upd (fun _ => 0) 0 0) (by omega)
  have e3 := rn_d (c := c) (d := 0) (i := 2) (nt := 1) (ng := false) (v := 0) (tl := upd (fun _ => 0) 0 (zI (c 0 - 97))) (ts := upd (upd (fun _ => 0) 0 0) 0 (zI (c 1))) (tn := upd (fun _ => 0) 0 0) (by omega)
  have e4 := e.trans (e1.trans (e2.trans e3))
  rw [e4, c0, c1, c2]
  refine ⟨rfl, rfl, ?_, ?_, ?_⟩
  · show upd (fun _ => 0) 0 (zI (97 + l - 97)) 0 = _
    rw [upd_eq, Nat.add_sub_cancel_left]
  · show upd (upd (fun _ => 0) 0 0) 0 (zI sg) 0 = _
    rw [upd_eq]
  · show upd (upd (fun _ => 0) 0 0) 0 (sn false (0 * 10 + (48 + d - 48))) 0 = _
    rw [upd_eq, Nat.add_sub_cancel_left, Nat.zero_mul, Nat.zero_add]
    rfl
theorem q_rq (hl : l < 8) (hs : 60 ≤ sg ∧ sg ≤ 62) (hd : d < 3) (h0 : tx 0 = zI (97 + l)) (h1 : tx 1 = zI sg) (h2 : tx 2 = zI (48 + d)) : ∃ tl ts tn, RQ tx tl ts tn ∧ tl 0 = zI l ∧ ts 0 = zI sg ∧ tn 0 = zI d := by
  obtain ⟨e1, e2, e3, e4, e5⟩ := q_text hl hs hd h0 h1 h2
  refine ⟨(rd0 tx 3).2.2.2.1, (rd0 tx 3).2.2.2.2.1, (rd0 tx 3).2.2.2.2.2, ⟨?_, ?_⟩, e3, e4, e5⟩
  · have h := ((rd0_tk (tx := tx) (L := 3) (by omega)).2 e1).2
    rw [e2] at h
    exact h
  · intro w n T k pa nn TT m hA hP
    obtain ⟨m2, o1, o2, o3⟩ := p_question hP hA
    rw [if_pos e1] at o1
    have h := o3 e1
    rw [e2] at h
    exact ⟨m2, o1, o2, h⟩
theorem s_append (h : IS m w n T k pa nn TT L tx) (hL : L < 40) {q : Nat} (h1 : 33 ≤ q) (h2 : q ≤ 126) : ∃ m2, F_X3_append (zI q) m = some (.inl (zI (L + 1)), m2) ∧ IS m2 w n T k pa nn TT (L + 1) (upd tx L (zI q)) := by
  obtain ⟨hP, hA, hJ, hp⟩ := h
  have a1 : ¬ zI q < 33 := by show ¬ zI q < zI 33; rw [zI_lt (by omega) (by omega)]; omega
  have a2 : ¬ 126 < zI q := by show ¬ zI 126 < zI q; rw [zI_lt (by omega) (by omega)]; omega
  obtain ⟨m2, e1, e2, e3⟩ := p_append_ok hP a1 a2 hL
  refine ⟨m2, e1, e2, ⟨hA.1, hA.2.1, hA.2.2.1, by omega, fun i hi => ?_⟩, hJ, hp⟩
  unfold upd
  by_cases e : i = L
  · rw [if_pos e]; exact ⟨Int32.not_lt.mp a1, Int32.not_lt.mp a2⟩
  · rw [if_neg e]; exact hA.2.2.2.2 i (by omega)
theorem s_clear (h : IS m w n T k pa nn TT L tx) : ∃ v m2, F_X3_clearBuffer m = some (v, m2) ∧ IS m2 w n T k pa nn TT 0 tx := by
  obtain ⟨hP, hA, hJ, hp⟩ := h
  obtain ⟨m2, e1, e2, e3⟩ := p_clear hP
  exact ⟨_, m2, e1, e2, ⟨hA.1, hA.2.1, hA.2.2.1, Nat.zero_le _, fun i hi => absurd hi (Nat.not_lt_zero i)⟩, hJ, hp⟩
theorem an_own {nt r : Nat} (h : an w nt tl ts tn t r = true) : w (9 * r) = zI t := by
  unfold an at h
  rw [Bool.and_eq_true, decide_eq_true_eq] at h
  exact h.1
theorem s_answer (h : IS m w n T k pa nn TT 3 tx) (hq : RQ tx tl ts tn) (ht : t < 3) {c : Int32} (hc : c = -1 ∨ ∃ l, l < 8 ∧ c = zI l) (hb : p < 2147483648) : ∃ v m2, F_X3_answer (zI t) c (zI p) m = some (.inl v, m2) ∧ IS m2 w n T k pa nn TT 3 tx ∧ ((p < (aL w 1 tl ts tn t n).length ∧ ∃ r, r < n ∧ w (9 * r) = zI t ∧ v = zI r) ∨ ((aL w 1 tl ts tn t n).length ≤ p ∧ v = -1)) := by
  obtain ⟨hP, hA, hJ, hp⟩ := h
  obtain ⟨hK, hq⟩ := hq
  obtain ⟨m2, o1, o2, hQ⟩ := hq _ _ _ _ _ _ _ _ hA hP
  obtain ⟨hP2, hF2⟩ := prel_frq hP o2
  have hs2 := hP2.1 6 (by omega)
  have hr := zI_nn hb
  have tq : F_X3_answer (zI t) c (zI p) m = J_X3_answer_28 (zI t) c (zI p) m 1 := by
    rcases hc with rfl | ⟨l, hl, rfl⟩
    · simp (discharger := omega) only [F_X3_answer, p_isT ht, J_X3_answer_19, hr, bd_e, bo_e, bm_e, bts_l, bts_r, btm_l, btm_r, bp_lt, ck_ib, ck_z, ck_o, ifT, ifF, n10, n01, pv_v, if_pos, if_neg, zI_nat, zI_add, zI_mul, zI_addl, zI_laddl, zI_mull, zI_lmul, zI_subl, zI_pred, zI_le, zI_lt, zI_eq, zI_lel, zI_lle, zI_ltl, zI_llt, zI_eql, zI_leq, zI_ne1, zI_1ne]
    · simp (discharger := omega) only [F_X3_answer, p_isT ht, p_isL hl, J_X3_answer_19, hr, bd_e, bo_e, bm_e, bts_l, bts_r, btm_l, btm_r, bp_lt, ck_ib, ck_z, ck_o, ifT, ifF, n10, n01, pv_v, if_pos, if_neg, zI_nat, zI_add, zI_mul, zI_addl, zI_laddl, zI_mull, zI_lmul, zI_subl, zI_pred, zI_le, zI_lt, zI_eq, zI_lel, zI_lle, zI_ltl, zI_llt, zI_eql, zI_leq, zI_ne1, zI_1ne]
  have mem : ∀ j, j < (aL w 1 tl ts tn t n).length → gt0 (aL w 1 tl ts tn t n) j < n ∧ w (9 * gt0 (aL w 1 tl ts tn t n) j) = zI t := fun j hj => by
    obtain ⟨a1, a2⟩ := aL_lt (gt0_mem hj)
    exact ⟨a1, an_own a2⟩
  rcases hc with rfl | ⟨l, hl, rfl⟩
  · obtain ⟨g, c1, c2, c3, -⟩ := p_answered hP2 hA hQ hK ht (Or.inl rfl)
    have c4 := p_answerAt (m := m2) c2 hb c3
    have e : F_X3_answer (zI t) (-1) (zI p) m = some (.inl (if p < (aL w 1 tl ts tn t n).length then zI (gt0 (aL w 1 tl ts tn t n) p) else -1), wA m2 (0, 0, 0, 4) g) := by
      rw [tq]
      simp (discharger := omega) only [J_X3_answer_28, p_req1, o1, c1, c4, J_X3_answer_71, bd_e, bo_e, bm_e, bts_l, bts_r, btm_l, btm_r, bp_lt, ck_ib, ck_z, ck_o, ifT, ifF, n10, n01, pv_v, if_pos, if_neg, zI_nat, zI_add, zI_mul, zI_addl, zI_laddl, zI_mull, zI_lmul, zI_subl, zI_pred, zI_le, zI_lt, zI_eq, zI_lel, zI_lle, zI_ltl, zI_llt, zI_eql, zI_leq, zI_ne1, zI_1ne]
    obtain ⟨hP3, hF3⟩ := prel_4 hP2 hA.2.1 g
    refine ⟨_, _, e, ⟨hP3, hA, hJ, hp⟩, ?_⟩
    by_cases hlt : p < (aL w 1 tl ts tn t n).length
    · rw [if_pos hlt]
      exact Or.inl ⟨hlt, _, (mem p hlt).1, (mem p hlt).2, rfl⟩
    · rw [if_neg hlt]
      exact Or.inr ⟨by omega, rfl⟩
  · obtain ⟨g, c1, c2, c3, g2, σ, c5, c6, c7, c8⟩ := p_answered hP2 hA hQ hK ht (cO_isC w t (zI l))
    have c4 := p_answerAt (m := m2) c2 hb c6
    obtain ⟨hP3, hF3⟩ := prel_4 hP2 hA.2.1 g
    have hcol := p_columnOf hP3.2.2.2.1 hA.1.2.2.2.2.1 ht (l := zI l) (fun e => by rw [zI_ne1 (by omega)] at e; exact e)
    have ql : ¬ zI l = -1 := fun e => by rw [zI_ne1 (by omega)] at e; exact e
    have hs3 := hP3.1 6 (by omega)
    have e : F_X3_answer (zI t) (zI l) (zI p) m = some (.inl (if p < (aL w 1 tl ts tn t n).length then zI (σ p) else -1), wA m2 (0, 0, 0, 4) g2) := by
      rw [tq]
      simp (discharger := omega) only [J_X3_answer_28, p_req1, o1, c1, ql, hs3, hcol, c5, c4, J_X3_answer_71, bd_e, bo_e, bm_e, bts_l, bts_r, btm_l, btm_r, bp_lt, ck_ib, ck_z, ck_o, ifT, ifF, n10, n01, pv_v, if_pos, if_neg, zI_nat, zI_add, zI_mul, zI_addl, zI_laddl, zI_mull, zI_lmul, zI_subl, zI_pred, zI_le, zI_lt, zI_eq, zI_lel, zI_lle, zI_ltl, zI_llt, zI_eql, zI_leq, zI_ne1, zI_1ne]
    obtain ⟨hP4, hF4⟩ := prel_4 hP2 hA.2.1 g2
    refine ⟨_, _, e, ⟨hP4, hA, hJ, hp⟩, ?_⟩
    by_cases hlt : p < (aL w 1 tl ts tn t n).length
    · rw [if_pos hlt]
      have h1 := sp_all c8 (fun r => decide (r < n) && decide (w (9 * r) = zI t)) (fun j hj => by
        rw [Bool.and_eq_true, decide_eq_true_eq, decide_eq_true_eq]
        exact mem j hj) p hlt
      rw [Bool.and_eq_true, decide_eq_true_eq, decide_eq_true_eq] at h1
      exact Or.inl ⟨hlt, _, h1.1, h1.2, rfl⟩
    · rw [if_neg hlt]
      exact Or.inr ⟨by omega, rfl⟩
theorem s_looked (h : IS m w n T k pa nn TT 3 tx) (hq : RQ tx tl ts tn) (ht : t < 3) (q : Int32) : ∃ m2, F_X3_looked (zI t) q m = some (.inl (lkT w n 1 tl ts tn t (if q = 0 then w (1159 + t) else 1) (-1)), m2) ∧ IS m2 w n T k pa nn TT 3 tx := by
  obtain ⟨hP, hA, hJ, hp⟩ := h
  obtain ⟨hK, hq⟩ := hq
  obtain ⟨m2, o1, o2, hQ⟩ := hq _ _ _ _ _ _ _ _ hA hP
  obtain ⟨hP2, hF2⟩ := prel_frq hP o2
  have hs2 := hP2.1 6 (by omega)
  obtain ⟨i1, i2, i3, i4, i5, i6, i7, i8, i9, -⟩ := id hA.1
  have f5 := (hP2.2.2.2.1.2.2.2.2.2.2.1 t ht).2.2.1
  have pl := p_looks hP2.2.2.2.1 hs2 hA.1 hQ hK ht
  refine ⟨m2, ?_, hP2, hA, hJ, hp⟩
  by_cases h0 : q = 0
  · rw [if_pos h0]
    rcases i7 t ht with hv | hv
    · rw [hv] at f5 ⊢
      simp (discharger := omega) only [F_X3_looked, p_isT ht, p_req1, o1, h0, hs2, f5, J_X3_looked_42, pl, bd_e, bo_e, bm_e, bts_l, bts_r, btm_l, btm_r, bp_lt, ck_ib, ck_z, ck_o, ifT, ifF, n10, n01, pv_v, if_pos, if_neg, zI_nat, zI_add, zI_mul, zI_addl, zI_laddl, zI_mull, zI_lmul, zI_subl, zI_pred, zI_le, zI_lt, zI_eq, zI_lel, zI_lle, zI_ltl, zI_llt, zI_eql, zI_leq, zI_ne1, zI_1ne]
    · rw [hv] at f5 ⊢
      simp (discharger := omega) only [F_X3_looked, p_isT ht, p_req1, o1, h0, hs2, f5, J_X3_looked_37, J_X3_looked_42, pl, bd_e, bo_e, bm_e, bts_l, bts_r, btm_l, btm_r, bp_lt, ck_ib, ck_z, ck_o, ifT, ifF, n10, n01, pv_v, if_pos, if_neg, zI_nat, zI_add, zI_mul, zI_addl, zI_laddl, zI_mull, zI_lmul, zI_subl, zI_pred, zI_le, zI_lt, zI_eq, zI_lel, zI_lle, zI_ltl, zI_llt, zI_eql, zI_leq, zI_ne1, zI_1ne]
  · rw [if_neg h0]
    simp (discharger := omega) only [F_X3_looked, p_isT ht, p_req1, o1, h0, J_X3_looked_37, J_X3_looked_42, pl, bd_e, bo_e, bm_e, bts_l, bts_r, btm_l, btm_r, bp_lt, ck_ib, ck_z, ck_o, ifT, ifF, n10, n01, pv_v, if_pos, if_neg, zI_nat, zI_add, zI_mul, zI_addl, zI_laddl, zI_mull, zI_lmul, zI_subl, zI_pred, zI_le, zI_lt, zI_eq, zI_lel, zI_lle, zI_ltl, zI_llt, zI_eql, zI_leq, zI_ne1, zI_1ne]
theorem s_best (h : IS m w n T k pa nn TT 3 tx) (hq : RQ tx tl ts tn) (ht : t < 3) : ∃ m2, F_X3_bestIndex (zI t) m = some (.inl (bst w n 1 tl ts tn t), m2) ∧ IS m2 w n T k pa nn TT 3 tx := by
  obtain ⟨hP, hA, hJ, hp⟩ := h
  obtain ⟨hK, hq⟩ := hq
  obtain ⟨m2, o1, o2, hQ⟩ := hq _ _ _ _ _ _ _ _ hA hP
  obtain ⟨hP2, hF2⟩ := prel_frq hP o2
  have hs2 := hP2.1 6 (by omega)
  have pl := p_best hP2.2.2.2.1 hs2 hA.1 hQ hK ht
  refine ⟨m2, ?_, hP2, hA, hJ, hp⟩
  simp (discharger := omega) only [F_X3_bestIndex, p_isT ht, p_req1, o1, J_X3_bestIndex_23, pl, bd_e, bo_e, bm_e, bts_l, bts_r, btm_l, btm_r, bp_lt, ck_ib, ck_z, ck_o, ifT, ifF, n10, n01, pv_v, if_pos, if_neg, zI_nat, zI_add, zI_mul, zI_addl, zI_laddl, zI_mull, zI_lmul, zI_subl, zI_pred, zI_le, zI_lt, zI_eq, zI_lel, zI_lle, zI_ltl, zI_llt, zI_eql, zI_leq, zI_ne1, zI_1ne]
-- numbers
theorem an_cn (w : Nat → Int32) (n : Nat) (tl ts tn : Nat → Int32) (t : Nat) : zI (aL w 1 tl ts tn t n).length = zI (cn (fun r => an w 1 tl ts tn t r) n) := by
  rw [← nAn_len]
  unfold nAn
  exact sg_cn (fun r _ => rfl)
theorem ans_le (hI : WI w n T) (ht : t < 3) (tl ts tn : Nat → Int32) : ¬ lkT w n 1 tl ts tn t (w (1159 + t)) (-1) < zI (aL w 1 tl ts tn t n).length := by
  obtain ⟨i1, i2, i3, i4, i5, i6, i7, i8, i9, -⟩ := id hI
  rw [an_cn]
  have hc := cn_le (fun r => an w 1 tl ts tn t r) n
  rcases i7 t ht with hv | hv
  · have ei : inTb w n = zI (cn (fun r => decide (mvd w r = 0)) n) := inTb_cn i3 i7
    have m1 : cn (fun r => an w 1 tl ts tn t r) n ≤ cn (fun r => decide (mvd w r = 0)) n := cn_mono (fun r hr h => by
      rw [decide_eq_true_eq, mvd_of ht (an_own h)]; exact hv)
    have b1 := cn_le (fun r => decide (mvd w r = 0)) n
    have hin : ¬ inTb w n < zI (cn (fun r => an w 1 tl ts tn t r) n) := by
      rw [ei, zI_lt (by omega) (by omega)]; omega
    have e : lkT w n 1 tl ts tn t (w (1159 + t)) (-1) = lkS w n tl ts tn t (-1) 0 (inTb w n) := by
      rw [hv]; rfl
    rw [e]
    cases hb : cdP w tl ts t (-1) 0 with
    | false => rw [lkS_f hb]; exact hin
    | true =>
      rw [lkS_t hb]
      have h61 : ts 0 = 61 := by
        unfold cdP at hb
        rw [Bool.and_eq_true, decide_eq_true_eq] at hb
        exact hb.1
      have m2 : cn (fun r => an w 1 tl ts tn t r) n ≤ cn (fun r => decide (w (9 * r) = zI t) && decide (vl w r (cO w t (tl 0)) = tn 0)) n := cn_mono (fun r hr h => by
        have ho := an_own h
        unfold an at h
        rw [Bool.and_eq_true] at h
        have h2 := bA_iff.mp h.2 0 (by omega)
        unfold okT okV at h2
        rw [h61, if_pos rfl, Bool.and_eq_true] at h2
        rw [Bool.and_eq_true, decide_eq_true_eq]
        exact ⟨ho, h2.2⟩)
      have b2 := cn_le (fun r => decide (w (9 * r) = zI t) && decide (vl w r (cO w t (tl 0)) = tn 0)) n
      have hit : ¬ itK w n tl tn t 0 < zI (cn (fun r => an w 1 tl ts tn t r) n) := by
        unfold itK
        rw [rwsWith_cn, zI_lt (by omega) (by omega)]; omega
      by_cases hlt : itK w n tl tn t 0 < inTb w n
      · rw [if_pos hlt]; exact hit
      · rw [if_neg hlt]; exact hin
  · have e : lkT w n 1 tl ts tn t (w (1159 + t)) (-1) = rwsOf w n t := by
      rw [hv]; rfl
    have m1 : cn (fun r => an w 1 tl ts tn t r) n ≤ cn (fun r => decide (w (9 * r) = zI t)) n := cn_mono (fun r hr h => by
      rw [decide_eq_true_eq]; exact an_own h)
    have b1 := cn_le (fun r => decide (w (9 * r) = zI t)) n
    rw [e, own_cn, zI_lt (by omega) (by omega)]
    omega
theorem best_mv (h : w (1159 + t) = 1) (n : Nat) (tl ts tn : Nat → Int32) : bst w n 1 tl ts tn t = -1 := by
  have e : ∀ lm, lkX w n 1 tl ts tn t lm = rwsOf w n t := fun lm => by
    unfold lkX
    rw [h]; rfl
  show (bsS w n 1 tl ts tn t 0 (-1, lkX w n 1 tl ts tn t (-1))).1 = -1
  unfold bsS
  by_cases hb : cdB w tl ts t 0 = true
  · rw [if_pos hb, if_pos (by rw [e, e]; exact Int32.le_refl _)]
  · rw [if_neg hb]
end RF
