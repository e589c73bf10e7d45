/-! questions between calls; what two arrays must share -/
def EQW (n : Nat) (w2 w : Nat → Int32) : Prop := ∀ i, i < 9 * n ∨ (1080 ≤ i ∧ i < 1174) → w2 i = w i
section QH
variable {m m2 x x2 : Mem} {n k L T s : Nat} {w w2 tx : Nat → Int32} {f : Lb → Nat → Int32} {pa : Nat → Nat → Int32} {nn TT : Nat → Nat}
theorem eqw_rf (n : Nat) (w : Nat → Int32) : EQW n w w := fun _ _ => rfl
theorem eqw_1174 (hn : n ≤ 120) (e : ∀ i, i < 1174 → w2 i = w i) : EQW n w2 w := fun i hi => e i (by omega)
theorem sr_eqw (h : SR f s w n) (e : EQW n w2 w) : SR f s w2 n := by
  obtain ⟨h1, h2, h3, h4, h5, h6, h7, h8⟩ := h
  refine ⟨h1, by rw [e _ (by omega)]; exact h2, h3, fun r hr => by rw [e _ (by omega)]; exact h4 r hr, fun r hr c hc => by rw [e _ (by omega)]; exact h5 r hr c hc, fun t ht c hc => ?_, fun t ht => ?_, fun r hr => by rw [e _ (by omega)]; exact h8 r hr⟩
  · rw [e (1081 + 8 * t + c) (by omega), e (1129 + 8 * t + c) (by omega), e (1105 + 8 * t + c) (by omega)]
    exact h6 t ht c hc
  · rw [e (1153 + t) (by omega), e (1156 + t) (by omega), e (1159 + t) (by omega), e (1162 + t) (by omega), e (1165 + t) (by omega), e (1168 + t) (by omega), e (1171 + t) (by omega)]
    exact h7 t ht
theorem wi_low (h : WI w n T) (e : ∀ i, i < 9 * n ∨ (1080 ≤ i ∧ i < 1105) ∨ (1129 ≤ i ∧ i < 1156) ∨ (1159 ≤ i ∧ i < 1162) → w2 i = w i) : WI w2 n T := by
  obtain ⟨h1, h2, h3, h4, h5, h6, h7, h8, h9, h10, h11, h12, h13⟩ := h
  have hm : ∀ r, r < n → mvd w2 r = mvd w r := by
    intro r hr
    obtain ⟨t, ht, hw⟩ := h3 r hr
    have hw2 : w2 (9 * r) = zI t := by rw [e _ (by omega)]; exact hw
    rw [mvd_of ht hw, mvd_of ht hw2, e _ (by omega)]
  have hc : ∀ r, r < n → cls w2 r = cls w r := by
    intro r hr
    unfold cls
    rw [hm r hr, e _ (by omega)]
  refine ⟨h1, by rw [e _ (by omega)]; exact h2, fun r hr => by rw [e _ (by omega)]; exact h3 r hr, fun r hr c hc => by rw [e _ (by omega)]; exact h4 r hr c hc, ?_, fun t ht c hc => by rw [e _ (by omega)]; exact h6 t ht c hc, fun t ht => by rw [e _ (by omega)]; exact h7 t ht, ?_, fun t ht c hc => by rw [e _ (by omega)]; exact h9 t ht c hc, fun t ht => by rw [e _ (by omega)]; exact h10 t ht, ?_, h12, ?_⟩
  · intro t ht c hc c2 hc2
    rw [e (1081 + 8 * t + c) (by omega), e (1081 + 8 * t + c2) (by omega)]
    exact h5 t ht c hc c2 hc2
  · exact ⟨h8.1, fun r hr => by rw [hm r (Nat.lt_of_lt_of_le hr h8.1)]; exact h8.2.1 r hr, fun r h1 h2 => by rw [hm r h2]; exact h8.2.2 r h1 h2⟩
  · intro t ht
    have e2 : rwsOf w2 n t = rwsOf w n t := by
      unfold rwsOf
      exact sg_congr (fun r hr => by rw [e _ (by omega)])
    rw [e2]
    exact h11 t ht
  · intro r q hrq hq
    rw [hc r (by omega), hc q hq]
    exact h13 r q hrq hq
theorem wi_eqw (h : WI w n T) (e : EQW n w2 w) : WI w2 n T := wi_low h (fun i hi => e i (by omega))
theorem prel_eqw (h : PRel m w n k pa nn L tx) (e : EQW n w2 w) : PRel m w2 n k pa nn L tx := by
  obtain ⟨g1, g2, g3, g4, g5, g6, g7⟩ := h
  exact ⟨g1, g2, g3, sr_eqw g4 e, g5, g6, g7⟩
theorem prel_frq (h : PRel m w n k pa nn L tx) (hF : FrQ m m2) : PRel m2 w n k pa nn L tx ∧ FrP m m2 := by
  obtain ⟨g1, g2, g3, g4, g5, g6, g7⟩ := h
  have e0 := hF.1 (0, 0, 0, 0) (by decide) (by decide) (by decide) (by decide)
  have e2 := hF.1 (0, 0, 0, 2) (by decide) (by decide) (by decide) (by decide)
  have e3 : ∀ lb : Lb, lb.1 = 1 ∨ lb.1 = 2 → m2.1 lb = m.1 lb := fun lb hl => hF.1 lb (by rintro rfl; rcases hl with hl | hl <;> exact absurd hl (by decide)) (by rintro rfl; rcases hl with hl | hl <;> exact absurd hl (by decide)) (by rintro rfl; rcases hl with hl | hl <;> exact absurd hl (by decide)) (by rintro rfl; rcases hl with hl | hl <;> exact absurd hl (by decide))
  refine ⟨⟨by rw [hF.2]; exact g1, by rw [hF.2]; exact g2, by rw [e0]; exact g3, by rw [hF.2]; exact g4.frame e3, fun j hj => by rw [hF.2]; exact (g5 j hj).frame e3, by rw [e0]; exact g6, fun i hi => by rw [e2]; exact g7 i hi⟩, fun lb hl => hF.1 lb (by rintro rfl; rcases hl with hl | hl <;> exact absurd hl (by decide)) (by rintro rfl; rcases hl with hl | hl <;> exact absurd hl (by decide)) (by rintro rfl; rcases hl with hl | hl <;> exact absurd hl (by decide)) (by rintro rfl; rcases hl with hl | hl <;> exact absurd hl (by decide)), by rw [hF.2]⟩
theorem p_question (h : PRel m w n k pa nn L tx) (hA : AInv w n T k pa nn TT L tx) : ∃ m2, F_X3_readQuestion m = some (if (rd0 tx L).2.1 = true then 1 else 0, m2) ∧ FrQ m m2 ∧ ((rd0 tx L).2.1 = true → QP m2.1 (rd0 tx L).2.2.1 (rd0 tx L).2.2.2.1 (rd0 tx L).2.2.2.2.1 (rd0 tx L).2.2.2.2.2) := by
  obtain ⟨g1, g2, g3, g4, g5, g6, g7⟩ := h
  obtain ⟨a1, a2, a3, a4, a5⟩ := hA
  obtain ⟨x2, e1, e2, e3, e4⟩ := p_read a4 g7 a5
  refine ⟨x2, ?_, e2, fun h => (e3 h).2⟩
  by_cases ho : (rd0 tx L).2.1 = true
  · have e5 := (e3 ho).1
    rw [if_pos ho]
    simp (discharger := omega) only [F_X3_readQuestion, g6, e1, F_X0_isWhole, J_X0_isWhole_13, e5, bd_e, bo_e, bm_e, bts_l, bts_r, btm_l, btm_r, bp_lt, ck_ib, ck_z, ck_o, ifT, ifF, n10, n01, pv_v, if_pos, if_neg, zI_nat, zI_add, zI_mul, zI_addl, zI_laddl, zI_mull, zI_lmul, zI_subl, zI_pred, zI_le, zI_lt, zI_eq, zI_lel, zI_lle, zI_ltl, zI_llt, zI_eql, zI_leq, zI_ne1, zI_1ne]
  · obtain ⟨q, q1, q2, q3⟩ := e4 (Bool.eq_false_iff.mpr ho)
    rw [if_neg ho]
    simp (discharger := omega) only [F_X3_readQuestion, g6, e1, F_X0_isWhole, J_X0_isWhole_13, q3, bd_e, bo_e, bm_e, bts_l, bts_r, btm_l, btm_r, bp_lt, ck_ib, ck_z, ck_o, ifT, ifF, n10, n01, pv_v, if_pos, if_neg, zI_nat, zI_add, zI_mul, zI_addl, zI_laddl, zI_mull, zI_lmul, zI_subl, zI_pred, zI_le, zI_lt, zI_eq, zI_lel, zI_lle, zI_ltl, zI_llt, zI_eql, zI_leq, zI_ne1, zI_1ne]
theorem frm_tr {a b d : Mem} (h1 : FrM a b) (h2 : FrM b d) : FrM a d := ⟨fun lb h => (h2.1 lb h).trans (h1.1 lb h), h2.2.trans h1.2⟩
theorem frp_tr {a b d : Mem} (h1 : FrP a b) (h2 : FrP b d) : FrP a d := ⟨fun lb h => (h2.1 lb h).trans (h1.1 lb h), h2.2.trans h1.2⟩
theorem frm_wI {lb : Lb} (h : lb.1 = 3) (x : Mem) (i : Nat) (v : Int32) : FrM x (wI x lb i v) := ⟨fun lb2 h2 => wI_ne (by rintro rfl; exact h2 h) x i v, rfl⟩
theorem frm_wA {lb : Lb} (h : lb.1 = 3) (x : Mem) (g : Nat → Int32) : FrM x (wA x lb g) := ⟨fun lb2 h2 => wA_ne x g (by rintro rfl; exact h2 h), rfl⟩
/-- thrown is set -/
theorem mrel_6 (h : MRel x w k pa L tx) (v : Int32) : MRel (wI x (3, 0, 0, 0) 6 v) w k pa L tx := by
  obtain ⟨g1, g2, g3, g4, g5⟩ := h
  refine ⟨by rw [wI_ne (by decide)]; exact g1, by rw [wI_eq, upd_ne _ (by decide)]; exact g2, by rw [wI_ne (by decide)]; exact g3, by rw [wI_eq, upd_ne _ (by decide)]; exact g4, by rw [wI_ne (by decide)]; exact g5⟩
end QH

