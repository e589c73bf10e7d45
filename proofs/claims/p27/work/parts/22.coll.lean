/-! the answers that are collected, by their numbers -/
def aL (w : Nat → Int32) (nt : Nat) (tl ts tn : Nat → Int32) (t n : Nat) : List Nat := (List.range n).filter (fun r => an w nt tl ts tn t r)
theorem aL_succ (w : Nat → Int32) (nt : Nat) (tl ts tn : Nat → Int32) (t n : Nat) : aL w nt tl ts tn t (n + 1) = aL w nt tl ts tn t n ++ (if an w nt tl ts tn t n = true then [n] else []) := by
  unfold aL
  rw [List.range_succ, List.filter_append]
  by_cases h : an w nt tl ts tn t n = true
  · rw [if_pos h, List.filter_cons_of_pos h]; rfl
  · rw [if_neg h, List.filter_cons_of_neg h]; rfl
theorem aL_len (w : Nat → Int32) (nt : Nat) (tl ts tn : Nat → Int32) (t n : Nat) : (aL w nt tl ts tn t n).length ≤ n := by
  unfold aL
  have h := List.length_filter_le (fun r => an w nt tl ts tn t r) (List.range n)
  rw [List.length_range] at h
  exact h
theorem aL_lt {w : Nat → Int32} {nt : Nat} {tl ts tn : Nat → Int32} {t n r : Nat} (h : r ∈ aL w nt tl ts tn t n) : r < n ∧ an w nt tl ts tn t r = true := by
  unfold aL at h
  rw [List.mem_filter, List.mem_range] at h
  exact h
theorem SR.frame {f f2 : Lb → Nat → Int32} {s n : Nat} {w : Nat → Int32} (h : SR f s w n) (he : ∀ lb : Lb, lb.1 = 1 ∨ lb.1 = 2 → f2 lb = f lb) : SR f2 s w n := by
  obtain ⟨h1, h2, h3, h4, h5, h6, h7, h8⟩ := h
  refine ⟨h1, h2, ?_, ?_, ?_, ?_, ?_, h8⟩
  · rw [he _ (Or.inl rfl)]; exact h3
  · intro r hr; rw [he _ (Or.inl rfl)]; exact h4 r hr
  · intro r hr c hc; rw [he _ (Or.inl rfl)]; exact h5 r hr c hc
  · intro t ht c hc; rw [he _ (Or.inr rfl), he _ (Or.inr rfl), he _ (Or.inr rfl)]; exact h6 t ht c hc
  · intro t ht; rw [he _ (Or.inr rfl)]; exact h7 t ht
theorem sr_wA {m : Mem} {s n : Nat} {w : Nat → Int32} (h : SR m.1 s w n) (k : Nat) (g : Nat → Int32) : SR (wA m (0, 0, 0, k) g).1 s w n := h.frame (fun lb hl => if_neg (by
  rintro rfl
  rcases hl with hl | hl
  · exact absurd (show (0 : Nat) = 1 from hl) (by decide)
  · exact absurd (show (0 : Nat) = 2 from hl) (by decide)))
theorem qp_wA {m : Mem} {nt : Nat} {tl ts tn : Nat → Int32} (h : QP m.1 nt tl ts tn) (g : Nat → Int32) : QP (wA m (0, 0, 0, 4) g).1 nt tl ts tn := by
  have e : ∀ lb : Lb, lb ≠ (0, 0, 0, 4) → (wA m (0, 0, 0, 4) g).1 lb = m.1 lb := fun lb hl => if_neg hl
  refine ⟨by rw [e _ (by decide)]; exact h.1, fun k hk => ?_⟩
  rw [e _ (by decide), e _ (by decide), e _ (by decide)]
  exact h.2 k hk
theorem wA_self2 (m : Mem) (lb : Lb) : wA m lb (m.1 lb) = m := by
  unfold wA
  refine Prod.ext ?_ rfl
  funext b
  show (if b = lb then m.1 lb else m.1 b) = m.1 b
  by_cases h : b = lb
  · rw [if_pos h, h]
  · rw [if_neg h]
theorem wA_wA (m : Mem) (lb : Lb) (f g : Nat → Int32) : wA (wA m lb f) lb g = wA m lb g := by
  unfold wA
  refine Prod.ext ?_ rfl
  funext b
  show (if b = lb then g else if b = lb then f else m.1 b) = if b = lb then g else m.1 b
  by_cases h : b = lb
  · rw [if_pos h, if_pos h]
  · rw [if_neg h, if_neg h, if_neg h]
theorem wI_wA (m : Mem) (lb : Lb) (f : Nat → Int32) (k : Nat) (v : Int32) : wI (wA m lb f) lb k v = wA m lb (upd f k v) := by
  unfold wI
  rw [wA_self, wA_wA]
/-- what found holds -/
def FH (g : Nat → Int32) (l : List Nat) : Prop := ∀ (i : Nat) (r : Nat), l[i]? = some r → g i = zI r
section PJ
variable {m : Mem} {n T nt : Nat} {w tl ts tn : Nat → Int32}
theorem p_collect (h : SR m.1 (m.2.1 6) w n) (hs : m.2.1 6 < 7) (hI : WI w n T) (hq : QP m.1 nt tl ts tn) (hk : TK nt tl ts tn) {t : Nat} (ht : t < 3) : ∃ g, F_X3_collectAnswers (zI t) m = some (zI (aL w nt tl ts tn t n).length, wA m (0, 0, 0, 4) g) ∧ FH g (aL w nt tl ts tn t n) := by
  obtain ⟨i1, -⟩ := id hI
  unfold F_X3_collectAnswers
  refine loop_ex (L := fun k (a : Int32 × Mem) i => L_X3_collectAnswers_4 (zI t) k a.1 i a.2) (P := fun j a => ∃ g, a = (zI (aL w nt tl ts tn t j).length, wA m (0, 0, 0, 4) g) ∧ FH g (aL w nt tl ts tn t j)) (R := fun x => ∃ g, x = some (zI (aL w nt tl ts tn t n).length, wA m (0, 0, 0, 4) g) ∧ FH g (aL w nt tl ts tn t n)) (n := n) ?_ ?_ n 0 fu (0, m) (by omega) (by rw [fu_eq]; omega) ⟨m.1 (0, 0, 0, 4), by rw [wA_self2]; rfl, fun i r hi => by cases hi⟩
  · intro k a j hj hp
    refine Or.inl ?_
    obtain ⟨g, rfl, hg⟩ := hp
    have hl := aL_len w nt tl ts tn t j
    have S := sr_wA h 4 g
    have hQ := qp_wA hq g
    have hs2 : (wA m (0, 0, 0, 4) g).2.1 6 < 7 := hs
    have hS2 : SR (wA m (0, 0, 0, 4) g).1 ((wA m (0, 0, 0, 4) g).2.1 6) w n := S
    obtain ⟨h1, h2, h3, h4, h5, h6, h7, h8⟩ := id hS2
    have e4 := h4 j hj
    have ei := p_isAnswer hS2 hs2 hI hQ hk ht hj
    by_cases hw : w (9 * j) = zI t
    · by_cases ho : bA (okT w tl ts tn t j) nt = true
      · have ha : an w nt tl ts tn t j = true := by unfold an; rw [ho, decide_eq_true hw]; rfl
        refine ⟨(zI (aL w nt tl ts tn t (j + 1)).length, wA m (0, 0, 0, 4) (upd g (aL w nt tl ts tn t j).length (zI j))), ⟨_, rfl, ?_⟩, ?_⟩
        · rw [aL_succ, if_pos ha]
          intro i r hi
          unfold upd
          by_cases hil : i = (aL w nt tl ts tn t j).length
          · rw [if_pos hil]
            rw [hil, List.getElem?_append_right (Nat.le_refl _), Nat.sub_self] at hi
            cases hi; rfl
          · rw [if_neg hil]
            have hlt : i < (aL w nt tl ts tn t j).length := by
              have := (List.getElem?_eq_some_iff.mp hi).1
              rw [List.length_append] at this
              have h9 : [j].length = 1 := rfl
              omega
            rw [List.getElem?_append_left hlt] at hi
            exact hg i r hi
        · have e6 : (aL w nt tl ts tn t (j + 1)).length = (aL w nt tl ts tn t j).length + 1 := by rw [aL_succ, if_pos ha, List.length_append]; rfl
          rw [e6]
          simp (discharger := omega) only [L_X3_collectAnswers_4, J_X3_collectAnswers_61, hs2, h3, e4, hw, ei, ho, wI_wA, bd, bo_some, bm_some, bts_inl, bts_inr, btm_inl, btm_inr, bp_lt, ck_ib, ck_b0, ck_b1, ifT, ifF, n10, n01, pv_v, if_pos, if_neg, zI_nat, zI_add, zI_mul, zI_addl, zI_laddl, zI_mull, zI_lmul, zI_subl, zI_pred, zI_le, zI_lt, zI_eq, zI_lel, zI_lle, zI_ltl, zI_llt, zI_eql, zI_leq, zI_ne1, zI_1ne]
      · have ho2 : bA (okT w tl ts tn t j) nt = false := Bool.eq_false_iff.mpr ho
        have ha : ¬ an w nt tl ts tn t j = true := by unfold an; rw [ho2, Bool.and_false]; exact Bool.false_ne_true
        refine ⟨_, ⟨g, rfl, by rw [aL_succ, if_neg ha, List.append_nil]; exact hg⟩, ?_⟩
        rw [aL_succ, if_neg ha, List.append_nil]
        simp (discharger := omega) only [L_X3_collectAnswers_4, J_X3_collectAnswers_61, hs2, h3, e4, hw, ei, ho2, Bool.false_eq_true, bd, bo_some, bm_some, bts_inl, bts_inr, btm_inl, btm_inr, bp_lt, ck_ib, ck_b0, ck_b1, ifT, ifF, n10, n01, pv_v, if_pos, if_neg, zI_nat, zI_add, zI_mul, zI_addl, zI_laddl, zI_mull, zI_lmul, zI_subl, zI_pred, zI_le, zI_lt, zI_eq, zI_lel, zI_lle, zI_ltl, zI_llt, zI_eql, zI_leq, zI_ne1, zI_1ne]
    · have ha : ¬ an w nt tl ts tn t j = true := by unfold an; rw [decide_eq_false hw]; exact Bool.false_ne_true
      refine ⟨_, ⟨g, rfl, by rw [aL_succ, if_neg ha, List.append_nil]; exact hg⟩, ?_⟩
      rw [aL_succ, if_neg ha, List.append_nil]
      simp (discharger := omega) only [L_X3_collectAnswers_4, J_X3_collectAnswers_61, hs2, h3, e4, hw, bd, bo_some, bm_some, bts_inl, bts_inr, btm_inl, btm_inr, bp_lt, ck_ib, ck_b0, ck_b1, ifT, ifF, n10, n01, pv_v, if_pos, if_neg, zI_nat, zI_add, zI_mul, zI_addl, zI_laddl, zI_mull, zI_lmul, zI_subl, zI_pred, zI_le, zI_lt, zI_eq, zI_lel, zI_lle, zI_ltl, zI_llt, zI_eql, zI_leq, zI_ne1, zI_1ne]
  · intro k a hp
    obtain ⟨g, rfl, hg⟩ := hp
    refine ⟨g, ?_, hg⟩
    have hS2 : SR (wA m (0, 0, 0, 4) g).1 ((wA m (0, 0, 0, 4) g).2.1 6) w n := sr_wA h 4 g
    have hs2 : (wA m (0, 0, 0, 4) g).2.1 6 < 7 := hs
    obtain ⟨h1, h2, h3, h4, h5, h6, h7, h8⟩ := id hS2
    simp (discharger := omega) only [L_X3_collectAnswers_4, C_X3_collectAnswers_67, hs2, h3, Nat.le_refl, bd, bo_some, bm_some, bts_inl, bts_inr, btm_inl, btm_inr, bp_lt, ck_ib, ck_b0, ck_b1, ifT, ifF, n10, n01, pv_v, if_pos, if_neg, zI_nat, zI_add, zI_mul, zI_addl, zI_laddl, zI_mull, zI_lmul, zI_subl, zI_pred, zI_le, zI_lt, zI_eq, zI_lel, zI_lle, zI_ltl, zI_llt, zI_eql, zI_leq, zI_ne1, zI_1ne]
end PJ

