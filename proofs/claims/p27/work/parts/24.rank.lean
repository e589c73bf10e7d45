/-! ranks of the answers: the class's sorted list, the reference's count of those ahead -/
def gt0 (l : List Nat) (j : Nat) : Nat := l.getD j 0
theorem cn_app (P : Nat → Bool) (l : List Nat) (x : Nat) : cn (fun j => P (gt0 (l ++ [x]) j)) (l.length + 1) = cn (fun j => P (gt0 l j)) l.length + (if P x = true then 1 else 0) := by
  show cn (fun j => P (gt0 (l ++ [x]) j)) l.length + (if P (gt0 (l ++ [x]) l.length) = true then 1 else 0) = _
  have e : gt0 (l ++ [x]) l.length = x := by
    unfold gt0
    rw [List.getD_eq_getElem?_getD, List.getElem?_append_right (Nat.le_refl _), Nat.sub_self]; rfl
  rw [e, cn_congr (q := fun j => P (gt0 l j)) (fun r hr => by
    unfold gt0
    rw [List.getD_eq_getElem?_getD, List.getD_eq_getElem?_getD, List.getElem?_append_left hr])]
theorem cn_aL (w : Nat → Int32) (nt : Nat) (tl ts tn : Nat → Int32) (t : Nat) (P : Nat → Bool) (n : Nat) : cn (fun j => P (gt0 (aL w nt tl ts tn t n) j)) (aL w nt tl ts tn t n).length = cn (fun r => an w nt tl ts tn t r && P r) n := by
  induction n with
  | zero => rfl
  | succ n ih =>
    show _ = cn (fun r => an w nt tl ts tn t r && P r) n + (if (an w nt tl ts tn t n && P n) = true then 1 else 0)
    rw [aL_succ]
    by_cases ha : an w nt tl ts tn t n = true
    · rw [if_pos ha, List.length_append]
      show cn (fun j => P (gt0 (aL w nt tl ts tn t n ++ [n]) j)) ((aL w nt tl ts tn t n).length + 1) = _
      rw [cn_app, ih, ha, Bool.true_and]
    · rw [if_neg ha, List.append_nil, ih, Bool.eq_false_iff.mpr ha]; rfl
theorem aL_asc (w : Nat → Int32) (nt : Nat) (tl ts tn : Nat → Int32) (t n : Nat) : ∀ i j, i < j → j < (aL w nt tl ts tn t n).length → gt0 (aL w nt tl ts tn t n) i < gt0 (aL w nt tl ts tn t n) j := by
  induction n with
  | zero => intro i j hij hj; exact absurd hj (Nat.not_lt_zero j)
  | succ n ih =>
    rw [aL_succ]
    by_cases ha : an w nt tl ts tn t n = true
    · rw [if_pos ha]
      intro i j hij hj
      rw [List.length_append] at hj
      have hj : j < (aL w nt tl ts tn t n).length + 1 := hj
      have e1 : gt0 (aL w nt tl ts tn t n ++ [n]) i = gt0 (aL w nt tl ts tn t n) i := by
        unfold gt0
        rw [List.getD_eq_getElem?_getD, List.getD_eq_getElem?_getD, List.getElem?_append_left (by omega)]
      rw [e1]
      by_cases hjl : j = (aL w nt tl ts tn t n).length
      · have e2 : gt0 (aL w nt tl ts tn t n ++ [n]) j = n := by
          unfold gt0
          rw [hjl, List.getD_eq_getElem?_getD, List.getElem?_append_right (Nat.le_refl _), Nat.sub_self]; rfl
        rw [e2]
        have hm : gt0 (aL w nt tl ts tn t n) i ∈ aL w nt tl ts tn t n := by
          unfold gt0
          rw [List.getD_eq_getElem?_getD, List.getElem?_eq_getElem (by omega)]
          exact List.getElem_mem _
        exact (aL_lt hm).1
      · have e2 : gt0 (aL w nt tl ts tn t n ++ [n]) j = gt0 (aL w nt tl ts tn t n) j := by
          unfold gt0
          rw [List.getD_eq_getElem?_getD, List.getD_eq_getElem?_getD, List.getElem?_append_left (by omega)]
        rw [e2]
        exact ih i j hij (by omega)
    · rw [if_neg ha, List.append_nil]
      exact ih
/-- a list of the answers in the order that is due -/
def SD (w : Nat → Int32) (c : Int32) (σ : Nat → Nat) (a : Nat) : Prop := ∀ i j, i < j → j < a → ltK w c (σ i) (σ j)
def SP (σ α : Nat → Nat) (a : Nat) : Prop := ∀ P : Nat → Bool, cn (fun j => P (σ j)) a = cn (fun j => P (α j)) a
theorem sp_all {σ α : Nat → Nat} {a : Nat} (h : SP σ α a) (Q : Nat → Bool) (hq : ∀ j, j < a → Q (α j) = true) : ∀ j, j < a → Q (σ j) = true := by
  intro j hj
  have h1 := h (fun y => !Q y)
  rw [cn_none (p := fun j => !Q (α j)) (fun r hr => by rw [hq r hr]; rfl)] at h1
  have h2 := cn_zero h1 j hj
  cases hs : Q (σ j) with
  | true => rfl
  | false => rw [hs] at h2; cases h2
theorem sd_ins {w : Nat → Int32} {c : Int32} {σ : Nat → Nat} {i p x : Nat} (h : SD w c σ i) (hp : p ≤ i) (hx : ∀ j, j < i → σ j < x) (h1 : ∀ j, p ≤ j → j < i → bef w c x (σ j) = true) (h2 : p = 0 ∨ bef w c x (σ (p - 1)) = false) : SD w c (insF σ p x) (i + 1) := by
  intro a b hab hb
  unfold insF
  by_cases ha : a < p
  · rw [if_pos ha]
    by_cases hb1 : b < p
    · rw [if_pos hb1]; exact h a b hab (by omega)
    · rw [if_neg hb1]
      by_cases hb2 : b = p
      · rw [if_pos hb2]
        rcases h2 with h2 | h2
        · omega
        · rw [bef_ky, decide_eq_false_iff_not] at h2
          have hxa := hx a (by omega)
          by_cases hap : a = p - 1
          · rw [hap] at hxa ⊢
            unfold ltK
            omega
          · have h3 := h a (p - 1) (by omega) (by omega)
            unfold ltK at h3 ⊢
            omega
      · rw [if_neg hb2]; exact h a (b - 1) (by omega) (by omega)
  · rw [if_neg ha, if_neg (show ¬ b < p by omega), if_neg (show ¬ b = p by omega)]
    by_cases hap : a = p
    · rw [if_pos hap]
      have h3 := h1 (b - 1) (by omega) (by omega)
      rw [bef_ky, decide_eq_true_eq] at h3
      exact Or.inl h3
    · rw [if_neg hap]; exact h (a - 1) (b - 1) (by omega) (by omega)
section PL
variable {m : Mem} {n T nt : Nat} {w tl ts tn : Nat → Int32}
theorem p_sort (h : SR m.1 (m.2.1 6) w n) (hs : m.2.1 6 < 7) (hI : WI w n T) {c : Int32} (hc : isC c) {α : Nat → Nat} {a : Nat} (ha : a ≤ 120) (hα : ∀ i j, i < j → j < a → α i < α j) (hn : ∀ j, j < a → α j < n) (g : Nat → Int32) (hg : ∀ j, j < a → g j = zI (α j)) :
    ∃ (g2 : Nat → Int32) (σ : Nat → Nat), F_X3_sortAnswers (zI a) c (wA m (0, 0, 0, 4) g) = some ((), wA m (0, 0, 0, 4) g2) ∧ (∀ j, j < a → g2 j = zI (σ j)) ∧ SD w c σ a ∧ SP σ α a := by
  unfold F_X3_sortAnswers
  by_cases h0 : a = 0
  · subst h0
    refine ⟨g, α, ?_, hg, fun i j _ hj => absurd hj (Nat.not_lt_zero j), fun P => rfl⟩
    obtain ⟨k, hk⟩ : ∃ k, fu = k + 1 := ⟨9999, rfl⟩
    rw [hk, show (1 : Int32) = zI 1 from rfl]
    simp (discharger := omega) only [L_X3_sortAnswers_2, C_X3_sortAnswers_79, bd, bo_some, bm_some, bts_inl, bts_inr, btm_inl, btm_inr, bp_lt, ck_ib, ck_b0, ck_b1, ifT, ifF, n10, n01, pv_v, if_pos, if_neg, zI_nat, zI_add, zI_mul, zI_addl, zI_laddl, zI_mull, zI_lmul, zI_subl, zI_pred, zI_le, zI_lt, zI_eq, zI_lel, zI_lle, zI_ltl, zI_llt, zI_eql, zI_leq, zI_ne1, zI_1ne]
  · refine loop_ex (L := fun k (x : Mem) i => L_X3_sortAnswers_2 (zI a) c k i x) (P := fun i x => ∃ (g2 : Nat → Int32) (σ : Nat → Nat), x = wA m (0, 0, 0, 4) g2 ∧ (∀ j, j < i → g2 j = zI (σ j)) ∧ (∀ j, i ≤ j → j < a → g2 j = zI (α j)) ∧ SD w c σ i ∧ SP σ α i) (R := fun y => ∃ (g2 : Nat → Int32) (σ : Nat → Nat), y = some ((), wA m (0, 0, 0, 4) g2) ∧ (∀ j, j < a → g2 j = zI (σ j)) ∧ SD w c σ a ∧ SP σ α a) (n := a) ?_ ?_ (a - 1) 1 fu (wA m (0, 0, 0, 4) g) (by omega) (by rw [fu_eq]; omega) ⟨g, α, rfl, fun j hj => hg j (by omega), fun j _ hj => hg j hj, fun i j _ hj => by omega, fun P => rfl⟩
    · intro k x i hi hp
      refine Or.inl ?_
      obtain ⟨g2, σ, rfl, b1, b2, b3, b4⟩ := hp
      have hx : ∀ j, j < i → σ j < α i := by
        intro j hj
        have := sp_all b4 (fun y => decide (y < α i)) (fun j hj => decide_eq_true (hα j i hj hi)) j hj
        exact of_decide_eq_true this
      have hσ : ∀ j, j < i → σ j < n := fun j hj => Nat.lt_trans (hx j hj) (hn i hi)
      obtain ⟨p2, g3, c1, c2, c3, c4, c5, c6⟩ := ins_loop h hs hI hc (hn i hi) (show i < 120 by omega) hσ (fun w0 w1 => L_X3_sortAnswers_2 (zI a) c k w0 w1) g2 i fu g2 (Nat.le_refl i) (by rw [fu_eq]; omega) b1 (fun j h1 h2 => by omega) (fun j _ => rfl) (fun j h1 h2 => by omega)
      refine ⟨wA m (0, 0, 0, 4) g3, ⟨g3, insF σ p2 (α i), rfl, c3, fun j h1 h2 => by rw [c4 j (by omega)]; exact b2 j (by omega) h2, sd_ins b3 c1 hx c5 c6, fun P => ?_⟩, ?_⟩
      · rw [cn_ins P σ p2 (α i) i c1, b4 P]; rfl
      · have e1 : (wA m (0, 0, 0, 4) g2).1 (0, 0, 0, 4) i = zI (α i) := by rw [wA_self]; exact b2 i (Nat.le_refl i) hi
        simp (discharger := omega) only [L_X3_sortAnswers_2, e1, c2, bd, bo_some, bm_some, bts_inl, bts_inr, btm_inl, btm_inr, bp_lt, ck_ib, ck_b0, ck_b1, ifT, ifF, n10, n01, pv_v, if_pos, if_neg, zI_nat, zI_add, zI_mul, zI_addl, zI_laddl, zI_mull, zI_lmul, zI_subl, zI_pred, zI_le, zI_lt, zI_eq, zI_lel, zI_lle, zI_ltl, zI_llt, zI_eql, zI_leq, zI_ne1, zI_1ne]
    · intro k x hp
      obtain ⟨g2, σ, rfl, b1, b2, b3, b4⟩ := hp
      refine ⟨g2, σ, ?_, b1, b3, b4⟩
      simp (discharger := omega) only [L_X3_sortAnswers_2, C_X3_sortAnswers_79, Nat.le_refl, bd, bo_some, bm_some, bts_inl, bts_inr, btm_inl, btm_inr, bp_lt, ck_ib, ck_b0, ck_b1, ifT, ifF, n10, n01, pv_v, if_pos, if_neg, zI_nat, zI_add, zI_mul, zI_addl, zI_laddl, zI_mull, zI_lmul, zI_subl, zI_pred, zI_le, zI_lt, zI_eq, zI_lel, zI_lle, zI_ltl, zI_llt, zI_eql, zI_leq, zI_ne1, zI_1ne]
theorem p_answerAt {a p : Nat} (ha : a ≤ 120) (hp : p < 2147483648) {σ : Nat → Nat} {g : Nat → Int32} (hg : ∀ j, j < a → g j = zI (σ j)) : F_X3_answerAt (zI p) (zI a) (wA m (0, 0, 0, 4) g) = some (if p < a then zI (σ p) else -1) := by
  by_cases h : p < a
  · have e1 : (wA m (0, 0, 0, 4) g).1 (0, 0, 0, 4) p = zI (σ p) := by rw [wA_self]; exact hg p h
    simp (discharger := omega) only [F_X3_answerAt, J_X3_answerAt_24, J_X3_answerAt_25, e1, h, bd, bo_some, bm_some, bts_inl, bts_inr, btm_inl, btm_inr, bp_lt, ck_ib, ck_b0, ck_b1, ifT, ifF, n10, n01, pv_v, if_pos, if_neg, zI_nat, zI_add, zI_mul, zI_addl, zI_laddl, zI_mull, zI_lmul, zI_subl, zI_pred, zI_le, zI_lt, zI_eq, zI_lel, zI_lle, zI_ltl, zI_llt, zI_eql, zI_leq, zI_ne1, zI_1ne]
  · simp (discharger := omega) only [F_X3_answerAt, J_X3_answerAt_24, J_X3_answerAt_25, h, bd, bo_some, bm_some, bts_inl, bts_inr, btm_inl, btm_inr, bp_lt, ck_ib, ck_b0, ck_b1, ifT, ifF, n10, n01, pv_v, if_pos, if_neg, zI_nat, zI_add, zI_mul, zI_addl, zI_laddl, zI_mull, zI_lmul, zI_subl, zI_pred, zI_le, zI_lt, zI_eq, zI_lel, zI_lle, zI_ltl, zI_llt, zI_eql, zI_leq, zI_ne1, zI_1ne]
end PL

