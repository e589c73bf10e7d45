/-! the sort of the answers, and their ranks -/
def ky (w : Nat → Int32) (c : Int32) (r : Nat) : Int := if vl w r c = -100000 then 10000000000 else (vl w r c).toInt
def bef (w : Nat → Int32) (c : Int32) (r q : Nat) : Bool := !decide (vl w r c = -100000) && (decide (vl w q c = -100000) || decide (vl w r c < vl w q c))
theorem bef_ky (w : Nat → Int32) (c : Int32) (r q : Nat) : bef w c r q = decide (ky w c r < ky w c q) := by
  have b1 := Int32.toInt_lt (vl w r c)
  have b2 := Int32.toInt_lt (vl w q c)
  unfold bef ky
  by_cases h1 : vl w r c = -100000
  · by_cases h2 : vl w q c = -100000
    · rw [if_pos h1, if_pos h2, decide_eq_true h1]; rfl
    · rw [if_pos h1, if_neg h2, decide_eq_true h1]
      symm
      show decide _ = false
      rw [decide_eq_false_iff_not]
      omega
  · by_cases h2 : vl w q c = -100000
    · rw [if_neg h1, if_pos h2, decide_eq_false h1, decide_eq_true h2]
      symm
      show decide _ = true
      rw [decide_eq_true_eq]
      omega
    · rw [if_neg h1, if_neg h2, decide_eq_false h1, decide_eq_false h2]
      show (decide (vl w r c < vl w q c)) = _
      exact decide_eq_decide.mpr Int32.lt_iff_toInt_lt
def ltK (w : Nat → Int32) (c : Int32) (r q : Nat) : Prop := ky w c r < ky w c q ∨ (ky w c r = ky w c q ∧ r < q)
def ltB (w : Nat → Int32) (c : Int32) (q r : Nat) : Bool := decide (ky w c r < ky w c q) || (decide (ky w c r = ky w c q) && decide (r < q))
theorem ltB_iff {w : Nat → Int32} {c : Int32} {q r : Nat} : ltB w c q r = true ↔ ltK w c r q := by
  unfold ltB ltK
  rw [Bool.or_eq_true, Bool.and_eq_true, decide_eq_true_eq, decide_eq_true_eq, decide_eq_true_eq]
theorem cn_congr {p q : Nat → Bool} {n : Nat} (h : ∀ r, r < n → p r = q r) : cn p n = cn q n := by
  induction n with
  | zero => rfl
  | succ n ih =>
    show cn p n + (if p n = true then 1 else 0) = cn q n + (if q n = true then 1 else 0)
    rw [ih (fun r hr => h r (by omega)), h n (by omega)]
theorem cn_zero {p : Nat → Bool} {n : Nat} (h : cn p n = 0) : ∀ r, r < n → p r = false := by
  induction n with
  | zero => exact fun r hr => absurd hr (Nat.not_lt_zero r)
  | succ n ih =>
    have h1 : cn p n + (if p n = true then 1 else 0) = 0 := h
    intro r hr
    by_cases hrn : r = n
    · cases hp : p n with
      | false => rw [hrn]; exact hp
      | true => rw [hp, if_pos rfl] at h1; omega
    · exact ih (by omega) r (by omega)
theorem cn_none {p : Nat → Bool} {n : Nat} (h : ∀ r, r < n → p r = false) : cn p n = 0 := by
  induction n with
  | zero => rfl
  | succ n ih =>
    show cn p n + (if p n = true then 1 else 0) = 0
    rw [ih (fun r hr => h r (by omega)), h n (by omega)]; rfl
theorem cn_low {p : Nat → Bool} {n a : Nat} (ha : a ≤ n) (h1 : ∀ r, r < a → p r = true) (h2 : ∀ r, a ≤ r → r < n → p r = false) : cn p n = a := by
  induction n with
  | zero => show 0 = a; omega
  | succ n ih =>
    show cn p n + (if p n = true then 1 else 0) = a
    by_cases han : a = n + 1
    · have h3 : cn p n = n := by
        have : ∀ k, k ≤ n → cn p k = k := by
          intro k
          induction k with
          | zero => exact fun _ => rfl
          | succ k ihk =>
            intro hk
            show cn p k + (if p k = true then 1 else 0) = k + 1
            rw [ihk (by omega), h1 k (by omega), if_pos rfl]
        exact this n (Nat.le_refl n)
      rw [h3, h1 n (by omega), if_pos rfl, han]
    · rw [ih (by omega) (fun r hr1 hr2 => h2 r hr1 (by omega)), h2 n (by omega) (by omega)]; rfl
/-- x put in at p -/
def insF (σ : Nat → Nat) (p x : Nat) : Nat → Nat := fun j => if j < p then σ j else if j = p then x else σ (j - 1)
theorem cn_ins (P : Nat → Bool) (σ : Nat → Nat) (p x n : Nat) (h : p ≤ n) : cn (fun j => P (insF σ p x j)) (n + 1) = cn (fun j => P (σ j)) n + (if P x = true then 1 else 0) := by
  induction n with
  | zero =>
    have hp : p = 0 := by omega
    subst hp
    show 0 + (if P (insF σ 0 x 0) = true then 1 else 0) = 0 + (if P x = true then 1 else 0)
    rfl
  | succ n ih =>
    by_cases hpn : p = n + 1
    · subst hpn
      show cn (fun j => P (insF σ (n + 1) x j)) (n + 1) + (if P (insF σ (n + 1) x (n + 1)) = true then 1 else 0) = _
      have e1 : insF σ (n + 1) x (n + 1) = x := by unfold insF; rw [if_neg (by omega), if_pos rfl]
      rw [e1, cn_congr (q := fun j => P (σ j)) (fun r hr => by unfold insF; rw [if_pos hr])]
    · show cn (fun j => P (insF σ p x j)) (n + 1) + (if P (insF σ p x (n + 1)) = true then 1 else 0) = (cn (fun j => P (σ j)) n + (if P (σ n) = true then 1 else 0)) + (if P x = true then 1 else 0)
      have e1 : insF σ p x (n + 1) = σ n := by unfold insF; rw [if_neg (by omega), if_neg (by omega)]; rfl
      rw [ih (by omega), e1]
      omega
section PK
variable {m : Mem} {n T : Nat} {w : Nat → Int32}
theorem p_bef (h : SR m.1 (m.2.1 6) w n) (hs : m.2.1 6 < 7) (hI : WI w n T) {c : Int32} (hc : isC c) {r q : Nat} (hr : r < n) (hq : q < n) : F_X3_comesBefore (zI r) (zI q) c m = some (if bef w c r q = true then 1 else 0) := by
  obtain ⟨i1, i2, i3, i4, -⟩ := id hI
  have e1 := p_valueC h hr hc
  have e2 := p_valueC h hq hc
  have p1 := pv_no (vok_no (vl_ok i4 hr hc))
  have p2 := pv_no (vok_no (vl_ok i4 hq hc))
  unfold bef
  by_cases h1 : vl w r c = -100000
  · simp (discharger := omega) only [F_X3_comesBefore, e1, e2, h1, decide_true, Bool.not_true, Bool.false_and, Bool.false_eq_true, bd, bo_some, bm_some, bts_inl, bts_inr, btm_inl, btm_inr, bp_lt, ck_ib, ck_b0, ck_b1, ifT, ifF, n10, n01, pv_v, if_pos, if_neg, zI_nat, zI_add, zI_mul, zI_addl, zI_laddl, zI_mull, zI_lmul, zI_subl, zI_pred, zI_le, zI_lt, zI_eq, zI_lel, zI_lle, zI_ltl, zI_llt, zI_eql, zI_leq, zI_ne1, zI_1ne]
  · have a1 : pv (vl w r c) = vl w r c := by unfold pv; rw [if_neg h1]
    rw [a1] at e1 p1
    by_cases h2 : vl w q c = -100000
    · simp (discharger := omega) only [F_X3_comesBefore, J_X3_comesBefore_45, J_X3_comesBefore_50, e1, e2, p1, h1, h2, decide_true, decide_false, Bool.not_false, Bool.true_or, Bool.true_and, bd, bo_some, bm_some, bts_inl, bts_inr, btm_inl, btm_inr, bp_lt, ck_ib, ck_b0, ck_b1, ifT, ifF, n10, n01, pv_v, if_pos, if_neg, zI_nat, zI_add, zI_mul, zI_addl, zI_laddl, zI_mull, zI_lmul, zI_subl, zI_pred, zI_le, zI_lt, zI_eq, zI_lel, zI_lle, zI_ltl, zI_llt, zI_eql, zI_leq, zI_ne1, zI_1ne]
    · have a2 : pv (vl w q c) = vl w q c := by unfold pv; rw [if_neg h2]
      rw [a2] at e2 p2
      by_cases h3 : vl w r c < vl w q c
      · have h4 : ¬ vl w q c ≤ vl w r c := fun h => absurd h3 (Int32.not_lt.mpr h)
        simp (discharger := omega) only [F_X3_comesBefore, J_X3_comesBefore_45, J_X3_comesBefore_50, e1, e2, p1, p2, h1, h2, h3, h4, decide_true, decide_false, Bool.not_false, Bool.false_or, Bool.true_and, bd, bo_some, bm_some, bts_inl, bts_inr, btm_inl, btm_inr, bp_lt, ck_ib, ck_b0, ck_b1, ifT, ifF, n10, n01, pv_v, if_pos, if_neg, zI_nat, zI_add, zI_mul, zI_addl, zI_laddl, zI_mull, zI_lmul, zI_subl, zI_pred, zI_le, zI_lt, zI_eq, zI_lel, zI_lle, zI_ltl, zI_llt, zI_eql, zI_leq, zI_ne1, zI_1ne]
      · have h4 : vl w q c ≤ vl w r c := Int32.not_lt.mp h3
        simp (discharger := omega) only [F_X3_comesBefore, J_X3_comesBefore_45, J_X3_comesBefore_50, e1, e2, p1, p2, h1, h2, h3, h4, decide_false, Bool.not_false, Bool.false_or, Bool.true_and, Bool.false_eq_true, bd, bo_some, bm_some, bts_inl, bts_inr, btm_inl, btm_inr, bp_lt, ck_ib, ck_b0, ck_b1, ifT, ifF, n10, n01, pv_v, if_pos, if_neg, zI_nat, zI_add, zI_mul, zI_addl, zI_laddl, zI_mull, zI_lmul, zI_subl, zI_pred, zI_le, zI_lt, zI_eq, zI_lel, zI_lle, zI_ltl, zI_llt, zI_eql, zI_leq, zI_ne1, zI_1ne]
/-- one row goes to its place -/
theorem ins_loop (h : SR m.1 (m.2.1 6) w n) (hs : m.2.1 6 < 7) (hI : WI w n T) {c : Int32} (hc : isC c) {x i : Nat} (hx : x < n) (hi : i < 120) {σ : Nat → Nat} (hσ : ∀ j, j < i → σ j < n) (kb : Int32 → Mem → Option (Unit × Mem)) (G : Nat → Int32) :
    ∀ (p k : Nat) (g : Nat → Int32), p ≤ i → p < k → (∀ j, j < p → g j = zI (σ j)) → (∀ j, p ≤ j → j < i → g (j + 1) = zI (σ j)) → (∀ j, i < j → g j = G j) → (∀ j, p ≤ j → j < i → bef w c x (σ j) = true) →
      ∃ (p2 : Nat) (g2 : Nat → Int32), p2 ≤ i ∧ L_X3_sortAnswers_18 c (zI i) kb (zI x) k (zI p) (wA m (0, 0, 0, 4) g) = kb (zI (i + 1)) (wA m (0, 0, 0, 4) g2) ∧ (∀ j, j < i + 1 → g2 j = zI (insF σ p2 x j)) ∧ (∀ j, i < j → g2 j = G j) ∧ (∀ j, p2 ≤ j → j < i → bef w c x (σ j) = true) ∧ (p2 = 0 ∨ bef w c x (σ (p2 - 1)) = false) := by
  intro p
  induction p with
  | zero =>
    intro k g hp hk g1 g2 g3 g4
    obtain ⟨k2, rfl⟩ : ∃ k2, k = k2 + 1 := ⟨k - 1, by omega⟩
    refine ⟨0, upd g 0 (zI x), by omega, ?_, ?_, ?_, g4, Or.inl rfl⟩
    · simp (discharger := omega) only [L_X3_sortAnswers_18, C_X3_sortAnswers_64, wI_wA, Nat.le_refl, bd, bo_some, bm_some, bts_inl, bts_inr, btm_inl, btm_inr, bp_lt, ck_ib, ck_b0, ck_b1, ifT, ifF, n10, n01, pv_v, if_pos, if_neg, zI_nat, zI_add, zI_mul, zI_addl, zI_laddl, zI_mull, zI_lmul, zI_subl, zI_pred, zI_le, zI_lt, zI_eq, zI_lel, zI_lle, zI_ltl, zI_llt, zI_eql, zI_leq, zI_ne1, zI_1ne]
    · intro j hj
      unfold upd insF
      by_cases hj0 : j = 0
      · rw [if_pos hj0, if_neg (by omega), if_pos hj0]
      · rw [if_neg hj0, if_neg (by omega), if_neg hj0]
        have := g2 (j - 1) (by omega) (by omega)
        rw [show j - 1 + 1 = j by omega] at this
        exact this
    · intro j hj
      unfold upd
      rw [if_neg (by omega)]
      exact g3 j hj
  | succ p ih =>
    intro k g hp hk g1 g2 g3 g4
    obtain ⟨k2, rfl⟩ : ∃ k2, k = k2 + 1 := ⟨k - 1, by omega⟩
    have hS2 : SR (wA m (0, 0, 0, 4) g).1 ((wA m (0, 0, 0, 4) g).2.1 6) w n := sr_wA h 4 g
    have hs2 : (wA m (0, 0, 0, 4) g).2.1 6 < 7 := hs
    have e1 := p_bef hS2 hs2 hI hc hx (hσ p (by omega))
    have e2 : (wA m (0, 0, 0, 4) g).1 (0, 0, 0, 4) p = zI (σ p) := by rw [wA_self]; exact g1 p (by omega)
    have e3 : p + 1 - 1 = p := by omega
    by_cases hb : bef w c x (σ p) = true
    · obtain ⟨p2, g5, a1, a2, a3, a4, a5, a6⟩ := ih k2 (upd g (p + 1) (zI (σ p))) (by omega) (by omega) (fun j hj => by unfold upd; rw [if_neg (by omega)]; exact g1 j (by omega)) (fun j hj1 hj2 => by
        unfold upd
        by_cases hjp : j = p
        · rw [if_pos (by omega), hjp]
        · rw [if_neg (by omega)]; exact g2 j (by omega) hj2) (fun j hj => by unfold upd; rw [if_neg (by omega)]; exact g3 j hj) (fun j hj1 hj2 => by
        by_cases hjp : j = p
        · rw [hjp]; exact hb
        · exact g4 j (by omega) hj2)
      refine ⟨p2, g5, a1, ?_, a3, a4, a5, a6⟩
      rw [← a2]
      simp (discharger := omega) only [L_X3_sortAnswers_18, e1, e2, e3, hb, wI_wA, bd, bo_some, bm_some, bts_inl, bts_inr, btm_inl, btm_inr, bp_lt, ck_ib, ck_b0, ck_b1, ifT, ifF, n10, n01, pv_v, if_pos, if_neg, zI_nat, zI_add, zI_mul, zI_addl, zI_laddl, zI_mull, zI_lmul, zI_subl, zI_pred, zI_le, zI_lt, zI_eq, zI_lel, zI_lle, zI_ltl, zI_llt, zI_eql, zI_leq, zI_ne1, zI_1ne]
    · have hb2 : bef w c x (σ p) = false := Bool.eq_false_iff.mpr hb
      refine ⟨p + 1, upd g (p + 1) (zI x), hp, ?_, ?_, ?_, g4, Or.inr hb2⟩
      · simp (discharger := omega) only [L_X3_sortAnswers_18, C_X3_sortAnswers_64, e1, e2, e3, hb2, wI_wA, Bool.false_eq_true, bd, bo_some, bm_some, bts_inl, bts_inr, btm_inl, btm_inr, bp_lt, ck_ib, ck_b0, ck_b1, ifT, ifF, n10, n01, pv_v, if_pos, if_neg, zI_nat, zI_add, zI_mul, zI_addl, zI_laddl, zI_mull, zI_lmul, zI_subl, zI_pred, zI_le, zI_lt, zI_eq, zI_lel, zI_lle, zI_ltl, zI_llt, zI_eql, zI_leq, zI_ne1, zI_1ne]
      · intro j hj
        unfold upd insF
        by_cases hj0 : j = p + 1
        · rw [if_pos hj0, if_neg (by omega), if_pos hj0]
        · rw [if_neg hj0]
          by_cases hjl : j < p + 1
          · rw [if_pos hjl]; exact g1 j hjl
          · rw [if_neg hjl, if_neg hj0]
            have := g2 (j - 1) (by omega) (by omega)
            rw [show j - 1 + 1 = j by omega] at this
            exact this
      · intro j hj
        unfold upd
        rw [if_neg (by omega)]
        exact g3 j hj
end PK

