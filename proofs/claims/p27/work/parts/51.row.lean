/-! row -/
def inL (p n : Nat) : List Nat := List.range p ++ n :: (List.range n).drop p
theorem inL_gt {p n i : Nat} (hp : p ≤ n) (hi : i ≤ n) : gt0 (inL p n) i = if i < p then i else if i = p then n else i - 1 := by
  unfold inL
  rw [gt0_app, List.length_range]
  by_cases h : i < p
  · rw [if_pos h, if_pos h, gt0_range h]
  · rw [if_neg h, if_neg h]
    by_cases h2 : i = p
    · rw [if_pos h2, h2, Nat.sub_self]; rfl
    · rw [if_neg h2]
      obtain ⟨j, hj⟩ : ∃ j, i - p = j + 1 := ⟨i - p - 1, by omega⟩
      rw [hj]
      show gt0 ((List.range n).drop p) j = _
      unfold gt0
      rw [List.getD_eq_getElem?_getD, List.getElem?_drop, List.getElem?_eq_getElem (by rw [List.length_range]; omega), List.getElem_range]
      show p + j = i - 1
      omega
theorem inL_len {p n : Nat} (hp : p ≤ n) : (inL p n).length = n + 1 := by
  unfold inL
  rw [List.length_append, List.length_range, List.length_cons, List.length_drop, List.length_range]
  omega
theorem inL_perm {p n : Nat} (hp : p ≤ n) : (inL p n).Perm (List.range (n + 1)) := by
  unfold inL
  have e : List.range p ++ (List.range n).drop p = List.range n := by
    have h := List.take_append_drop p (List.range n)
    rw [List.take_range, Nat.min_eq_left hp] at h
    exact h
  refine List.perm_middle.trans ?_
  rw [e, List.range_succ]
  exact (List.perm_append_comm (l₁ := [n]) (l₂ := List.range n))
theorem slp_sorted2 (f : Nat → Nat) (n c : Nat) : (slp f n c).Pairwise (fun a b => f a < f b ∨ (f a = f b ∧ a ≤ b)) := by
  induction c with
  | zero => exact List.Pairwise.nil
  | succ c ih =>
    refine List.pairwise_append.mpr ⟨ih, ?_, fun a ha b hb => ?_⟩
    · have h0 : (fL (fun r => decide (f r = c)) n).Pairwise (· < ·) := List.Pairwise.sublist (fL_sub _ _) List.pairwise_lt_range
      refine List.pairwise_iff_getElem.mpr (fun i j hi hj hij => ?_)
      have h1 := of_decide_eq_true (fL_mem (List.getElem_mem hi)).2
      have h2 := of_decide_eq_true (fL_mem (List.getElem_mem hj)).2
      have h3 := List.pairwise_iff_getElem.mp h0 i j hi hj hij
      omega
    · have h1 := (slp_mem ha).2
      have h2 := of_decide_eq_true (fL_mem hb).2
      omega
theorem inL_slp {f : Nat → Nat} {n p : Nat} (hp : p ≤ n) (hf : ∀ r, r < n + 1 → f r < 4) (hs : ∀ a b, a < b → b < n → f a ≤ f b) (h1 : ∀ r, r < p → f r ≤ f n) (h2 : ∀ r, p ≤ r → r < n → f n < f r) : slp f (n + 1) 4 = inL p n := by
  refine List.Perm.eq_of_pairwise (le := fun a b => f a < f b ∨ (f a = f b ∧ a ≤ b)) (fun a b _ _ h3 h4 => by omega) (slp_sorted2 f (n + 1) 4) ?_ ?_
  · refine List.pairwise_iff_getElem.mpr (fun i j hi hj hij => ?_)
    have g : ∀ i (hi : i < (inL p n).length), (inL p n)[i] = gt0 (inL p n) i := fun i hi => by
      unfold gt0
      rw [List.getD_eq_getElem?_getD, List.getElem?_eq_getElem hi]
      rfl
    rw [g i hi, g j hj]
    rw [inL_len hp] at hi hj
    rw [inL_gt hp (by omega), inL_gt hp (by omega)]
    by_cases a1 : i < p
    · rw [if_pos a1]
      by_cases a2 : j < p
      · rw [if_pos a2]
        have := hs i j hij (by omega)
        omega
      · rw [if_neg a2]
        by_cases a3 : j = p
        · rw [if_pos a3]
          have := h1 i a1
          omega
        · rw [if_neg a3]
          have := h1 i a1
          have := h2 (j - 1) (by omega) (by omega)
          omega
    · rw [if_neg a1, if_neg (show ¬ j < p by omega), if_neg (show ¬ j = p by omega)]
      by_cases a3 : i = p
      · rw [if_pos a3]
        have := h2 (j - 1) (by omega) (by omega)
        omega
      · rw [if_neg a3]
        have := hs (i - 1) (j - 1) (by omega) (by omega)
        omega
  · refine List.Perm.trans ?_ (inL_perm hp).symm
    refine List.perm_iff_count.mpr (fun a => ?_)
    rw [List.count_eq_countP, List.count_eq_countP, slp4 hf, cn_range]
section QU
variable {m m1 m2 mi x : Mem} {n n0 k L T s q t r p : Nat} {w w1 w2 v tx : Nat → Int32} {pa : Nat → Nat → Int32} {nn TT : Nat → Nat} {l : List Nat}
theorem sr_list2 (h : SR m1.1 s w n) (hvw : ∀ i, 1080 < i → i < 1174 → v i = w i) (ho2 : OW v n0) (hl : l.length ≤ 120) (hm : ∀ i, i < l.length → gt0 l i < n0) (h3 : m2.1 (1, s, 0, 0) 3 = zI l.length) (ho : ∀ i, i < l.length → m2.1 (1, s, 0, 2) i = v (9 * gt0 l i)) (hv : ∀ i, i < l.length → ∀ c, c < 8 → m2.1 (1, s, 0, 3) (i * 8 + c) = pv (v (9 * gt0 l i + 1 + c))) (ht : ∀ a b, m2.1 (2, s, a, b) = m1.1 (2, s, a, b)) : SR m2.1 s (lsW l v) l.length := by
  obtain ⟨a1, a2, a3, a4, a5, a6, a7, a8⟩ := h
  refine ⟨hl, lsW_n v hl, h3, fun r hr => by rw [lsW_row0 l v hr]; exact ho r hr, fun r hr c hc => by rw [show 9 * r + 1 + c = 9 * r + (1 + c) by omega, lsW_row l v hr (by omega), ← Nat.add_assoc]; exact hv r hr c hc, fun t ht2 c hc => ?_, fun t ht2 => ?_, fun r hr => by rw [lsW_row0 l v hr]; exact ho2 _ (hm r hr)⟩
  · rw [ht, ht, ht, lsW_hi v hl (by omega), lsW_hi v hl (by omega), lsW_hi v hl (by omega), hvw _ (by omega) (by omega), hvw _ (by omega) (by omega), hvw _ (by omega) (by omega)]
    exact a6 t ht2 c hc
  · rw [ht, lsW_hi v hl (by omega), lsW_hi v hl (by omega), lsW_hi v hl (by omega), lsW_hi v hl (by omega), lsW_hi v hl (by omega), lsW_hi v hl (by omega), lsW_hi v hl (by omega), hvw _ (by omega) (by omega), hvw _ (by omega) (by omega), hvw _ (by omega) (by omega), hvw _ (by omega) (by omega), hvw _ (by omega) (by omega), hvw _ (by omega) (by omega), hvw _ (by omega) (by omega)]
    exact a7 t ht2
theorem own_sum (w : Nat → Int32) : ∀ n, OW w n → n ≤ 120 → cn (fun r => decide (w (9 * r) = zI 0)) n + cn (fun r => decide (w (9 * r) = zI 1)) n + cn (fun r => decide (w (9 * r) = zI 2)) n = n := by
  intro n
  induction n with
  | zero => exact fun _ _ => rfl
  | succ n ih =>
    intro h hn
    have h1 := ih (fun r hr => h r (by omega)) (by omega)
    obtain ⟨t, ht, e⟩ := h n (Nat.lt_succ_self n)
    have z : ∀ a b : Nat, a < 3 → b < 3 → (decide (zI a = zI b) = true ↔ a = b) := fun a b ha hb => by
      rw [decide_eq_true_eq, zI_eq (by omega) (by omega)]
    show (cn _ n + (if decide (w (9 * n) = zI 0) = true then 1 else 0)) + (cn _ n + (if decide (w (9 * n) = zI 1) = true then 1 else 0)) + (cn _ n + (if decide (w (9 * n) = zI 2) = true then 1 else 0)) = n + 1
    rw [e]
    rcases (show t = 0 ∨ t = 1 ∨ t = 2 by omega) with rfl | rfl | rfl
    · rw [if_pos ((z 0 0 (by omega) (by omega)).mpr rfl), if_neg (by rw [z 0 1 (by omega) (by omega)]; omega), if_neg (by rw [z 0 2 (by omega) (by omega)]; omega)]; omega
    · rw [if_neg (by rw [z 1 0 (by omega) (by omega)]; omega), if_pos ((z 1 1 (by omega) (by omega)).mpr rfl), if_neg (by rw [z 1 2 (by omega) (by omega)]; omega)]; omega
    · rw [if_neg (by rw [z 2 0 (by omega) (by omega)]; omega), if_neg (by rw [z 2 1 (by omega) (by omega)]; omega), if_pos ((z 2 2 (by omega) (by omega)).mpr rfl)]; omega
def tcl (w : Nat → Int32) (t : Nat) : Nat := if w (1159 + t) = 0 then 0 else t + 1
theorem p_tableT (h : SR m.1 s w n) (ht : t < 3) : F_X1_tableOf s (zI t) m = some (zI (tcl w t)) := by
  have e := (h.2.2.2.2.2.2.1 t ht).2.2.1
  unfold tcl
  by_cases hv : w (1159 + t) = 0
  · rw [if_pos hv]
    simp (discharger := omega) only [F_X1_tableOf, J_X1_tableOf_19, e, hv, bd_e, bo_e, bm_e, bts_l, bts_r, btm_l, btm_r, bp_lt, ck_ib, ck_z, ck_o, ifT, ifF, n10, n01, pv_v, if_pos, if_neg, zI_nat, zI_add, zI_mul, zI_addl, zI_laddl, zI_mull, zI_lmul, zI_subl, zI_pred, zI_le, zI_lt, zI_eq, zI_lel, zI_lle, zI_ltl, zI_llt, zI_eql, zI_leq, zI_ne1, zI_1ne] <;> rfl
  · rw [if_neg hv]
    simp (discharger := omega) only [F_X1_tableOf, J_X1_tableOf_19, e, hv, bd_e, bo_e, bm_e, bts_l, bts_r, btm_l, btm_r, bp_lt, ck_ib, ck_z, ck_o, ifT, ifF, n10, n01, pv_v, if_pos, if_neg, zI_nat, zI_add, zI_mul, zI_addl, zI_laddl, zI_mull, zI_lmul, zI_subl, zI_pred, zI_le, zI_lt, zI_eq, zI_lel, zI_lle, zI_ltl, zI_llt, zI_eql, zI_leq, zI_ne1, zI_1ne]
theorem cls_own (ht : t < 3) (h : w (9 * r) = zI t) : cls w r = tcl w t := by
  unfold cls tcl
  rw [mvd_of ht h, h, zI_nat (by omega)]
/- where a row of a tenant comes -/
theorem p_place (h : SR m.1 s w n) (hso : SO w n) (ht : t < 3) : ∃ p, p ≤ n ∧ (∀ r, r < p → cls w r ≤ tcl w t) ∧ (∀ r, p ≤ r → r < n → tcl w t < cls w r) ∧ L_X1_insertRow_13 s (zI t) m fu 0 = C_X1_insertRow_45 s (zI t) m (zI p) := by
  obtain ⟨a1, a2, a3, a4, a5, a6, a7, a8⟩ := id h
  have tT : tcl w t < 4 := by
    unfold tcl
    by_cases e : w (1159 + t) = 0
    · rw [if_pos e]; omega
    · rw [if_neg e]; omega
  refine loop_ex (L := fun k (_ : Unit) i => L_X1_insertRow_13 s (zI t) m k i) (P := fun r _ => ∀ j, j < r → cls w j ≤ tcl w t) (R := fun y => ∃ p, p ≤ n ∧ (∀ r, r < p → cls w r ≤ tcl w t) ∧ (∀ r, p ≤ r → r < n → tcl w t < cls w r) ∧ y = C_X1_insertRow_45 s (zI t) m (zI p)) (n := n) ?_ ?_ n 0 fu () (by omega) (by rw [fu_eq]; omega) (fun j hj => absurd hj (Nat.not_lt_zero j))
  · intro k a r hr hp
    have e1 := a4 r hr
    have e2 := p_tableOf h a8 hr
    have e3 := p_tableT h ht
    have hc := cls_lt a8 hr
    by_cases hlt : tcl w t < cls w r
    · refine Or.inr ⟨r, by omega, hp, fun q hq hqn => ?_, ?_⟩
      · by_cases e : q = r
        · rw [e]; exact hlt
        · have := hso r q (by omega) hqn
          omega
      · simp (discharger := omega) only [L_X1_insertRow_13, a3, e1, e2, e3, hlt, bd_e, bo_e, bm_e, bts_l, bts_r, btm_l, btm_r, bp_lt, ck_ib, ck_z, ck_o, ifT, ifF, n10, n01, pv_v, if_pos, if_neg, zI_nat, zI_add, zI_mul, zI_addl, zI_laddl, zI_mull, zI_lmul, zI_subl, zI_pred, zI_le, zI_lt, zI_eq, zI_lel, zI_lle, zI_ltl, zI_llt, zI_eql, zI_leq, zI_ne1, zI_1ne]
    · refine Or.inl ⟨(), fun j hj => ?_, ?_⟩
      · by_cases e : j = r
        · rw [e]; omega
        · exact hp j (by omega)
      · simp (discharger := omega) only [L_X1_insertRow_13, a3, e1, e2, e3, hlt, bd_e, bo_e, bm_e, bts_l, bts_r, btm_l, btm_r, bp_lt, ck_ib, ck_z, ck_o, ifT, ifF, n10, n01, pv_v, if_pos, if_neg, zI_nat, zI_add, zI_mul, zI_addl, zI_laddl, zI_mull, zI_lmul, zI_subl, zI_pred, zI_le, zI_lt, zI_eq, zI_lel, zI_lle, zI_ltl, zI_llt, zI_eql, zI_leq, zI_ne1, zI_1ne]
  · intro k a hp
    refine ⟨n, Nat.le_refl n, hp, fun r h1 h2 => by omega, ?_⟩
    simp (discharger := omega) only [L_X1_insertRow_13, a3, Nat.le_refl, bd_e, bo_e, bm_e, bts_l, bts_r, btm_l, btm_r, bp_lt, ck_ib, ck_z, ck_o, ifT, ifF, n10, n01, pv_v, if_pos, if_neg, zI_nat, zI_add, zI_mul, zI_addl, zI_laddl, zI_mull, zI_lmul, zI_subl, zI_pred, zI_le, zI_lt, zI_eq, zI_lel, zI_lle, zI_ltl, zI_llt, zI_eql, zI_leq, zI_ne1, zI_1ne]
/- the row is put in -/
theorem p_insert (h : SR m.1 s w n) (hn : n < 120) (hp : p ≤ n) (ht : t < 3) : ∃ m2, C_X1_insertRow_45 s (zI t) m (zI p) = some (zI p, m2) ∧ FrT s m m2 ∧ (∀ a b, m2.1 (2, s, a, b) = m.1 (2, s, a, b)) ∧ m2.1 (1, s, 0, 0) 3 = zI (n + 1) ∧ (∀ i, i ≤ n → m2.1 (1, s, 0, 2) i = if i < p then w (9 * i) else if i = p then zI t else w (9 * (i - 1))) ∧ ∀ i, i ≤ n → ∀ c, c < 8 → m2.1 (1, s, 0, 3) (i * 8 + c) = if i < p then pv (w (9 * i + 1 + c)) else if i = p then -1000000 else pv (w (9 * (i - 1) + 1 + c)) := by
  obtain ⟨a1, a2, a3, a4, a5, a6, a7, a8⟩ := id h
  obtain ⟨m7, hm7⟩ : ∃ m7, m7 = wA m (1, s, 0, 2) (va_cpy (m.1 (1, s, 0, 2)) (m.1 (1, s, 0, 2)) p (p + 1) (n - p)) := ⟨_, rfl⟩
  obtain ⟨m14, hm14⟩ : ∃ m14, m14 = wA m7 (1, s, 0, 3) (va_cpy (m7.1 (1, s, 0, 3)) (m7.1 (1, s, 0, 3)) (p * 8) ((p + 1) * 8) ((n - p) * 8)) := ⟨_, rfl⟩
  obtain ⟨m17, hm17⟩ : ∃ m17, m17 = wI m14 (1, s, 0, 0) 3 (zI (n + 1)) := ⟨_, rfl⟩
  obtain ⟨m18, hm18⟩ : ∃ m18, m18 = wI m17 (1, s, 0, 2) p (zI t) := ⟨_, rfl⟩
  have y0 : m7.1 (1, s, 0, 0) 3 = zI n := by rw [hm7, wA_ne _ _ (lb1_ne (by decide))]; exact a3
  have y1 : m14.1 (1, s, 0, 0) 3 = zI n := by rw [hm14, wA_ne _ _ (lb1_ne (by decide))]; exact y0
  have v7 : m7.1 (1, s, 0, 3) = m.1 (1, s, 0, 3) := by rw [hm7, wA_ne _ _ (lb1_ne (by decide))]
  have f18 : ∀ lb : Lb, lb ≠ (1, s, 0, 0) → lb ≠ (1, s, 0, 2) → lb ≠ (1, s, 0, 3) → m18.1 lb = m.1 lb := fun lb h0 h2 h3 => by
    rw [hm18, wI_ne h2, hm17, wI_ne h0, hm14, wA_ne _ _ h3, hm7, wA_ne _ _ h2]
  have n18 : m18.1 (1, s, 0, 0) 3 = zI (n + 1) := by rw [hm18, wI_ne (lb1_ne (by decide)), hm17, wI_eq, upd_eq]
  have o18 : m18.1 (1, s, 0, 2) = upd (va_cpy (m.1 (1, s, 0, 2)) (m.1 (1, s, 0, 2)) p (p + 1) (n - p)) p (zI t) := by
    rw [hm18, wI_eq, hm17, wI_ne (lb1_ne (by decide)), hm14, wA_ne _ _ (lb1_ne (by decide)), hm7, wA_self]
  have v18 : m18.1 (1, s, 0, 3) = va_cpy (m.1 (1, s, 0, 3)) (m.1 (1, s, 0, 3)) (p * 8) ((p + 1) * 8) ((n - p) * 8) := by
    rw [hm18, wI_ne (lb1_ne (by decide)), hm17, wI_ne (lb1_ne (by decide)), hm14, wA_self, v7]
  have st : C_X1_insertRow_45 s (zI t) m (zI p) = L_X1_insertRow_115 s (zI p) fu 0 m18 := by
    have ek1 : ∀ {α : Type} (y : Option α), ck (!decide (zI p < 0) && !decide (zI (p + 1) < 0) && !decide (zI (n - p) < 0) && decide (Int32.toNatClampNeg (zI p) + Int32.toNatClampNeg (zI (n - p)) ≤ 120) && decide (Int32.toNatClampNeg (zI (p + 1)) + Int32.toNatClampNeg (zI (n - p)) ≤ 120)) y = y := fun y => ck_cpy (zI_nn (by omega)) (zI_nn (by omega)) (zI_nn (by omega)) rfl rfl rfl (by omega) (by omega) (by omega) (by omega)
    have ek2 : ∀ {α : Type} (y : Option α), ck (!decide (zI (p * 8) < 0) && !decide (zI ((p + 1) * 8) < 0) && !decide (zI ((n - p) * 8) < 0) && decide (Int32.toNatClampNeg (zI (p * 8)) + Int32.toNatClampNeg (zI ((n - p) * 8)) ≤ 960) && decide (Int32.toNatClampNeg (zI ((p + 1) * 8)) + Int32.toNatClampNeg (zI ((n - p) * 8)) ≤ 960)) y = y := fun y => ck_cpy (zI_nn (by omega)) (zI_nn (by omega)) (zI_nn (by omega)) rfl rfl rfl (by omega) (by omega) (by omega) (by omega)
    unfold C_X1_insertRow_45
    rw [bd_e, zI_addl, bd_e, a3, bd_e, zI_sub hp, ek1, bd_e, zI_nat (by omega), zI_nat (by omega), zI_nat (by omega), ← hm7, bd_e, zI_mull, bd_e, bd_e, zI_mull, bd_e, y0, bd_e, zI_sub hp, bd_e, zI_mull, ek2, bd_e, zI_nat (by omega), zI_nat (by omega), zI_nat (by omega), ← hm14, bd_e, y1, bd_e, zI_addl, bd_e, ← hm17, ck_ib (by omega) (by omega), bd_e, ← hm18]
  have loop : ∃ m2, L_X1_insertRow_115 s (zI p) fu 0 m18 = some (zI p, m2) ∧ m2.2 = m18.2 ∧ (∀ lb : Lb, lb ≠ (1, s, 0, 3) → m2.1 lb = m18.1 lb) ∧ (∀ c, c < 8 → m2.1 (1, s, 0, 3) (p * 8 + c) = -1000000) ∧ ∀ i, i < p * 8 ∨ p * 8 + 8 ≤ i → m2.1 (1, s, 0, 3) i = m18.1 (1, s, 0, 3) i := by
    refine loop_ex (L := fun k (y : Mem) i => L_X1_insertRow_115 s (zI p) k i y) (P := fun j y => y.2 = m18.2 ∧ (∀ lb : Lb, lb ≠ (1, s, 0, 3) → y.1 lb = m18.1 lb) ∧ (∀ c, c < j → y.1 (1, s, 0, 3) (p * 8 + c) = -1000000) ∧ ∀ i, i < p * 8 ∨ p * 8 + 8 ≤ i → y.1 (1, s, 0, 3) i = m18.1 (1, s, 0, 3) i) (R := fun o => ∃ m2, o = some (zI p, m2) ∧ m2.2 = m18.2 ∧ (∀ lb : Lb, lb ≠ (1, s, 0, 3) → m2.1 lb = m18.1 lb) ∧ (∀ c, c < 8 → m2.1 (1, s, 0, 3) (p * 8 + c) = -1000000) ∧ ∀ i, i < p * 8 ∨ p * 8 + 8 ≤ i → m2.1 (1, s, 0, 3) i = m18.1 (1, s, 0, 3) i) (n := 8) ?_ ?_ 8 0 fu m18 (by omega) (by rw [fu_eq]; omega) ⟨rfl, fun _ _ => rfl, fun c hc => absurd hc (Nat.not_lt_zero c), fun _ _ => rfl⟩
    · intro k y j hj hp2
      obtain ⟨p1, p2, p3, p4⟩ := hp2
      have yn : y.1 (1, s, 0, 0) 3 = zI (n + 1) := by rw [p2 _ (lb1_ne (by decide))]; exact n18
      have es : F_X1_setValue s (zI p) (zI j) (-1000000) y = some ((), wI y (1, s, 0, 3) (p * 8 + j) (-1000000)) := by
        simp (discharger := omega) only [F_X1_setValue, J_X1_setValue_34, yn, bd_e, bo_e, bm_e, bts_l, bts_r, btm_l, btm_r, bp_lt, ck_ib, ck_z, ck_o, ifT, ifF, n10, n01, pv_v, if_pos, if_neg, zI_nat, zI_add, zI_mul, zI_addl, zI_laddl, zI_mull, zI_lmul, zI_subl, zI_pred, zI_le, zI_lt, zI_eq, zI_lel, zI_lle, zI_ltl, zI_llt, zI_eql, zI_leq, zI_ne1, zI_1ne]
      refine Or.inl ⟨wI y (1, s, 0, 3) (p * 8 + j) (-1000000), ⟨p1, fun lb hl => by rw [wI_ne hl]; exact p2 lb hl, fun c hc => ?_, fun i hi => ?_⟩, ?_⟩
      · rw [wI_eq]
        by_cases e : c = j
        · rw [e, upd_eq]
        · rw [upd_ne _ (by omega)]; exact p3 c (by omega)
      · rw [wI_eq, upd_ne _ (by omega)]; exact p4 i hi
      · simp (discharger := omega) only [L_X1_insertRow_115, es, bd_e, bo_e, bm_e, bts_l, bts_r, btm_l, btm_r, bp_lt, ck_ib, ck_z, ck_o, ifT, ifF, n10, n01, pv_v, if_pos, if_neg, zI_nat, zI_add, zI_mul, zI_addl, zI_laddl, zI_mull, zI_lmul, zI_subl, zI_pred, zI_le, zI_lt, zI_eq, zI_lel, zI_lle, zI_ltl, zI_llt, zI_eql, zI_leq, zI_ne1, zI_1ne]
    · intro k y hp2
      refine ⟨y, ?_, hp2⟩
      simp (discharger := omega) only [L_X1_insertRow_115, C_X1_insertRow_135, Nat.le_refl, bd_e, bo_e, bm_e, bts_l, bts_r, btm_l, btm_r, bp_lt, ck_ib, ck_z, ck_o, ifT, ifF, n10, n01, pv_v, if_pos, if_neg, zI_nat, zI_add, zI_mul, zI_addl, zI_laddl, zI_mull, zI_lmul, zI_subl, zI_pred, zI_le, zI_lt, zI_eq, zI_lel, zI_lle, zI_ltl, zI_llt, zI_eql, zI_leq, zI_ne1, zI_1ne]
  obtain ⟨m2, o1, o2, o3, o4, o5⟩ := loop
  refine ⟨m2, st.trans o1, ⟨fun lb hl => ?_, ?_⟩, fun a b => ?_, ?_, fun i hi => ?_, fun i hi c hc => ?_⟩
  · have n0 : lb ≠ (1, s, 0, 0) := fun e => hl (by rw [e]; exact wr1 _ _ _)
    have n2 : lb ≠ (1, s, 0, 2) := fun e => hl (by rw [e]; exact wr1 _ _ _)
    have n3 : lb ≠ (1, s, 0, 3) := fun e => hl (by rw [e]; exact wr1 _ _ _)
    rw [o3 lb n3, f18 lb n0 n2 n3]
  · rw [o2, hm18, hm17, hm14, hm7]; rfl
  · have nb : ∀ d, ((2, s, a, b) : Lb) ≠ (1, s, 0, d) := fun d e => by injection e with e _; exact absurd e (by decide)
    rw [o3 _ (nb 3), f18 _ (nb 0) (nb 2) (nb 3)]
  · rw [o3 _ (lb1_ne (by decide))]; exact n18
  · rw [o3 _ (lb1_ne (by decide)), o18]
    by_cases h1 : i < p
    · rw [if_pos h1, upd_ne _ (by omega), cpy_out _ _ (by omega)]; exact a4 i (by omega)
    · rw [if_neg h1]
      by_cases h2 : i = p
      · rw [if_pos h2, h2, upd_eq]
      · rw [if_neg h2, upd_ne _ h2, cpy_in _ _ (by omega) (by omega), show p + (i - (p + 1)) = i - 1 by omega]
        exact a4 (i - 1) (by omega)
  · by_cases h2 : i = p
    · rw [h2, if_neg (Nat.lt_irrefl p), if_pos rfl]; exact o4 c hc
    · rw [o5 _ (by omega), v18]
      by_cases h1 : i < p
      · rw [if_pos h1, cpy_out _ _ (by omega)]; exact a5 i (by omega) c hc
      · rw [if_neg h1, if_neg h2, cpy_in _ _ (by omega) (by omega), show p * 8 + (i * 8 + c - (p + 1) * 8) = (i - 1) * 8 + c by omega]
        exact a5 (i - 1) (by omega) c hc
end QU

