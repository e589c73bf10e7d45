/-! the state is saved, the reference's side -/
section QD
variable {m : Mem} {k L : Nat} {w tx : Nat → Int32} {pa : Nat → Nat → Int32}
theorem m_saves52 {x : Mem} (hk : k < 6) (h3 : x.1 (3, 0, 0, 0) 3 = zI k) : ∃ g, L_X4_saves_52 fu 0 x = some ((), wI (wA x (3, 0, 0, 2) g) (3, 0, 0, 0) 3 (zI (k + 1))) ∧ (∀ i, i < 1174 → g (1174 * k + i) = x.1 (3, 0, 0, 1) i) ∧ ∀ i, i < 1174 * k → g i = x.1 (3, 0, 0, 2) i := by
  refine loop_ex (L := fun k2 (y : Mem) i => L_X4_saves_52 k2 i y) (P := fun r y => ∃ g, y = wA x (3, 0, 0, 2) g ∧ (∀ i, i < r → g (1174 * k + i) = x.1 (3, 0, 0, 1) i) ∧ ∀ i, i < 1174 * k → g i = x.1 (3, 0, 0, 2) i) (R := fun y => ∃ g, y = some ((), wI (wA x (3, 0, 0, 2) g) (3, 0, 0, 0) 3 (zI (k + 1))) ∧ (∀ i, i < 1174 → g (1174 * k + i) = x.1 (3, 0, 0, 1) i) ∧ ∀ i, i < 1174 * k → g i = x.1 (3, 0, 0, 2) i) (n := 1174) ?_ ?_ 1174 0 fu x (by omega) (by rw [fu_eq]; omega) ⟨x.1 (3, 0, 0, 2), (wA_self2 x _).symm, fun i hi => absurd hi (Nat.not_lt_zero i), fun _ _ => rfl⟩
  · intro k2 y r hr hp
    obtain ⟨g, rfl, hg, hg2⟩ := hp
    refine Or.inl ⟨wA x (3, 0, 0, 2) (upd g (1174 * k + r) (x.1 (3, 0, 0, 1) r)), ⟨_, rfl, fun i hi => ?_, fun i hi => ?_⟩, ?_⟩
    · unfold upd
      by_cases e : i = r
      · rw [if_pos (by omega), e]
      · rw [if_neg (by omega)]; exact hg i (by omega)
    · unfold upd
      rw [if_neg (by omega)]; exact hg2 i hi
    · have e1 : (wA x (3, 0, 0, 2) g).1 (3, 0, 0, 0) 3 = zI k := by rw [wA_ne _ _ (by decide)]; exact h3
      have e2 : (wA x (3, 0, 0, 2) g).1 (3, 0, 0, 1) r = x.1 (3, 0, 0, 1) r := by rw [wA_ne _ _ (by decide)]
      simp (discharger := omega) only [L_X4_saves_52, e1, e2, wI_wA, bd_e, bo_e, bm_e, bts_l, bts_r, btm_l, btm_r, bp_lt, ck_ib, ck_z, ck_o, ifT, ifF, n10, n01, pv_v, if_pos, if_neg, zI_nat, zI_add, zI_mul, zI_addl, zI_laddl, zI_mull, zI_lmul, zI_subl, zI_pred, zI_le, zI_lt, zI_eq, zI_lel, zI_lle, zI_ltl, zI_llt, zI_eql, zI_leq, zI_ne1, zI_1ne]
  · intro k2 y hp
    obtain ⟨g, rfl, hg, hg2⟩ := hp
    refine ⟨g, ?_, hg, hg2⟩
    have e1 : (wA x (3, 0, 0, 2) g).1 (3, 0, 0, 0) 3 = zI k := by rw [wA_ne _ _ (by decide)]; exact h3
    simp (discharger := omega) only [L_X4_saves_52, C_X4_saves_86, e1, Nat.le_refl, bd_e, bo_e, bm_e, bts_l, bts_r, btm_l, btm_r, bp_lt, ck_ib, ck_z, ck_o, ifT, ifF, n10, n01, pv_v, if_pos, if_neg, zI_nat, zI_add, zI_mul, zI_addl, zI_laddl, zI_mull, zI_lmul, zI_subl, zI_pred, zI_le, zI_lt, zI_eq, zI_lel, zI_lle, zI_ltl, zI_llt, zI_eql, zI_leq, zI_ne1, zI_1ne]
theorem m_saves (h : MRel m w k pa L tx) (hk : k ≤ 6) : ∃ m2, F_X4_saves m = some ((), m2) ∧ MRel m2 w (svK k) (svF k pa w) L tx ∧ m2.2 = m.2 ∧ (∀ lb : Lb, lb ≠ (3, 0, 0, 0) → lb ≠ (3, 0, 0, 2) → m2.1 lb = m.1 lb) ∧ ∀ j, j ≠ 3 → m2.1 (3, 0, 0, 0) j = m.1 (3, 0, 0, 0) j := by
  obtain ⟨g1, g2, g3, g4, g5⟩ := h
  by_cases h6 : k = 6
  · subst h6
    have loop : ∃ g, L_X4_saves_11 fu 0 m = L_X4_saves_52 fu 0 (wI (wA m (3, 0, 0, 2) g) (3, 0, 0, 0) 3 (zI 5)) ∧ ∀ i, i < 5870 → g i = m.1 (3, 0, 0, 2) (i + 1174) := by
      refine loop_ex (L := fun k2 (y : Mem) i => L_X4_saves_11 k2 i y) (P := fun r y => ∃ g, y = wA m (3, 0, 0, 2) g ∧ (∀ i, i < r → g i = m.1 (3, 0, 0, 2) (i + 1174)) ∧ ∀ i, r ≤ i → g i = m.1 (3, 0, 0, 2) i) (R := fun y => ∃ g, y = L_X4_saves_52 fu 0 (wI (wA m (3, 0, 0, 2) g) (3, 0, 0, 0) 3 (zI 5)) ∧ ∀ i, i < 5870 → g i = m.1 (3, 0, 0, 2) (i + 1174)) (n := 5870) ?_ ?_ 5870 0 fu m (by omega) (by rw [fu_eq]; omega) ⟨m.1 (3, 0, 0, 2), (wA_self2 m _).symm, fun i hi => absurd hi (Nat.not_lt_zero i), fun _ _ => rfl⟩
      · intro k2 y r hr hp
        obtain ⟨g, rfl, hg, hg2⟩ := hp
        refine Or.inl ⟨wA m (3, 0, 0, 2) (upd g r (m.1 (3, 0, 0, 2) (r + 1174))), ⟨_, rfl, fun i hi => ?_, fun i hi => ?_⟩, ?_⟩
        · unfold upd
          by_cases e : i = r
          · rw [if_pos e, e]
          · rw [if_neg e]; exact hg i (by omega)
        · unfold upd
          rw [if_neg (by omega)]; exact hg2 i (by omega)
        · have e2 : (wA m (3, 0, 0, 2) g).1 (3, 0, 0, 2) (r + 1174) = m.1 (3, 0, 0, 2) (r + 1174) := by rw [wA_self]; exact hg2 _ (by omega)
          simp (discharger := omega) only [L_X4_saves_11, e2, wI_wA, bd_e, bo_e, bm_e, bts_l, bts_r, btm_l, btm_r, bp_lt, ck_ib, ck_z, ck_o, ifT, ifF, n10, n01, pv_v, if_pos, if_neg, zI_nat, zI_add, zI_mul, zI_addl, zI_laddl, zI_mull, zI_lmul, zI_subl, zI_pred, zI_le, zI_lt, zI_eq, zI_lel, zI_lle, zI_ltl, zI_llt, zI_eql, zI_leq, zI_ne1, zI_1ne]
      · intro k2 y hp
        obtain ⟨g, rfl, hg, hg2⟩ := hp
        refine ⟨g, ?_, hg⟩
        have e1 : (wA m (3, 0, 0, 2) g).1 (3, 0, 0, 0) 3 = zI 6 := by rw [wA_ne _ _ (by decide)]; exact g2
        have e3 : zI 6 - 1 = zI 5 := by decide
        simp (discharger := omega) only [L_X4_saves_11, C_X4_saves_40, J_X4_saves_50, e1, e3, Nat.le_refl, bd_e, bo_e, bm_e, bts_l, bts_r, btm_l, btm_r, bp_lt, ck_ib, ck_z, ck_o, ifT, ifF, n10, n01, pv_v, if_pos, if_neg, zI_nat, zI_add, zI_mul, zI_addl, zI_laddl, zI_mull, zI_lmul, zI_subl, zI_pred, zI_le, zI_lt, zI_eq, zI_lel, zI_lle, zI_ltl, zI_llt, zI_eql, zI_leq, zI_ne1, zI_1ne]
    obtain ⟨g, hl, hg⟩ := loop
    obtain ⟨g', hl2, hg2, hg3⟩ := m_saves52 (x := wI (wA m (3, 0, 0, 2) g) (3, 0, 0, 0) 3 (zI 5)) (k := 5) (by omega) (by rw [wI_eq, upd_eq])
    have y0 : ∀ j, j ≠ 3 → (wI (wA (wI (wA m (3, 0, 0, 2) g) (3, 0, 0, 0) 3 (zI 5)) (3, 0, 0, 2) g') (3, 0, 0, 0) 3 (zI (5 + 1))).1 (3, 0, 0, 0) j = m.1 (3, 0, 0, 0) j := fun j hj => by
      rw [wI_eq, upd_ne _ hj, wA_ne _ _ (by decide), wI_eq, upd_ne _ hj, wA_ne _ _ (by decide)]
    have y1 : ∀ lb : Lb, lb ≠ (3, 0, 0, 0) → lb ≠ (3, 0, 0, 2) → (wI (wA (wI (wA m (3, 0, 0, 2) g) (3, 0, 0, 0) 3 (zI 5)) (3, 0, 0, 2) g') (3, 0, 0, 0) 3 (zI (5 + 1))).1 lb = m.1 lb := fun lb a b => by
      rw [wI_ne a, wA_ne _ _ b, wI_ne a, wA_ne _ _ b]
    refine ⟨_, ?_, ⟨?_, ?_, fun j hj i hi => ?_, ?_, fun i hi => ?_⟩, ?_, y1, y0⟩
    · have e6 : (6 : Int32) = zI 6 := rfl
      unfold F_X4_saves
      rw [g2, bd_e, if_pos e6.symm, hl, hl2]
    · rw [y1 _ (by decide) (by decide)]; exact g1
    · rw [wI_eq, upd_eq]; rfl
    · rw [wI_ne (by decide), wA_self]
      show g' (1174 * j + i) = (if 6 = 6 then (if j = 5 then w else pa (j + 1)) else (if j = 6 then w else pa j)) i
      rw [if_pos rfl]
      have hj6 : j < 6 := hj
      by_cases e : j = 5
      · rw [if_pos e, e, hg2 i hi, wI_ne (by decide), wA_ne _ _ (by decide), g1]
      · rw [if_neg e, hg3 _ (by omega), wI_ne (by decide), wA_self, hg _ (by omega), show 1174 * j + i + 1174 = 1174 * (j + 1) + i by omega]
        exact g3 (j + 1) (by omega) i hi
    · rw [y0 5 (by decide)]; exact g4
    · rw [y1 _ (by decide) (by decide)]; exact g5 i hi
    · rfl
  · have hk6 : k < 6 := by omega
    obtain ⟨g', hl2, hg2, hg3⟩ := m_saves52 (x := m) hk6 g2
    have y0 : ∀ j, j ≠ 3 → (wI (wA m (3, 0, 0, 2) g') (3, 0, 0, 0) 3 (zI (k + 1))).1 (3, 0, 0, 0) j = m.1 (3, 0, 0, 0) j := fun j hj => by
      rw [wI_eq, upd_ne _ hj, wA_ne _ _ (by decide)]
    have y1 : ∀ lb : Lb, lb ≠ (3, 0, 0, 0) → lb ≠ (3, 0, 0, 2) → (wI (wA m (3, 0, 0, 2) g') (3, 0, 0, 0) 3 (zI (k + 1))).1 lb = m.1 lb := fun lb a b => by
      rw [wI_ne a, wA_ne _ _ b]
    refine ⟨_, ?_, ⟨?_, ?_, fun j hj i hi => ?_, ?_, fun i hi => ?_⟩, ?_, y1, y0⟩
    · simp (discharger := omega) only [F_X4_saves, J_X4_saves_50, g2, h6, bd_e, bo_e, bm_e, bts_l, bts_r, btm_l, btm_r, bp_lt, ck_ib, ck_z, ck_o, ifT, ifF, n10, n01, pv_v, if_pos, if_neg, zI_nat, zI_add, zI_mul, zI_addl, zI_laddl, zI_mull, zI_lmul, zI_subl, zI_pred, zI_le, zI_lt, zI_eq, zI_lel, zI_lle, zI_ltl, zI_llt, zI_eql, zI_leq, zI_ne1, zI_1ne]
      exact hl2
    · rw [y1 _ (by decide) (by decide)]; exact g1
    · rw [wI_eq, upd_eq]
      show zI (k + 1) = zI (if k = 6 then 6 else k + 1)
      rw [if_neg h6]
    · have hj6 : j < k + 1 := by
        have : svK k = k + 1 := if_neg h6
        omega
      rw [wI_ne (by decide), wA_self]
      show g' (1174 * j + i) = (if k = 6 then (if j = 5 then w else pa (j + 1)) else (if j = k then w else pa j)) i
      rw [if_neg h6]
      by_cases e : j = k
      · rw [if_pos e, e, hg2 i hi, g1]
      · rw [if_neg e, hg3 _ (by omega), g3 j (by omega) i hi]
    · rw [y0 5 (by decide)]; exact g4
    · rw [y1 _ (by decide) (by decide)]; exact g5 i hi
    · rfl
end QD
