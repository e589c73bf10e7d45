/-! undo, the reference's side -/
section PS
variable {m : Mem} {k L : Nat} {w tx : Nat → Int32} {pa : Nat → Nat → Int32}
theorem m_undo (h : MRel m w k pa L tx) (hk : 0 < k) (hk6 : k ≤ 6) : ∃ (m2 : Mem) (w2 : Nat → Int32), F_X4_undo m = some (zI (k - 1), m2) ∧ (∀ i, i < 1174 → w2 i = pa (k - 1) i) ∧ MRel m2 w2 (k - 1) pa L tx ∧ FrM m m2 ∧ m2.1 (3, 0, 0, 0) 6 = 0 := by
  obtain ⟨g1, g2, g3, g4, g5⟩ := h
  have a1 : (wI m (3, 0, 0, 0) 6 0).1 (3, 0, 0, 0) 3 = zI k := by rw [wI_eq, upd_ne _ (by decide)]; exact g2
  obtain ⟨m5, hm5⟩ : ∃ m5, m5 = wI (wI m (3, 0, 0, 0) 6 0) (3, 0, 0, 0) 3 (zI (k - 1)) := ⟨_, rfl⟩
  have a2 : m5.1 (3, 0, 0, 0) 3 = zI (k - 1) := by rw [hm5, wI_eq, upd_eq]
  have a3 : ∀ lb : Lb, lb ≠ (3, 0, 0, 0) → m5.1 lb = m.1 lb := fun lb hl => by rw [hm5, wI_ne hl, wI_ne hl]
  have a4 : m5.1 (3, 0, 0, 0) 5 = zI L := by rw [hm5, wI_eq, upd_ne _ (by decide), wI_eq, upd_ne _ (by decide)]; exact g4
  have a5 : m5.1 (3, 0, 0, 0) 6 = 0 := by rw [hm5, wI_eq, upd_ne _ (by decide), wI_eq, upd_eq]
  have a6 : m5.2 = m.2 := by rw [hm5]; rfl
  have loop : ∃ g, L_X4_undo_30 fu 0 m5 = some (zI (k - 1), wA m5 (3, 0, 0, 1) g) ∧ ∀ i, i < 1174 → g i = pa (k - 1) i := by
    refine loop_ex (L := fun k2 (x : Mem) i => L_X4_undo_30 k2 i x) (P := fun j x => ∃ g, x = wA m5 (3, 0, 0, 1) g ∧ ∀ i, i < j → g i = pa (k - 1) i) (R := fun y => ∃ g, y = some (zI (k - 1), wA m5 (3, 0, 0, 1) g) ∧ ∀ i, i < 1174 → g i = pa (k - 1) i) (n := 1174) ?_ ?_ 1174 0 fu m5 (by omega) (by rw [fu_eq]; omega) ⟨m5.1 (3, 0, 0, 1), (wA_self2 m5 _).symm, fun i hi => absurd hi (Nat.not_lt_zero i)⟩
    · intro k2 x j hj hp
      obtain ⟨g, rfl, hg⟩ := hp
      refine Or.inl ⟨wA m5 (3, 0, 0, 1) (upd g j (pa (k - 1) j)), ⟨_, rfl, fun i hi => ?_⟩, ?_⟩
      · unfold upd
        by_cases hij : i = j
        · rw [if_pos hij, hij]
        · rw [if_neg hij]; exact hg i (by omega)
      · have e1 : (wA m5 (3, 0, 0, 1) g).1 (3, 0, 0, 0) 3 = zI (k - 1) := by rw [wA_ne _ _ (by decide)]; exact a2
        have e2 : (wA m5 (3, 0, 0, 1) g).1 (3, 0, 0, 2) (1174 * (k - 1) + j) = pa (k - 1) j := by rw [wA_ne _ _ (by decide), a3 _ (by decide)]; exact g3 (k - 1) (by omega) j hj
        simp (discharger := omega) only [L_X4_undo_30, e1, e2, wI_wA, bd_e, bo_e, bm_e, bts_l, bts_r, btm_l, btm_r, bp_lt, ck_ib, ck_z, ck_o, ifT, ifF, n10, n01, pv_v, if_pos, if_neg, zI_nat, zI_add, zI_mul, zI_addl, zI_laddl, zI_mull, zI_lmul, zI_subl, zI_pred, zI_le, zI_lt, zI_eq, zI_lel, zI_lle, zI_ltl, zI_llt, zI_eql, zI_leq, zI_ne1, zI_1ne]
    · intro k2 x hp
      obtain ⟨g, rfl, hg⟩ := hp
      refine ⟨g, ?_, hg⟩
      have e1 : (wA m5 (3, 0, 0, 1) g).1 (3, 0, 0, 0) 3 = zI (k - 1) := by rw [wA_ne _ _ (by decide)]; exact a2
      simp (discharger := omega) only [L_X4_undo_30, C_X4_undo_64, e1, Nat.le_refl, bd_e, bo_e, bm_e, bts_l, bts_r, btm_l, btm_r, bp_lt, ck_ib, ck_z, ck_o, ifT, ifF, n10, n01, pv_v, if_pos, if_neg, zI_nat, zI_add, zI_mul, zI_addl, zI_laddl, zI_mull, zI_lmul, zI_subl, zI_pred, zI_le, zI_lt, zI_eq, zI_lel, zI_lle, zI_ltl, zI_llt, zI_eql, zI_leq, zI_ne1, zI_1ne]
  obtain ⟨g, hl, hg⟩ := loop
  refine ⟨wA m5 (3, 0, 0, 1) g, g, ?_, hg, ⟨wA_self _ _ _, ?_, fun j hj i hi => ?_, ?_, fun i hi => ?_⟩, ⟨fun lb hl => ?_, ?_⟩, ?_⟩
  · have n0 : ¬ k = 0 := by omega
    simp (discharger := omega) only [F_X4_undo, a1, n0, bd_e, bo_e, bm_e, bts_l, bts_r, btm_l, btm_r, bp_lt, ck_ib, ck_z, ck_o, ifT, ifF, n10, n01, pv_v, if_pos, if_neg, zI_nat, zI_add, zI_mul, zI_addl, zI_laddl, zI_mull, zI_lmul, zI_subl, zI_pred, zI_le, zI_lt, zI_eq, zI_lel, zI_lle, zI_ltl, zI_llt, zI_eql, zI_leq, zI_ne1, zI_1ne]
    rw [← hm5]
    exact hl
  · rw [wA_ne _ _ (by decide)]; exact a2
  · rw [wA_ne _ _ (by decide), a3 _ (by decide)]; exact g3 j (by omega) i hi
  · rw [wA_ne _ _ (by decide)]; exact a4
  · rw [wA_ne _ _ (by decide), a3 _ (by decide)]; exact g5 i hi
  · rw [wA_ne _ _ (by rintro rfl; exact hl rfl), a3 _ (by rintro rfl; exact hl rfl)]
  · show m5.2 = m.2
    exact a6
  · rw [wA_ne _ _ (by decide)]; exact a5
end PS
