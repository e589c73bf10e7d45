/-! append -/
section PO
variable {m : Mem} {n k L : Nat} {w tx : Nat → Int32} {pa : Nat → Nat → Int32} {nn : Nat → Nat}
theorem p_append_bad {v : Int32} (h : v < 33 ∨ 126 < v) : F_X3_append v m = some (.inr 0, m) := by
  unfold F_X3_append J_X3_append_16 J_X3_append_17
  rcases h with h | h
  · rw [if_pos h]; rfl
  · by_cases h1 : v < 33
    · rw [if_pos h1]; rfl
    · rw [if_neg h1, if_pos h]; rfl
theorem p_append_full (h : PRel m w n k pa nn L tx) {v : Int32} (h1 : ¬ v < 33) (h2 : ¬ 126 < v) (hL : L = 40) : F_X3_append v m = some (.inr 1, m) := by
  obtain ⟨-, -, -, -, -, h6, -⟩ := h
  subst hL
  unfold F_X3_append
  rw [if_neg h1, if_neg h2]
  simp (discharger := omega) only [J_X3_append_17, p_req1, h6, bd, bo_some, bm_some, bts_inl, bts_inr, btm_inl, btm_inr, bp_lt, ck_ib, ck_b0, ck_b1, ifT, ifF, n10, n01, pv_v, if_pos, if_neg, zI_nat, zI_add, zI_mul, zI_addl, zI_laddl, zI_mull, zI_lmul, zI_subl, zI_pred, zI_le, zI_lt, zI_eq, zI_lel, zI_lle, zI_ltl, zI_llt, zI_eql, zI_leq, zI_ne1, zI_1ne]
theorem p_append_ok (h : PRel m w n k pa nn L tx) {v : Int32} (h1 : ¬ v < 33) (h2 : ¬ 126 < v) (hL : L < 40) : ∃ m2, F_X3_append v m = some (.inl (zI (L + 1)), m2) ∧ PRel m2 w n k pa nn (L + 1) (upd tx L v) ∧ FrP m m2 := by
  obtain ⟨g1, g2, g3, g4, g5, h6, g7⟩ := h
  have e1 : (wI m (0, 0, 0, 2) L v).1 (0, 0, 0, 0) 6 = zI L := by rw [wI_ne (by decide)]; exact h6
  have e2 : (wI (wI m (0, 0, 0, 2) L v) (0, 0, 0, 0) 6 (zI (L + 1))).1 (0, 0, 0, 0) 6 = zI (L + 1) := by rw [wI_eq, upd_eq]
  have eA : ∀ lb : Lb, lb ≠ (0, 0, 0, 2) → lb ≠ (0, 0, 0, 0) → (wI (wI m (0, 0, 0, 2) L v) (0, 0, 0, 0) 6 (zI (L + 1))).1 lb = m.1 lb := fun lb a b => by rw [wI_ne b, wI_ne a]
  refine ⟨wI (wI m (0, 0, 0, 2) L v) (0, 0, 0, 0) 6 (zI (L + 1)), ?_, ⟨g1, g2, ?_, ?_, ?_, e2, ?_⟩, ?_, rfl⟩
  · unfold F_X3_append
    rw [if_neg h1, if_neg h2]
    simp (discharger := omega) only [J_X3_append_17, p_req1, h6, e1, e2, bd, bo_some, bm_some, bts_inl, bts_inr, btm_inl, btm_inr, bp_lt, ck_ib, ck_b0, ck_b1, ifT, ifF, n10, n01, pv_v, if_pos, if_neg, zI_nat, zI_add, zI_mul, zI_addl, zI_laddl, zI_mull, zI_lmul, zI_subl, zI_pred, zI_le, zI_lt, zI_eq, zI_lel, zI_lle, zI_ltl, zI_llt, zI_eql, zI_leq, zI_ne1, zI_1ne]
  · rw [wI_eq, upd_ne _ (by decide), wI_ne (by decide)]; exact g3
  · exact g4.frame (fun lb hl => eA lb (by rintro rfl; rcases hl with hl | hl <;> exact absurd hl (by decide)) (by rintro rfl; rcases hl with hl | hl <;> exact absurd hl (by decide)))
  · exact fun j hj => (g5 j hj).frame (fun lb hl => eA lb (by rintro rfl; rcases hl with hl | hl <;> exact absurd hl (by decide)) (by rintro rfl; rcases hl with hl | hl <;> exact absurd hl (by decide)))
  · intro i hi
    rw [wI_ne (by decide), wI_eq]
    unfold upd
    by_cases hiL : i = L
    · rw [if_pos hiL, if_pos hiL]
    · rw [if_neg hiL, if_neg hiL]; exact g7 i (by omega)
  · exact fun lb hl => eA lb (by rintro rfl; rcases hl with hl | hl <;> exact absurd hl (by decide)) (by rintro rfl; rcases hl with hl | hl <;> exact absurd hl (by decide))
end PO

