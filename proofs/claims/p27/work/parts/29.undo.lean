/-! undo, the class's side -/
section PR
variable {m : Mem} {n k L : Nat} {w tx : Nat → Int32} {pa : Nat → Nat → Int32} {nn : Nat → Nat}
theorem wI_2 (m : Mem) (lb : Lb) (i : Nat) (v : Int32) : (wI m lb i v).2 = m.2 := rfl
theorem wP_1 (m : Mem) (a b : Nat) : (wP m a b).1 = m.1 := rfl
theorem p_undo (h : PRel m w n k pa nn L tx) (hk : 0 < k) (hk6 : k ≤ 6) : ∃ m2, F_X3_undo m = some (.inl (zI (k - 1)), m2) ∧ PRel m2 (pa (k - 1)) (nn (k - 1)) (k - 1) pa nn L tx ∧ FrP m m2 := by
  obtain ⟨g1, g2, g3, g4, g5, g6, g7⟩ := h
  have e1 : (wI m (0, 0, 0, 0) 5 (zI (k - 1))).1 (0, 0, 0, 0) 5 = zI (k - 1) := by rw [wI_eq, upd_eq]
  have b1 := g1 (k - 1) (by omega)
  have b2 := g1 6 (by omega)
  have ptr : ∀ j, (wP (wP (wI m (0, 0, 0, 0) 5 (zI (k - 1))) (k - 1) (m.2.1 6)) 6 (m.2.1 (k - 1))).2.1 j = if j = 6 then m.2.1 (k - 1) else if j = k - 1 then m.2.1 6 else m.2.1 j := fun j => rfl
  have eA : ∀ lb : Lb, lb ≠ (0, 0, 0, 0) → (wP (wP (wI m (0, 0, 0, 0) 5 (zI (k - 1))) (k - 1) (m.2.1 6)) 6 (m.2.1 (k - 1))).1 lb = m.1 lb := fun lb a => wI_ne a m 5 _
  refine ⟨wP (wP (wI m (0, 0, 0, 0) 5 (zI (k - 1))) (k - 1) (m.2.1 6)) 6 (m.2.1 (k - 1)), ?_, ⟨?_, ?_, e1, ?_, ?_, ?_, ?_⟩, ?_, rfl⟩
  · simp (discharger := omega) only [F_X3_undo, g3, e1, wI_2, wP_1, bd, bo_some, bm_some, bts_inl, bts_inr, btm_inl, btm_inr, bp_lt, ck_ib, ck_b0, ck_b1, ifT, ifF, n10, n01, pv_v, if_pos, if_neg, zI_nat, zI_add, zI_mul, zI_addl, zI_laddl, zI_mull, zI_lmul, zI_subl, zI_pred, zI_le, zI_lt, zI_eq, zI_lel, zI_lle, zI_ltl, zI_llt, zI_eql, zI_leq, zI_ne1, zI_1ne]
  · intro j hj
    rw [ptr]
    by_cases h6 : j = 6
    · rw [if_pos h6]; exact b1
    · rw [if_neg h6]
      by_cases h1 : j = k - 1
      · rw [if_pos h1]; exact b2
      · rw [if_neg h1]; exact g1 j hj
  · intro i j hi hj he
    rw [ptr, ptr] at he
    have inj : ∀ a b, a < 7 → b < 7 → (m.2.1 a = m.2.1 b ↔ a = b) := fun a b ha hb => ⟨g2 a b ha hb, fun h => by rw [h]⟩
    by_cases hi6 : i = 6
    · rw [if_pos hi6] at he
      by_cases hj6 : j = 6
      · omega
      · rw [if_neg hj6] at he
        by_cases hj1 : j = k - 1
        · rw [if_pos hj1, inj _ _ (by omega) (by omega)] at he; omega
        · rw [if_neg hj1, inj _ _ (by omega) (by omega)] at he; omega
    · rw [if_neg hi6] at he
      by_cases hi1 : i = k - 1
      · rw [if_pos hi1] at he
        by_cases hj6 : j = 6
        · rw [if_pos hj6, inj _ _ (by omega) (by omega)] at he; omega
        · rw [if_neg hj6] at he
          by_cases hj1 : j = k - 1
          · omega
          · rw [if_neg hj1, inj _ _ (by omega) (by omega)] at he; omega
      · rw [if_neg hi1] at he
        by_cases hj6 : j = 6
        · rw [if_pos hj6, inj _ _ (by omega) (by omega)] at he; omega
        · rw [if_neg hj6] at he
          by_cases hj1 : j = k - 1
          · rw [if_pos hj1, inj _ _ (by omega) (by omega)] at he; omega
          · rw [if_neg hj1, inj _ _ (by omega) (by omega)] at he; exact he
  · rw [ptr, if_pos rfl]
    exact (g5 (k - 1) (by omega)).frame (fun lb hl => eA lb (by rintro rfl; rcases hl with hl | hl <;> exact absurd hl (by decide)))
  · intro j hj
    rw [ptr, if_neg (by omega), if_neg (by omega)]
    exact (g5 j (by omega)).frame (fun lb hl => eA lb (by rintro rfl; rcases hl with hl | hl <;> exact absurd hl (by decide)))
  · show (wI m (0, 0, 0, 0) 5 (zI (k - 1))).1 (0, 0, 0, 0) 6 = zI L
    rw [wI_eq, upd_ne _ (by decide)]; exact g6
  · intro i hi
    rw [eA _ (by decide)]; exact g7 i hi
  · exact fun lb hl => eA lb (by rintro rfl; rcases hl with hl | hl <;> exact absurd hl (by decide))
end PR

