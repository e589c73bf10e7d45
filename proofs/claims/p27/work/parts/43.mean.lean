/-! mean, index, put -/
section QM1
variable {m m2 mi x : Mem} {n k L T s t c : Nat} {w w2 tx : Nat → Int32} {pa : Nat → Nat → Int32} {nn TT : Nat → Nat} {a b v : Int32}
def defM (m : Mem) (s t c : Nat) (a b v : Int32) : Mem := wI (wI (wI m (2, s, t, 1) c a) (2, s, t, 2) c b) (2, s, t, 3) c v
theorem sr_def (h : SR m.1 s w n) (ht : t < 3) (hc : c < 8) (ha : w2 (1081 + 8 * t + c) = a) (hv : w2 (1129 + 8 * t + c) = v) (hb : a ≠ -1 → w2 (1105 + 8 * t + c) = b) (hw : ∀ i, i ≠ 1081 + 8 * t + c → i ≠ 1105 + 8 * t + c → i ≠ 1129 + 8 * t + c → w2 i = w i) : SR (defM m s t c a b v).1 s w2 n := by
  obtain ⟨a1, a2, a3, a4, a5, a6, a7, a8⟩ := h
  have e1 : ∀ p q r, (defM m s t c a b v).1 (1, p, q, r) = m.1 (1, p, q, r) := fun p q r => by
    unfold defM
    rw [wI_ne lb12_ne, wI_ne lb12_ne, wI_ne lb12_ne]
  have e0 : ∀ t2, (defM m s t c a b v).1 (2, s, t2, 0) = m.1 (2, s, t2, 0) := fun t2 => by
    unfold defM
    rw [wI_ne (lb2_ne (Or.inr (by decide))), wI_ne (lb2_ne (Or.inr (by decide))), wI_ne (lb2_ne (Or.inr (by decide)))]
  have et : ∀ t2 j, t2 ≠ t → (defM m s t c a b v).1 (2, s, t2, j) = m.1 (2, s, t2, j) := fun t2 j hj => by
    unfold defM
    rw [wI_ne (lb2_ne (Or.inl hj)), wI_ne (lb2_ne (Or.inl hj)), wI_ne (lb2_ne (Or.inl hj))]
  have d1 : (defM m s t c a b v).1 (2, s, t, 1) = upd (m.1 (2, s, t, 1)) c a := by
    unfold defM
    rw [wI_ne (lb2_ne (Or.inr (by decide))), wI_ne (lb2_ne (Or.inr (by decide))), wI_eq]
  have d2 : (defM m s t c a b v).1 (2, s, t, 2) = upd (m.1 (2, s, t, 2)) c b := by
    unfold defM
    rw [wI_ne (lb2_ne (Or.inr (by decide))), wI_eq, wI_ne (lb2_ne (Or.inr (by decide)))]
  have d3 : (defM m s t c a b v).1 (2, s, t, 3) = upd (m.1 (2, s, t, 3)) c v := by
    unfold defM
    rw [wI_eq, wI_ne (lb2_ne (Or.inr (by decide))), wI_ne (lb2_ne (Or.inr (by decide)))]
  refine ⟨a1, by rw [hw _ (by omega) (by omega) (by omega)]; exact a2, by rw [e1]; exact a3, fun r hr => by rw [e1, hw _ (by omega) (by omega) (by omega)]; exact a4 r hr, fun r hr c hc => by rw [e1, hw _ (by omega) (by omega) (by omega)]; exact a5 r hr c hc, fun t2 ht2 c2 hc2 => ?_, fun t2 ht2 => ?_, fun r hr => by rw [hw _ (by omega) (by omega) (by omega)]; exact a8 r hr⟩
  · by_cases e : t2 = t
    · subst e
      rw [d1, d2, d3]
      by_cases e2 : c2 = c
      · subst e2
        rw [upd_eq, upd_eq, upd_eq, ha, hv]
        exact ⟨rfl, rfl, fun h => (hb h).symm⟩
      · rw [upd_ne _ e2, upd_ne _ e2, upd_ne _ e2, hw _ (by omega) (by omega) (by omega), hw _ (by omega) (by omega) (by omega), hw _ (by omega) (by omega) (by omega)]
        exact a6 t2 ht2 c2 hc2
    · rw [et _ _ e, et _ _ e, et _ _ e, hw _ (by omega) (by omega) (by omega), hw _ (by omega) (by omega) (by omega), hw _ (by omega) (by omega) (by omega)]
      exact a6 t2 ht2 c2 hc2
  · rw [e0, hw (1153 + t2) (by omega) (by omega) (by omega), hw (1156 + t2) (by omega) (by omega) (by omega), hw (1159 + t2) (by omega) (by omega) (by omega), hw (1162 + t2) (by omega) (by omega) (by omega), hw (1165 + t2) (by omega) (by omega) (by omega), hw (1168 + t2) (by omega) (by omega) (by omega), hw (1171 + t2) (by omega) (by omega) (by omega)]
    exact a7 t2 ht2
theorem frt_def (m : Mem) (s t c : Nat) (a b v : Int32) : FrT s m (defM m s t c a b v) := ((frt_wI (wr2 s t 1) m c a).tr (frt_wI (wr2 s t 2) _ c b)).tr (frt_wI (wr2 s t 3) _ c v)
theorem wi_cell (h : WI w n T) (ht : t < 3) (hc : c < 8) (ha : w2 (1081 + 8 * t + c) = -1 ∨ ((∃ l, l < 8 ∧ w2 (1081 + 8 * t + c) = zI l) ∧ ∀ c2, c2 < 8 → c2 ≠ c → w (1081 + 8 * t + c2) ≠ w2 (1081 + 8 * t + c))) (hv : w2 (1129 + 8 * t + c) = 0 ∨ w2 (1129 + 8 * t + c) = 1) (hw : ∀ i, i ≠ 1081 + 8 * t + c → i ≠ 1105 + 8 * t + c → i ≠ 1129 + 8 * t + c → w2 i = w i) : WI w2 n T := by
  obtain ⟨h1, h2, h3, h4, h5, h6, h7, h8, h9, h10, h11, h12, h13⟩ := id h
  refine wi_parts h ?_ ?_ ?_ ?_ (fun i hi => hw i (by omega) (by omega) (by omega))
  · intro t1 ht1 c1 hc1 c2 hc2 he hn
    by_cases e : t1 = t
    · subst e
      by_cases e1 : c1 = c
      · by_cases e2 : c2 = c
        · omega
        · subst e1
          rw [hw (1081 + 8 * t1 + c2) (by omega) (by omega) (by omega)] at he
          rcases ha with ha | ⟨-, ha⟩
          · exact absurd ha hn
          · exact absurd he.symm (ha c2 hc2 e2)
      · by_cases e2 : c2 = c
        · subst e2
          rw [hw (1081 + 8 * t1 + c1) (by omega) (by omega) (by omega)] at he hn
          rcases ha with ha | ⟨-, ha⟩
          · exact absurd (he.trans ha) hn
          · exact absurd he (ha c1 hc1 e1)
        · rw [hw (1081 + 8 * t1 + c1) (by omega) (by omega) (by omega)] at he hn
          rw [hw (1081 + 8 * t1 + c2) (by omega) (by omega) (by omega)] at he
          exact h5 t1 ht1 c1 hc1 c2 hc2 he hn
    · rw [hw (1081 + 8 * t1 + c1) (by omega) (by omega) (by omega)] at he hn
      rw [hw (1081 + 8 * t1 + c2) (by omega) (by omega) (by omega)] at he
      exact h5 t1 ht1 c1 hc1 c2 hc2 he hn
  · intro t1 ht1 c1 hc1
    by_cases e : t1 = t ∧ c1 = c
    · obtain ⟨rfl, rfl⟩ := e
      exact ha.imp id (fun h => h.1)
    · rw [hw _ (by omega) (by omega) (by omega)]
      exact h6 t1 ht1 c1 hc1
  · intro t1 ht1 c1 hc1
    by_cases e : t1 = t ∧ c1 = c
    · obtain ⟨rfl, rfl⟩ := e
      exact hv
    · rw [hw _ (by omega) (by omega) (by omega)]
      exact h9 t1 ht1 c1 hc1
  · intro t1 ht1
    rw [hw _ (by omega) (by omega) (by omega)]
    exact h10 t1 ht1
theorem p_spare (h : SR m.1 s w n) (ht : t < 3) : (∃ c, c < 8 ∧ F_X2_columnOf s t (-1) m = some (zI c) ∧ w (1081 + 8 * t + c) = -1 ∧ ∀ j, j < c → w (1081 + 8 * t + j) ≠ -1) ∨ (F_X2_columnOf s t (-1) m = some (-1) ∧ ∀ j, j < 8 → w (1081 + 8 * t + j) ≠ -1) := by
  obtain ⟨h1, h2, h3, h4, h5, h6, h7, h8⟩ := id h
  unfold F_X2_columnOf
  rw [← zI_zero]
  refine loop_ex (L := fun k (_ : Unit) i => L_X2_columnOf_2 s t (-1) m k i) (P := fun r _ => ∀ j, j < r → w (1081 + 8 * t + j) ≠ -1) (R := fun x => (∃ c, c < 8 ∧ x = some (zI c) ∧ w (1081 + 8 * t + c) = -1 ∧ ∀ j, j < c → w (1081 + 8 * t + j) ≠ -1) ∨ (x = some (-1) ∧ ∀ j, j < 8 → w (1081 + 8 * t + j) ≠ -1)) (n := 8) ?_ ?_ 8 0 fu () rfl (by rw [fu_eq]; omega) (fun j hj => absurd hj (Nat.not_lt_zero j))
  · intro k a r hr hp
    have e := (h6 t ht r hr).1
    by_cases hw : w (1081 + 8 * t + r) = -1
    · refine Or.inr (Or.inl ⟨r, hr, ?_, hw, hp⟩)
      simp (discharger := omega) only [L_X2_columnOf_2, e, hw, bd_e, bo_e, bm_e, bts_l, bts_r, btm_l, btm_r, bp_lt, ck_ib, ck_z, ck_o, ifT, ifF, n10, n01, pv_v, if_pos, if_neg, zI_nat, zI_add, zI_mul, zI_addl, zI_laddl, zI_mull, zI_lmul, zI_subl, zI_pred, zI_le, zI_lt, zI_eq, zI_lel, zI_lle, zI_ltl, zI_llt, zI_eql, zI_leq, zI_ne1, zI_1ne]
    · refine Or.inl ⟨(), fun j hj => ?_, ?_⟩
      · by_cases hj2 : j = r
        · rw [hj2]; exact hw
        · exact hp j (by omega)
      · simp (discharger := omega) only [L_X2_columnOf_2, e, hw, bd_e, bo_e, bm_e, bts_l, bts_r, btm_l, btm_r, bp_lt, ck_ib, ck_z, ck_o, ifT, ifF, n10, n01, pv_v, if_pos, if_neg, zI_nat, zI_add, zI_mul, zI_addl, zI_laddl, zI_mull, zI_lmul, zI_subl, zI_pred, zI_le, zI_lt, zI_eq, zI_lel, zI_lle, zI_ltl, zI_llt, zI_eql, zI_leq, zI_ne1, zI_1ne]
  · intro k a hp
    refine Or.inr ⟨?_, hp⟩
    simp (discharger := omega) only [L_X2_columnOf_2, C_X2_columnOf_26, Nat.le_refl, bd_e, bo_e, bm_e, bts_l, bts_r, btm_l, btm_r, bp_lt, ck_ib, ck_z, ck_o, ifT, ifF, n10, n01, pv_v, if_pos, if_neg, zI_nat, zI_add, zI_mul, zI_addl, zI_laddl, zI_mull, zI_lmul, zI_subl, zI_pred, zI_le, zI_lt, zI_eq, zI_lel, zI_lle, zI_ltl, zI_llt, zI_eql, zI_leq, zI_ne1, zI_1ne]
end QM1

