/-! the state is saved, the class's side -/
def svK (k : Nat) : Nat := if k = 6 then 6 else k + 1
def svF {α : Type} (k : Nat) (p : Nat → α) (x : α) : Nat → α := fun j => if k = 6 then (if j = 5 then x else p (j + 1)) else (if j = k then x else p j)
section QC
variable {m : Mem} {n k L T : Nat} {w tx : Nat → Int32} {pa : Nat → Nat → Int32} {nn TT : Nat → Nat}
theorem svK_le (h : k ≤ 6) : svK k ≤ 6 ∧ 0 < svK k := by
  unfold svK
  by_cases h6 : k = 6
  · rw [if_pos h6]; omega
  · rw [if_neg h6]; omega
theorem AInv.saved (h : AInv w n T k pa nn TT L tx) : AInv w n T (svK k) (svF k pa w) (svF k nn n) (svF k TT T) L tx := by
  obtain ⟨h1, h2, h3, h4, h5⟩ := h
  refine ⟨h1, (svK_le h2).1, fun j hj => ?_, h4, h5⟩
  unfold svK at hj
  unfold svF
  by_cases h6 : k = 6
  · rw [if_pos h6] at hj
    simp only [if_pos h6]
    by_cases h5 : j = 5
    · simp only [if_pos h5]; exact h1
    · simp only [if_neg h5]; exact h3 _ (by omega)
  · rw [if_neg h6] at hj
    simp only [if_neg h6]
    by_cases h5 : j = k
    · simp only [if_pos h5]; exact h1
    · simp only [if_neg h5]; exact h3 _ (by omega)
theorem p_save56 (h : PRel m w n k pa nn L tx) (hk : k < 6) (hi : IX w) (hv : MV w) : ∃ m2, J_X3_save_56 m = some (m.2.1 k, m2) ∧ m2.2 = m.2 ∧ PRel m2 w n (k + 1) (fun j => if j = k then w else pa j) (fun j => if j = k then n else nn j) L tx ∧ FrP m m2 ∧ SR m2.1 (m.2.1 k) w n ∧ ∀ j, j ≠ 0 → m2.1 (0, 0, 0, j) = m.1 (0, 0, 0, j) := by
  obtain ⟨g1, g2, g3, g4, g5, g6, g7⟩ := h
  have b1 := g1 k (by omega)
  have b2 := g1 6 (by omega)
  have ne : m.2.1 k ≠ m.2.1 6 := fun e => by have := g2 k 6 (by omega) (by omega) e; omega
  obtain ⟨m7, e1, e2, e3, e4⟩ := p_copy (i0 := m.2.1 k) g4 hi hv ne
  have z0 : ∀ j, m7.1 (0, 0, 0, j) = m.1 (0, 0, 0, j) := fun j => e4 _ (fun e => by rcases e with e | e <;> exact absurd e (by decide : ¬ (0 : Nat) = _))
  have z1 : ∀ j b c, j ≠ m.2.1 k → m7.1 (1, j, b, c) = m.1 (1, j, b, c) := fun j b c hj => e4 _ (fun _ => hj)
  have z2 : ∀ j b c, j ≠ m.2.1 k → m7.1 (2, j, b, c) = m.1 (2, j, b, c) := fun j b c hj => e4 _ (fun _ => hj)
  have y0 : ∀ j, j ≠ 0 → (wI m7 (0, 0, 0, 0) 5 (zI (k + 1))).1 (0, 0, 0, j) = m.1 (0, 0, 0, j) := fun j hj => by
    rw [wI_ne (fun e => hj (by injection e with _ e; injection e with _ e; injection e))]
    exact z0 j
  have y1 : ∀ b c d, (wI m7 (0, 0, 0, 0) 5 (zI (k + 1))).1 (1, b, c, d) = m7.1 (1, b, c, d) := fun b c d => wI_ne (fun e => by injection e with e _; exact absurd e (by decide)) m7 5 _
  have y2 : ∀ b c d, (wI m7 (0, 0, 0, 0) 5 (zI (k + 1))).1 (2, b, c, d) = m7.1 (2, b, c, d) := fun b c d => wI_ne (fun e => by injection e with e _; exact absurd e (by decide)) m7 5 _
  have hS : SR (wI m7 (0, 0, 0, 0) 5 (zI (k + 1))).1 (m.2.1 k) w n := e2.frame2 (fun b c => y1 _ b c) (fun b c => y2 _ b c)
  refine ⟨wI m7 (0, 0, 0, 0) 5 (zI (k + 1)), ?_, e3, ⟨?_, ?_, ?_, ?_, ?_, ?_, ?_⟩, ⟨?_, ?_⟩, hS, y0⟩
  · have c0 : m7.1 (0, 0, 0, 0) 5 = zI k := by rw [z0]; exact g3
    simp (discharger := omega) only [J_X3_save_56, g3, e1, c0, bd_e, bo_e, bm_e, bts_l, bts_r, btm_l, btm_r, bp_lt, ck_ib, ck_z, ck_o, ifT, ifF, n10, n01, pv_v, if_pos, if_neg, zI_nat, zI_add, zI_mul, zI_addl, zI_laddl, zI_mull, zI_lmul, zI_subl, zI_pred, zI_le, zI_lt, zI_eq, zI_lel, zI_lle, zI_ltl, zI_llt, zI_eql, zI_leq, zI_ne1, zI_1ne]
  · show ∀ j, j < 7 → m7.2.1 j < 7
    rw [e3]; exact g1
  · show ∀ i j, i < 7 → j < 7 → m7.2.1 i = m7.2.1 j → i = j
    rw [e3]; exact g2
  · rw [wI_eq, upd_eq]
  · show SR _ (m7.2.1 6) w n
    rw [e3]
    exact g4.frame2 (fun b c => (y1 _ b c).trans (z1 _ b c (Ne.symm ne))) (fun b c => (y2 _ b c).trans (z2 _ b c (Ne.symm ne)))
  · intro j hj
    show SR _ (m7.2.1 j) _ _
    rw [e3]
    by_cases hjk : j = k
    · simp only [if_pos hjk]
      rw [hjk]; exact hS
    · simp only [if_neg hjk]
      have nj : m.2.1 j ≠ m.2.1 k := fun e => hjk (g2 j k (by omega) (by omega) e)
      exact (g5 j (by omega)).frame2 (fun b c => (y1 _ b c).trans (z1 _ b c nj)) (fun b c => (y2 _ b c).trans (z2 _ b c nj))
  · rw [wI_eq, upd_ne _ (by decide), z0]; exact g6
  · intro i hi2
    rw [y0 2 (by decide)]; exact g7 i hi2
  · intro lb hl
    rw [wI_ne (by rintro rfl; rcases hl with hl | hl <;> exact absurd hl (by decide))]
    exact e4 lb (fun h1 => by omega)
  · show m7.2.2 = m.2.2
    rw [e3]
theorem p_save (h : PRel m w n k pa nn L tx) (hk : k ≤ 6) (hi : IX w) (hv : MV w) : ∃ q m2, F_X3_save m = some (q, m2) ∧ q < 7 ∧ q ≠ m.2.1 6 ∧ m2.2.1 6 = m.2.1 6 ∧ PRel m2 w n (svK k) (svF k pa w) (svF k nn n) L tx ∧ FrP m m2 ∧ SR m2.1 q w n ∧ ∀ j, j ≠ 0 → m2.1 (0, 0, 0, j) = m.1 (0, 0, 0, j) := by
  obtain ⟨g1, g2, g3, g4, g5, g6, g7⟩ := id h
  by_cases h6 : k = 6
  · subst h6
    have ptr : ∃ x, L_X3_save_18 (m.2.1 0) fu (zI 1) m = J_X3_save_56 (wI (wP x 5 (m.2.1 0)) (0, 0, 0, 0) 5 5) ∧ x.1 = m.1 ∧ x.2.2 = m.2.2 ∧ ∀ j, x.2.1 j = if j + 1 < 6 then m.2.1 (j + 1) else m.2.1 j := by
      refine loop_ex (L := fun k x i => L_X3_save_18 (m.2.1 0) k i x) (P := fun r x => 1 ≤ r ∧ x.1 = m.1 ∧ x.2.2 = m.2.2 ∧ ∀ j, x.2.1 j = if j + 1 < r then m.2.1 (j + 1) else m.2.1 j) (R := fun y => ∃ x, y = J_X3_save_56 (wI (wP x 5 (m.2.1 0)) (0, 0, 0, 0) 5 5) ∧ x.1 = m.1 ∧ x.2.2 = m.2.2 ∧ ∀ j, x.2.1 j = if j + 1 < 6 then m.2.1 (j + 1) else m.2.1 j) (n := 6) ?_ ?_ 5 1 fu m (by omega) (by rw [fu_eq]; omega) ⟨Nat.le_refl 1, rfl, rfl, fun j => by rw [if_neg (by omega)]⟩
      · intro k2 x r hr hp
        obtain ⟨p0, p1, p2, p3⟩ := hp
        have e0 : x.2.1 r = m.2.1 r := by rw [p3, if_neg (by omega)]
        have b0 : x.2.1 r < 7 := by rw [e0]; exact g1 r (by omega)
        refine Or.inl ⟨wP x (r - 1) (x.2.1 r), ⟨by omega, p1, p2, fun j => ?_⟩, ?_⟩
        · show (if j = r - 1 then x.2.1 r else x.2.1 j) = _
          by_cases hj : j = r - 1
          · rw [if_pos hj, if_pos (by omega), e0, show j + 1 = r by omega]
          · rw [if_neg hj, p3]
            by_cases hj2 : j + 1 < r
            · rw [if_pos hj2, if_pos (by omega)]
            · rw [if_neg hj2, if_neg (by omega)]
        · simp (discharger := omega) only [L_X3_save_18, bd_e, bo_e, bm_e, bts_l, bts_r, btm_l, btm_r, bp_lt, ck_ib, ck_z, ck_o, ifT, ifF, n10, n01, pv_v, if_pos, if_neg, zI_nat, zI_add, zI_mul, zI_addl, zI_laddl, zI_mull, zI_lmul, zI_subl, zI_pred, zI_le, zI_lt, zI_eq, zI_lel, zI_lle, zI_ltl, zI_llt, zI_eql, zI_leq, zI_ne1, zI_1ne]
      · intro k2 x hp
        obtain ⟨p0, p1, p2, p3⟩ := hp
        refine ⟨x, ?_, p1, p2, p3⟩
        have h66 : (6 : Int32) ≤ zI 6 := by decide
        have c5 : Int32.toNatClampNeg 5 = 5 := rfl
        have i5 : ∀ {α : Type} (y : Option α), ck (ib 5 6) y = y := fun _ => rfl
        simp (discharger := omega) only [L_X3_save_18, C_X3_save_44, h66, c5, i5, bd_e, bo_e, bm_e, bts_l, bts_r, btm_l, btm_r, bp_lt, ck_ib, ck_z, ck_o, ifT, ifF, n10, n01, pv_v, if_pos, if_neg, zI_nat, zI_add, zI_mul, zI_addl, zI_laddl, zI_mull, zI_lmul, zI_subl, zI_pred, zI_le, zI_lt, zI_eq, zI_lel, zI_lle, zI_ltl, zI_llt, zI_eql, zI_leq, zI_ne1, zI_1ne]
    obtain ⟨x, x0, x1, x2, x3⟩ := ptr
    obtain ⟨m15, hm⟩ : ∃ m15, m15 = wI (wP x 5 (m.2.1 0)) (0, 0, 0, 0) 5 5 := ⟨_, rfl⟩
    have q0 : ∀ j, m15.2.1 j = if j = 5 then m.2.1 0 else if j + 1 < 6 then m.2.1 (j + 1) else m.2.1 j := by
      intro j
      rw [hm]
      show (if j = 5 then m.2.1 0 else x.2.1 j) = _
      rw [x3]
    have q1 : ∀ lb : Lb, lb ≠ (0, 0, 0, 0) → m15.1 lb = m.1 lb := fun lb hl => by
      rw [hm, wI_ne hl, wP_1, x1]
    have q2 : m15.1 (0, 0, 0, 0) = upd (m.1 (0, 0, 0, 0)) 5 (zI 5) := by
      rw [hm, wI_eq, wP_1, x1]; rfl
    have q6 : m15.2.1 6 = m.2.1 6 := by rw [q0, if_neg (by omega), if_neg (by omega)]
    have R15 : PRel m15 w n 5 (fun j => pa (j + 1)) (fun j => nn (j + 1)) L tx := by
      refine ⟨?_, ?_, ?_, ?_, ?_, ?_, ?_⟩
      · intro j hj
        rw [q0]
        by_cases h5 : j = 5
        · rw [if_pos h5]; exact g1 0 (by omega)
        · rw [if_neg h5]
          by_cases h1 : j + 1 < 6
          · rw [if_pos h1]; exact g1 _ (by omega)
          · rw [if_neg h1]; exact g1 _ (by omega)
      · have im : ∀ j, j < 7 → ∃ i, i < 7 ∧ m15.2.1 j = m.2.1 i ∧ i = if j = 5 then 0 else if j + 1 < 6 then j + 1 else j := by
          intro j hj
          rw [q0]
          by_cases h5 : j = 5
          · exact ⟨0, by omega, by rw [if_pos h5], by rw [if_pos h5]⟩
          · by_cases h1 : j + 1 < 6
            · exact ⟨j + 1, by omega, by rw [if_neg h5, if_pos h1], by rw [if_neg h5, if_pos h1]⟩
            · exact ⟨j, by omega, by rw [if_neg h5, if_neg h1], by rw [if_neg h5, if_neg h1]⟩
        intro i j hi2 hj2 he
        obtain ⟨a, a1, a2, a3⟩ := im i hi2
        obtain ⟨b, b1, b2, b3⟩ := im j hj2
        rw [a2, b2] at he
        have := g2 a b a1 b1 he
        subst this
        by_cases c1 : i = 5
        · rw [if_pos c1] at a3
          by_cases c2 : j = 5
          · omega
          · rw [if_neg c2] at b3
            by_cases c3 : j + 1 < 6
            · rw [if_pos c3] at b3; omega
            · rw [if_neg c3] at b3; omega
        · rw [if_neg c1] at a3
          by_cases c2 : j = 5
          · rw [if_pos c2] at b3
            by_cases c3 : i + 1 < 6
            · rw [if_pos c3] at a3; omega
            · rw [if_neg c3] at a3; omega
          · rw [if_neg c2] at b3
            by_cases c3 : i + 1 < 6
            · rw [if_pos c3] at a3
              by_cases c4 : j + 1 < 6
              · rw [if_pos c4] at b3; omega
              · rw [if_neg c4] at b3; omega
            · rw [if_neg c3] at a3
              by_cases c4 : j + 1 < 6
              · rw [if_pos c4] at b3; omega
              · rw [if_neg c4] at b3; omega
      · rw [q2, upd_eq]
      · rw [q6]
        exact g4.frame (fun lb hl => q1 lb (by rintro rfl; rcases hl with hl | hl <;> exact absurd hl (by decide)))
      · intro j hj
        rw [q0, if_neg (by omega), if_pos (by omega)]
        exact (g5 (j + 1) (by omega)).frame (fun lb hl => q1 lb (by rintro rfl; rcases hl with hl | hl <;> exact absurd hl (by decide)))
      · rw [q2, upd_ne _ (by decide)]; exact g6
      · intro i hi2
        rw [q1 _ (by decide)]; exact g7 i hi2
    obtain ⟨m2, e1, e2, e3, e4, e5, e6⟩ := p_save56 R15 (by omega) hi hv
    have q5 : m15.2.1 5 = m.2.1 0 := by rw [q0, if_pos rfl]
    refine ⟨m.2.1 0, m2, ?_, g1 0 (by omega), fun e => by have := g2 0 6 (by omega) (by omega) e; omega, by rw [e2]; exact q6, ?_, ⟨fun lb hl => ?_, ?_⟩, by rw [← q5]; exact e5, fun j hj => ?_⟩
    · unfold F_X3_save
      rw [g3]
      have n6 : ¬ zI 6 < 6 := by decide
      have b0 : Int32.toNatClampNeg 0 = 0 := rfl
      have i0 : ∀ {α : Type} (y : Option α), ck (ib 0 6) y = y := fun _ => rfl
      show (if zI 6 < 6 then J_X3_save_56 m else ck (ib 0 6) (bp (m.2.1 (Int32.toNatClampNeg 0)) 7 fun q11 => L_X3_save_18 q11 fu 1 m)) = _
      rw [if_neg n6, i0, b0, bp_lt (g1 0 (by omega))]
      exact x0.trans (by rw [← hm, e1, q5])
    · have ek : svK 6 = 5 + 1 := rfl
      rw [ek]
      have ep : svF 6 pa w = fun j => if j = 5 then w else pa (j + 1) := by funext j; unfold svF; rw [if_pos rfl]
      have en : svF 6 nn n = fun j => if j = 5 then n else nn (j + 1) := by funext j; unfold svF; rw [if_pos rfl]
      rw [ep, en]
      exact e3
    · rw [e4.1 lb hl]
      exact q1 lb (by rintro rfl; rcases hl with hl | hl <;> exact absurd hl (by decide))
    · rw [e4.2, hm]
      exact x2
    · rw [e6 j hj]
      exact q1 _ (fun e => hj (by injection e with _ e; injection e with _ e; injection e))
  · have hk6 : k < 6 := by omega
    obtain ⟨m2, e1, e2, e3, e4, e5, e6⟩ := p_save56 h hk6 hi hv
    refine ⟨m.2.1 k, m2, ?_, g1 k (by omega), fun e => by have := g2 k 6 (by omega) (by omega) e; omega, by rw [e2], ?_, e4, e5, e6⟩
    · simp (discharger := omega) only [F_X3_save, g3, hk6, bd_e, bo_e, bm_e, bts_l, bts_r, btm_l, btm_r, bp_lt, ck_ib, ck_z, ck_o, ifT, ifF, n10, n01, pv_v, if_pos, if_neg, zI_nat, zI_add, zI_mul, zI_addl, zI_laddl, zI_mull, zI_lmul, zI_subl, zI_pred, zI_le, zI_lt, zI_eq, zI_lel, zI_lle, zI_ltl, zI_llt, zI_eql, zI_leq, zI_ne1, zI_1ne]
      exact e1
    · have ek : svK k = k + 1 := if_neg h6
      have ep : svF k pa w = fun j => if j = k then w else pa j := by funext j; unfold svF; rw [if_neg h6]
      have en : svF k nn n = fun j => if j = k then n else nn j := by funext j; unfold svF; rw [if_neg h6]
      rw [ek, ep, en]
      exact e3
end QC

