/-! the reference's sort; move -/
section QS
variable {m m2 mi x : Mem} {n n2 k L T s q t r : Nat} {w w2 v tx : Nat → Int32} {pa : Nat → Nat → Int32} {nn TT : Nat → Nat} {l : List Nat}
def pz (c : Nat) : Int32 := if c = 0 then -1 else zI (c - 1)
theorem pz_s (c : Nat) : pz c + 1 = pz (c + 1) := by
  unfold pz
  rw [if_neg (Nat.succ_ne_zero c), Nat.add_sub_cancel]
  by_cases h : c = 0
  · subst h; rw [if_pos rfl]; decide
  · rw [if_neg h, zI_addl]
    congr 1
    show c - 1 + 1 = c
    omega
def SG (l : List Nat) (w g : Nat → Int32) : Prop := ∀ i, i < l.length → ∀ k, k < 9 → g (9 * i + k) = w (9 * gt0 l i + k)
theorem m_sortrow (h : MW x w n) {r a c : Nat} (hr : r < n) (ha : a < 120) (g : Nat → Int32) (kb : Int32 → Int32 → Mem → Option (Unit × Mem)) : ∃ g2, L_X4_sorts_76 (zI a) (zI r) kb fu 0 (wA x (3, 0, 0, 3) g) = kb (zI (a + 1)) (zI (r + 1)) (wA x (3, 0, 0, 3) g2) ∧ (∀ k, k < 9 → g2 (9 * a + k) = w (9 * r + k)) ∧ ∀ i, i < 9 * a → g2 i = g i := by
  obtain ⟨h1, h2, h3⟩ := h
  refine loop_ex (L := fun k (y : Mem) i => L_X4_sorts_76 (zI a) (zI r) kb k i y) (P := fun j y => ∃ g2, y = wA x (3, 0, 0, 3) g2 ∧ (∀ k, k < j → g2 (9 * a + k) = w (9 * r + k)) ∧ ∀ i, i < 9 * a → g2 i = g i) (R := fun y => ∃ g2, y = kb (zI (a + 1)) (zI (r + 1)) (wA x (3, 0, 0, 3) g2) ∧ (∀ k, k < 9 → g2 (9 * a + k) = w (9 * r + k)) ∧ ∀ i, i < 9 * a → g2 i = g i) (n := 9) ?_ ?_ 9 0 fu _ (by omega) (by rw [fu_eq]; omega) ⟨g, rfl, fun k hk => absurd hk (Nat.not_lt_zero k), fun _ _ => rfl⟩
  · intro k y j hj hp
    obtain ⟨g2, rfl, p1, p2⟩ := hp
    refine Or.inl ⟨wA x (3, 0, 0, 3) (upd g2 (9 * a + j) (w (9 * r + j))), ⟨_, rfl, fun k hk => ?_, fun i hi => ?_⟩, ?_⟩
    · by_cases e : k = j
      · rw [e, upd_eq]
      · rw [upd_ne _ (by omega)]; exact p1 k (by omega)
    · rw [upd_ne _ (by omega)]; exact p2 i hi
    · have e1 : (wA x (3, 0, 0, 3) g2).1 (3, 0, 0, 1) = w := by rw [wA_ne _ _ (by decide)]; exact h1
      simp (discharger := omega) only [L_X4_sorts_76, e1, wI_wA, bd_e, bo_e, bm_e, bts_l, bts_r, btm_l, btm_r, bp_lt, ck_ib, ck_z, ck_o, ifT, ifF, n10, n01, pv_v, if_pos, if_neg, zI_nat, zI_add, zI_mul, zI_addl, zI_laddl, zI_mull, zI_lmul, zI_subl, zI_pred, zI_le, zI_lt, zI_eq, zI_lel, zI_lle, zI_ltl, zI_llt, zI_eql, zI_leq, zI_ne1, zI_1ne]
  · intro k y hp
    obtain ⟨g2, rfl, p1, p2⟩ := hp
    refine ⟨g2, ?_, p1, p2⟩
    simp (discharger := omega) only [L_X4_sorts_76, C_X4_sorts_113, J_X4_sorts_116, Nat.le_refl, bd_e, bo_e, bm_e, bts_l, bts_r, btm_l, btm_r, bp_lt, ck_ib, ck_z, ck_o, ifT, ifF, n10, n01, pv_v, if_pos, if_neg, zI_nat, zI_add, zI_mul, zI_addl, zI_laddl, zI_mull, zI_lmul, zI_subl, zI_pred, zI_le, zI_lt, zI_eq, zI_lel, zI_lle, zI_ltl, zI_llt, zI_eql, zI_leq, zI_ne1, zI_1ne]
theorem m_sorts (hM : MRel x w k pa L tx) (hn : n ≤ 120) (h80 : w 1080 = zI n) (ho : OW w n) (hmv : MV w) : ∃ x2 w2, F_X4_sorts x = some ((), x2) ∧ MRel x2 w2 k pa L tx ∧ EQW n w2 (lsW (slp (cls w) n 4) w) ∧ FrM x x2 ∧ x2.1 (3, 0, 0, 0) = x.1 (3, 0, 0, 0) ∧ ∀ i, 9 * n ≤ i → w2 i = w i := by
  have hMW : MW x w n := ⟨hM.1, h80, hn⟩
  have k1 : Int32.toNatClampNeg 1080 = 1080 := rfl
  have k2 : ∀ {α : Type} (y : Option α), ck (ib 1080 1174) y = y := fun _ => rfl
  have hx1 := hM.1
  have inner : ∀ (c : Nat) (kb : Int32 → Int32 → Mem → Option (Unit × Mem)) (g : Nat → Int32), c < 4 → SG (slp (cls w) n c) w g → ∃ g2, L_X4_sorts_11 (pz c) kb fu (zI (slp (cls w) n c).length) 0 (wA x (3, 0, 0, 3) g) = kb (zI (slp (cls w) n (c + 1)).length) (pz (c + 1)) (wA x (3, 0, 0, 3) g2) ∧ SG (slp (cls w) n (c + 1)) w g2 := by
    intro c kb g hc hg
    refine loop_ex (L := fun k (a : Nat × Mem) i => L_X4_sorts_11 (pz c) kb k (zI a.1) i a.2) (P := fun r a => a.1 = (slp (cls w) n c ++ fL (fun r => decide (cls w r = c)) r).length ∧ ∃ g2, a.2 = wA x (3, 0, 0, 3) g2 ∧ SG (slp (cls w) n c ++ fL (fun r => decide (cls w r = c)) r) w g2) (R := fun y => ∃ g2, y = kb (zI (slp (cls w) n (c + 1)).length) (pz (c + 1)) (wA x (3, 0, 0, 3) g2) ∧ SG (slp (cls w) n (c + 1)) w g2) (n := n) ?_ ?_ n 0 fu ((slp (cls w) n c).length, wA x (3, 0, 0, 3) g) (by omega) (by rw [fu_eq]; omega) (by rw [show fL (fun r => decide (cls w r = c)) 0 = [] from rfl, List.append_nil]; exact ⟨rfl, g, rfl, hg⟩)
    · rintro k ⟨a, y⟩ r hr ⟨p1, g2, p2, p3⟩
      simp only at p1 p2
      subst p2
      refine Or.inl ?_
      have y1 : (wA x (3, 0, 0, 3) g2).1 (3, 0, 0, 1) = w := by rw [wA_ne _ _ (by decide)]; exact hx1
      have yW : MW (wA x (3, 0, 0, 3) g2) w n := ⟨y1, h80, hn⟩
      have yt := m_tenantOf yW hr
      obtain ⟨t, ht, how⟩ := ho r hr
      have hmd : mvd w r = w (1159 + t) := mvd_of ht how
      rw [how] at yt
      have hcl : cls w r = if w (1159 + t) = 0 then 0 else t + 1 := by
        unfold cls
        rw [hmd, how, zI_nat (by omega)]
      have yes : cls w r = c → ∃ a2 : Nat × Mem, (a2.1 = (slp (cls w) n c ++ fL (fun r => decide (cls w r = c)) (r + 1)).length ∧ ∃ g2, a2.2 = wA x (3, 0, 0, 3) g2 ∧ SG (slp (cls w) n c ++ fL (fun r => decide (cls w r = c)) (r + 1)) w g2) ∧ J_X4_sorts_73 (zI a) (zI r) (wA x (3, 0, 0, 3) g2) (fun w0 w1 w2 => L_X4_sorts_11 (pz c) kb k w0 w1 w2) = L_X4_sorts_11 (pz c) kb k (zI a2.1) (zI (r + 1)) a2.2 := by
        intro e
        have el : fL (fun r => decide (cls w r = c)) (r + 1) = fL (fun r => decide (cls w r = c)) r ++ [r] := by
          rw [fL_succ, if_pos (decide_eq_true e)]
        have hlen := slp_len (cls w) n c (r + 1) (by omega)
        rw [el, ← List.append_assoc, List.length_append] at hlen
        have hl1 : ([r] : List Nat).length = 1 := rfl
        obtain ⟨g3, c1, c2, c3⟩ := m_sortrow (x := x) (w := w) (n := n) (a := a) (c := c) ⟨hx1, h80, hn⟩ hr (by omega) g2 (fun w0 w1 w2 => L_X4_sorts_11 (pz c) kb k w0 w1 w2)
        refine ⟨(a + 1, wA x (3, 0, 0, 3) g3), ⟨?_, g3, rfl, ?_⟩, c1⟩
        · rw [el, ← List.append_assoc, List.length_append, ← p1]; rfl
        · rw [el, ← List.append_assoc]
          intro i hi k hk
          rw [List.length_append] at hi
          rw [gt0_app]
          by_cases e : i < (slp (cls w) n c ++ fL (fun r => decide (cls w r = c)) r).length
          · rw [if_pos e, c3 _ (by omega)]; exact p3 i e k hk
          · have ei : i = a := by omega
            rw [if_neg e, ei, c2 k hk, p1, Nat.sub_self]; rfl
      have no : ¬ cls w r = c → ∃ a2 : Nat × Mem, (a2.1 = (slp (cls w) n c ++ fL (fun r => decide (cls w r = c)) (r + 1)).length ∧ ∃ g2, a2.2 = wA x (3, 0, 0, 3) g2 ∧ SG (slp (cls w) n c ++ fL (fun r => decide (cls w r = c)) (r + 1)) w g2) ∧ J_X4_sorts_116 (zI r) (fun w0 w1 w2 => L_X4_sorts_11 (pz c) kb k w0 w1 w2) (zI a) (wA x (3, 0, 0, 3) g2) = L_X4_sorts_11 (pz c) kb k (zI a2.1) (zI (r + 1)) a2.2 := by
        intro e
        have el : fL (fun r => decide (cls w r = c)) (r + 1) = fL (fun r => decide (cls w r = c)) r := by
          rw [fL_succ, if_neg (by rw [decide_eq_true_eq]; exact e), List.append_nil]
        rw [el]
        refine ⟨(a, wA x (3, 0, 0, 3) g2), ⟨p1, g2, rfl, p3⟩, ?_⟩
        unfold J_X4_sorts_116
        rw [bd_e, zI_addl]
      by_cases hc0 : c = 0
      · subst hc0
        have pz0 : pz 0 = -1 := rfl
        rcases hmv t ht with hv | hv
        · obtain ⟨a2, q1, q2⟩ := yes (by rw [hcl, if_pos hv])
          refine ⟨a2, q1, ?_⟩
          rw [← q2]
          simp (discharger := omega) only [L_X4_sorts_11, k1, k2, y1, h80, yt, pz0, hv, bd_e, bo_e, bm_e, bts_l, bts_r, btm_l, btm_r, bp_lt, ck_ib, ck_z, ck_o, ifT, ifF, n10, n01, pv_v, if_pos, if_neg, zI_nat, zI_add, zI_mul, zI_addl, zI_laddl, zI_mull, zI_lmul, zI_subl, zI_pred, zI_le, zI_lt, zI_eq, zI_lel, zI_lle, zI_ltl, zI_llt, zI_eql, zI_leq, zI_ne1, zI_1ne]
        · obtain ⟨a2, q1, q2⟩ := no (by rw [hcl, if_neg (by rw [hv]; decide)]; omega)
          refine ⟨a2, q1, ?_⟩
          rw [← q2]
          simp (discharger := omega) only [L_X4_sorts_11, k1, k2, y1, h80, yt, pz0, hv, bd_e, bo_e, bm_e, bts_l, bts_r, btm_l, btm_r, bp_lt, ck_ib, ck_z, ck_o, ifT, ifF, n10, n01, pv_v, if_pos, if_neg, zI_nat, zI_add, zI_mul, zI_addl, zI_laddl, zI_mull, zI_lmul, zI_subl, zI_pred, zI_le, zI_lt, zI_eq, zI_lel, zI_lle, zI_ltl, zI_llt, zI_eql, zI_leq, zI_ne1, zI_1ne]
      · have pzc : pz c = zI (c - 1) := if_neg hc0
        by_cases ht2 : t = c - 1
        · rcases hmv t ht with hv | hv
          · obtain ⟨a2, q1, q2⟩ := no (by rw [hcl, if_pos hv]; omega)
            refine ⟨a2, q1, ?_⟩
            rw [← q2]
            rw [ht2] at yt hv
            simp (discharger := omega) only [L_X4_sorts_11, k1, k2, y1, h80, yt, pzc, hv, bd_e, bo_e, bm_e, bts_l, bts_r, btm_l, btm_r, bp_lt, ck_ib, ck_z, ck_o, ifT, ifF, n10, n01, pv_v, if_pos, if_neg, zI_nat, zI_add, zI_mul, zI_addl, zI_laddl, zI_mull, zI_lmul, zI_subl, zI_pred, zI_le, zI_lt, zI_eq, zI_lel, zI_lle, zI_ltl, zI_llt, zI_eql, zI_leq, zI_ne1, zI_1ne]
          · obtain ⟨a2, q1, q2⟩ := yes (by rw [hcl, if_neg (by rw [hv]; decide)]; omega)
            refine ⟨a2, q1, ?_⟩
            rw [← q2]
            rw [ht2] at yt hv
            simp (discharger := omega) only [L_X4_sorts_11, k1, k2, y1, h80, yt, pzc, hv, bd_e, bo_e, bm_e, bts_l, bts_r, btm_l, btm_r, bp_lt, ck_ib, ck_z, ck_o, ifT, ifF, n10, n01, pv_v, if_pos, if_neg, zI_nat, zI_add, zI_mul, zI_addl, zI_laddl, zI_mull, zI_lmul, zI_subl, zI_pred, zI_le, zI_lt, zI_eq, zI_lel, zI_lle, zI_ltl, zI_llt, zI_eql, zI_leq, zI_ne1, zI_1ne]
        · obtain ⟨a2, q1, q2⟩ := no (by
            rw [hcl]
            by_cases hv : w (1159 + t) = 0
            · rw [if_pos hv]; omega
            · rw [if_neg hv]; omega)
          refine ⟨a2, q1, ?_⟩
          rw [← q2]
          simp (discharger := omega) only [L_X4_sorts_11, k1, k2, y1, h80, yt, pzc, ht2, bd_e, bo_e, bm_e, bts_l, bts_r, btm_l, btm_r, bp_lt, ck_ib, ck_z, ck_o, ifT, ifF, n10, n01, pv_v, if_pos, if_neg, zI_nat, zI_add, zI_mul, zI_addl, zI_laddl, zI_mull, zI_lmul, zI_subl, zI_pred, zI_le, zI_lt, zI_eq, zI_lel, zI_lle, zI_ltl, zI_llt, zI_eql, zI_leq, zI_ne1, zI_1ne]
    · rintro k ⟨a, y⟩ ⟨p1, g2, p2, p3⟩
      simp only at p1 p2
      subst p2
      refine ⟨g2, ?_, p3⟩
      have y1 : (wA x (3, 0, 0, 3) g2).1 (3, 0, 0, 1) = w := by rw [wA_ne _ _ (by decide)]; exact hx1
      have ep := pz_s c
      have ea : a = (slp (cls w) n (c + 1)).length := p1
      rw [← ea]
      simp (discharger := omega) only [L_X4_sorts_11, C_X4_sorts_122, k1, k2, y1, h80, Nat.le_refl, ep, bd_e, bo_e, bm_e, bts_l, bts_r, btm_l, btm_r, bp_lt, ck_ib, ck_z, ck_o, ifT, ifF, n10, n01, pv_v, if_pos, if_neg, zI_nat, zI_add, zI_mul, zI_addl, zI_laddl, zI_mull, zI_lmul, zI_subl, zI_pred, zI_le, zI_lt, zI_eq, zI_lel, zI_lle, zI_ltl, zI_llt, zI_eql, zI_leq, zI_ne1, zI_1ne]
  have outer : ∃ g, F_X4_sorts x = C_X4_sorts_128 (zI n) (wA x (3, 0, 0, 3) g) ∧ SG (slp (cls w) n 4) w g := by
    have hlen : (slp (cls w) n 4).length = n := slp4_len (fun r hr => cls_lt ho hr)
    unfold F_X4_sorts
    refine loop_gx (L := fun k (a : Nat × Mem) i => L_X4_sorts_4 k (zI a.1) i a.2) (ix := pz) (P := fun c a => a.1 = (slp (cls w) n c).length ∧ ∃ g, a.2 = wA x (3, 0, 0, 3) g ∧ SG (slp (cls w) n c) w g) (R := fun y => ∃ g, y = C_X4_sorts_128 (zI n) (wA x (3, 0, 0, 3) g) ∧ SG (slp (cls w) n 4) w g) (n := 4) ?_ ?_ 4 0 fu (0, x) (by omega) (by rw [fu_eq]; omega) ⟨rfl, x.1 (3, 0, 0, 3), (wA_self2 x _).symm, fun i hi => absurd hi (Nat.not_lt_zero i)⟩
    · rintro k ⟨a, y⟩ c hc ⟨p1, g, p2, p3⟩
      simp only at p1 p2
      subst p2
      obtain ⟨g2, e1, e2⟩ := inner c (fun w0 w1 w2 => L_X4_sorts_4 k w0 w1 w2) g hc p3
      refine Or.inl ⟨((slp (cls w) n (c + 1)).length, wA x (3, 0, 0, 3) g2), ⟨rfl, g2, rfl, e2⟩, ?_⟩
      have h3 : ¬ 3 ≤ pz c := by
        rcases (show c = 0 ∨ c = 1 ∨ c = 2 ∨ c = 3 by omega) with rfl | rfl | rfl | rfl <;> decide
      rw [L_X4_sorts_4, if_neg h3, p1]
      exact e1
    · rintro k ⟨a, y⟩ ⟨p1, g, p2, p3⟩
      simp only at p1 p2
      subst p2
      refine ⟨g, ?_, p3⟩
      have h3 : 3 ≤ pz 4 := by decide
      rw [L_X4_sorts_4, if_pos h3, p1, hlen]
  obtain ⟨g, o1, o2⟩ := outer
  have hlen : (slp (cls w) n 4).length = n := slp4_len (fun r hr => cls_lt ho hr)
  have back : ∃ h, C_X4_sorts_128 (zI n) (wA x (3, 0, 0, 3) g) = some ((), wA (wA x (3, 0, 0, 3) g) (3, 0, 0, 1) h) ∧ (∀ i, i < 9 * n → h i = g i) ∧ ∀ i, 9 * n ≤ i → h i = w i := by
    unfold C_X4_sorts_128
    refine loop_ex (L := fun k (y : Mem) i => L_X4_sorts_130 (zI n) k i y) (P := fun j y => ∃ h, y = wA (wA x (3, 0, 0, 3) g) (3, 0, 0, 1) h ∧ (∀ i, i < j → h i = g i) ∧ ∀ i, j ≤ i → h i = w i) (R := fun y => ∃ h, y = some ((), wA (wA x (3, 0, 0, 3) g) (3, 0, 0, 1) h) ∧ (∀ i, i < 9 * n → h i = g i) ∧ ∀ i, 9 * n ≤ i → h i = w i) (n := 9 * n) ?_ ?_ (9 * n) 0 fu _ (by omega) (by rw [fu_eq]; omega) ⟨w, by rw [← hx1, ← wA_ne x g (show ((3, 0, 0, 1) : Lb) ≠ (3, 0, 0, 3) by decide), wA_self2], fun i hi => absurd hi (Nat.not_lt_zero i), fun _ _ => rfl⟩
    · intro k y j hj hp
      obtain ⟨h, rfl, p1, p2⟩ := hp
      refine Or.inl ⟨wA (wA x (3, 0, 0, 3) g) (3, 0, 0, 1) (upd h j (g j)), ⟨_, rfl, fun i hi => ?_, fun i hi => ?_⟩, ?_⟩
      · by_cases e : i = j
        · rw [e, upd_eq]
        · rw [upd_ne _ e]; exact p1 i (by omega)
      · rw [upd_ne _ (by omega)]; exact p2 i (by omega)
      · have e3 : (wA (wA x (3, 0, 0, 3) g) (3, 0, 0, 1) h).1 (3, 0, 0, 3) = g := by rw [wA_ne _ _ (by decide), wA_self]
        simp (discharger := omega) only [L_X4_sorts_130, e3, wI_wA, bd_e, bo_e, bm_e, bts_l, bts_r, btm_l, btm_r, bp_lt, ck_ib, ck_z, ck_o, ifT, ifF, n10, n01, pv_v, if_pos, if_neg, zI_nat, zI_add, zI_mul, zI_addl, zI_laddl, zI_mull, zI_lmul, zI_subl, zI_pred, zI_le, zI_lt, zI_eq, zI_lel, zI_lle, zI_ltl, zI_llt, zI_eql, zI_leq, zI_ne1, zI_1ne]
    · intro k y hp
      obtain ⟨h, rfl, p1, p2⟩ := hp
      refine ⟨h, ?_, p1, p2⟩
      simp (discharger := omega) only [L_X4_sorts_130, C_X4_sorts_156, Nat.le_refl, bd_e, bo_e, bm_e, bts_l, bts_r, btm_l, btm_r, bp_lt, ck_ib, ck_z, ck_o, ifT, ifF, n10, n01, pv_v, if_pos, if_neg, zI_nat, zI_add, zI_mul, zI_addl, zI_laddl, zI_mull, zI_lmul, zI_subl, zI_pred, zI_le, zI_lt, zI_eq, zI_lel, zI_lle, zI_ltl, zI_llt, zI_eql, zI_leq, zI_ne1, zI_1ne]
  obtain ⟨h, b1, b2, b3⟩ := back
  obtain ⟨g1, g2, g3, g4, g5⟩ := hM
  refine ⟨wA (wA x (3, 0, 0, 3) g) (3, 0, 0, 1) h, h, o1.trans b1, ⟨wA_self _ _ _, ?_, ?_, ?_, ?_⟩, fun i hi => ?_, frm_tr (frm_wA rfl _ _) (frm_wA rfl _ _), ?_, b3⟩
  · rw [wA_ne _ _ (by decide), wA_ne _ _ (by decide)]; exact g2
  · rw [wA_ne _ _ (by decide), wA_ne _ _ (by decide)]; exact g3
  · rw [wA_ne _ _ (by decide), wA_ne _ _ (by decide)]; exact g4
  · rw [wA_ne _ _ (by decide), wA_ne _ _ (by decide)]; exact g5
  · by_cases e : i < 9 * n
    · have ea : i = 9 * (i / 9) + i % 9 := by omega
      rw [b2 i e, show lsW (slp (cls w) n 4) w i = lsW (slp (cls w) n 4) w (9 * (i / 9) + i % 9) by rw [← ea], lsW_row _ _ (by rw [hlen]; omega) (by omega), ← o2 (i / 9) (by rw [hlen]; omega) (i % 9) (by omega), ← ea]
    · rw [b3 i (by omega)]
      unfold lsW
      rw [hlen, if_neg e]
      by_cases e2 : i = 1080
      · rw [if_pos e2, e2, h80]
      · rw [if_neg e2]
  · rw [wA_ne _ _ (by decide), wA_ne _ _ (by decide)]
end QS
