/-! row, the call -/
section QV
variable {m m1 m2 mi x : Mem} {n n0 k L T s q t r p : Nat} {w w1 w2 v tx : Nat → Int32} {pa : Nat → Nat → Int32} {nn TT : Nat → Nat} {l : List Nat}
/-- a row more, behind the others -/
def nwW (w : Nat → Int32) (n t : Nat) : Nat → Int32 := fun i => if i = 1080 then zI (n + 1) else if i = 9 * n then zI t else if 9 * n < i ∧ i < 9 * n + 9 then -100000 else w i
theorem m_newrow (hM : MRel x w k pa L tx) (h80 : w 1080 = zI n) (hn : n < 120) (ht : t < 3) : ∃ x3, J_X4_row_76 (zI t) x = bm (F_X4_sorts x3) (fun _ m18 => L_X4_row_149 (zI t) m18 fu 0 0) ∧ MRel x3 (nwW w n t) k pa L tx ∧ FrM x x3 ∧ x3.1 (3, 0, 0, 0) = x.1 (3, 0, 0, 0) := by
  obtain ⟨g1, g2, g3, g4, g5⟩ := id hM
  have k1 : Int32.toNatClampNeg 1080 = 1080 := rfl
  have k2 : ∀ {α : Type} (y : Option α), ck (ib 1080 1174) y = y := fun _ => rfl
  obtain ⟨x12, hx12⟩ : ∃ x12, x12 = wI x (3, 0, 0, 1) (9 * n) (zI t) := ⟨_, rfl⟩
  have M12 := mrel_1 hM (9 * n) (zI t)
  rw [← hx12] at M12
  have st : J_X4_row_76 (zI t) x = L_X4_row_95 (zI t) fu 0 x12 := by
    simp (discharger := omega) only [J_X4_row_76, k1, k2, g1, h80, bd_e, bo_e, bm_e, bts_l, bts_r, btm_l, btm_r, bp_lt, ck_ib, ck_z, ck_o, ifT, ifF, n10, n01, pv_v, if_pos, if_neg, zI_nat, zI_add, zI_mul, zI_addl, zI_laddl, zI_mull, zI_lmul, zI_subl, zI_pred, zI_le, zI_lt, zI_eq, zI_lel, zI_lle, zI_ltl, zI_llt, zI_eql, zI_leq, zI_ne1, zI_1ne]
    rw [← hx12]
  have loop : ∃ g, L_X4_row_95 (zI t) fu 0 x12 = C_X4_row_129 (zI t) (wA x12 (3, 0, 0, 1) g) ∧ (∀ c, c < 8 → g (9 * n + 1 + c) = -100000) ∧ ∀ i, i < 9 * n + 1 ∨ 9 * n + 9 ≤ i → g i = upd w (9 * n) (zI t) i := by
    refine loop_ex (L := fun k2 (y : Mem) i => L_X4_row_95 (zI t) k2 i y) (P := fun j y => ∃ g, y = wA x12 (3, 0, 0, 1) g ∧ (∀ c, c < j → g (9 * n + 1 + c) = -100000) ∧ ∀ i, i < 9 * n + 1 ∨ 9 * n + 9 ≤ i → g i = upd w (9 * n) (zI t) i) (R := fun y => ∃ g, y = C_X4_row_129 (zI t) (wA x12 (3, 0, 0, 1) g) ∧ (∀ c, c < 8 → g (9 * n + 1 + c) = -100000) ∧ ∀ i, i < 9 * n + 1 ∨ 9 * n + 9 ≤ i → g i = upd w (9 * n) (zI t) i) (n := 8) ?_ ?_ 8 0 fu x12 (by omega) (by rw [fu_eq]; omega) ⟨x12.1 (3, 0, 0, 1), (wA_self2 x12 _).symm, fun c hc => absurd hc (Nat.not_lt_zero c), fun i _ => by rw [M12.1]⟩
    · intro k3 y j hj hp
      obtain ⟨g, rfl, p1, p2⟩ := hp
      have e80 : (wA x12 (3, 0, 0, 1) g).1 (3, 0, 0, 1) 1080 = zI n := by
        rw [wA_self, p2 _ (by omega), upd_ne _ (by omega)]; exact h80
      refine Or.inl ⟨wA x12 (3, 0, 0, 1) (upd g (9 * n + 1 + j) (-100000)), ⟨_, rfl, fun c hc => ?_, fun i hi => ?_⟩, ?_⟩
      · by_cases e : c = j
        · rw [e, upd_eq]
        · rw [upd_ne _ (by omega)]; exact p1 c (by omega)
      · rw [upd_ne _ (by omega)]; exact p2 i hi
      · simp (discharger := omega) only [L_X4_row_95, k1, k2, e80, wI_wA, bd_e, bo_e, bm_e, bts_l, bts_r, btm_l, btm_r, bp_lt, ck_ib, ck_z, ck_o, ifT, ifF, n10, n01, pv_v, if_pos, if_neg, zI_nat, zI_add, zI_mul, zI_addl, zI_laddl, zI_mull, zI_lmul, zI_subl, zI_pred, zI_le, zI_lt, zI_eq, zI_lel, zI_lle, zI_ltl, zI_llt, zI_eql, zI_leq, zI_ne1, zI_1ne]
    · intro k3 y hp
      obtain ⟨g, rfl, p1, p2⟩ := hp
      refine ⟨g, ?_, p1, p2⟩
      simp (discharger := omega) only [L_X4_row_95, Nat.le_refl, bd_e, bo_e, bm_e, bts_l, bts_r, btm_l, btm_r, bp_lt, ck_ib, ck_z, ck_o, ifT, ifF, n10, n01, pv_v, if_pos, if_neg, zI_nat, zI_add, zI_mul, zI_addl, zI_laddl, zI_mull, zI_lmul, zI_subl, zI_pred, zI_le, zI_lt, zI_eq, zI_lel, zI_lle, zI_ltl, zI_llt, zI_eql, zI_leq, zI_ne1, zI_1ne]
  obtain ⟨g, l1, l2, l3⟩ := loop
  have e80 : (wA x12 (3, 0, 0, 1) g).1 (3, 0, 0, 1) 1080 = zI n := by
    rw [wA_self, l3 _ (by omega), upd_ne _ (by omega)]; exact h80
  have eg : upd g 1080 (zI (n + 1)) = fun i => if i = 1080 then zI (n + 1) else g i := rfl
  refine ⟨wA x12 (3, 0, 0, 1) (upd g 1080 (zI (n + 1))), ?_, ?_, ?_, ?_⟩
  · rw [st, l1]
    simp (discharger := omega) only [C_X4_row_129, k1, k2, e80, wI_wA, bd_e, bo_e, bm_e, bts_l, bts_r, btm_l, btm_r, bp_lt, ck_ib, ck_z, ck_o, ifT, ifF, n10, n01, pv_v, if_pos, if_neg, zI_nat, zI_add, zI_mul, zI_addl, zI_laddl, zI_mull, zI_lmul, zI_subl, zI_pred, zI_le, zI_lt, zI_eq, zI_lel, zI_lle, zI_ltl, zI_llt, zI_eql, zI_leq, zI_ne1, zI_1ne]
  · have ew : EQW 130 (upd g 1080 (zI (n + 1))) (nwW w n t) ∧ ∀ i, 1174 ≤ i → True := ⟨fun i hi => by
      unfold nwW
      by_cases h1 : i = 1080
      · rw [if_pos h1, h1, upd_eq]
      · rw [if_neg h1, upd_ne _ h1]
        by_cases h2 : i = 9 * n
        · rw [if_pos h2, l3 _ (by omega), h2, upd_eq]
        · rw [if_neg h2]
          by_cases h3 : 9 * n < i ∧ i < 9 * n + 9
          · rw [if_pos h3]
            have := l2 (i - (9 * n + 1)) (by omega)
            rw [show 9 * n + 1 + (i - (9 * n + 1)) = i by omega] at this
            exact this
          · rw [if_neg h3, l3 _ (by omega), upd_ne _ h2], fun _ _ => trivial⟩
    have ef : upd g 1080 (zI (n + 1)) = nwW w n t := by
      funext i
      by_cases hi : i < 9 * 130 ∨ (1080 ≤ i ∧ i < 1174)
      · exact ew.1 i hi
      · unfold nwW
        rw [upd_ne _ (by omega), if_neg (by omega), if_neg (by omega), if_neg (by omega), l3 _ (by omega), upd_ne _ (by omega)]
    rw [ef]
    obtain ⟨y1, y2, y3, y4, y5⟩ := M12
    exact ⟨wA_self _ _ _, by rw [wA_ne _ _ (by decide)]; exact y2, by rw [wA_ne _ _ (by decide)]; exact y3, by rw [wA_ne _ _ (by decide)]; exact y4, by rw [wA_ne _ _ (by decide)]; exact y5⟩
  · rw [hx12]; exact frm_tr (frm_wI rfl _ _ _) (frm_wA rfl _ _)
  · rw [wA_ne _ _ (by decide), hx12, wI_ne (by decide)]
theorem m_last (h : MW x w2 n0) (hp : p < n0) (h1 : w2 (9 * p) = zI t) (h2 : ∀ r, p < r → r < n0 → w2 (9 * r) ≠ zI t) : L_X4_row_149 (zI t) x fu 0 0 = some (zI p, x) := by
  obtain ⟨g1, g2, g3⟩ := id h
  have k1 : Int32.toNatClampNeg 1080 = 1080 := rfl
  have k2 : ∀ {α : Type} (y : Option α), ck (ib 1080 1174) y = y := fun _ => rfl
  refine loop_ex (L := fun k (a : Int32) i => L_X4_row_149 (zI t) x k a i) (P := fun r a => p < r → a = zI p) (R := fun y => y = some (zI p, x)) (n := n0) ?_ ?_ n0 0 fu 0 (by omega) (by rw [fu_eq]; omega) (fun h => absurd h (Nat.not_lt_zero p))
  · intro k a r hr hpr
    have e1 := m_tenantOf h hr
    refine Or.inl ?_
    by_cases hw : w2 (9 * r) = zI t
    · refine ⟨zI r, fun h3 => ?_, ?_⟩
      · by_cases e : r = p
        · rw [e]
        · exact absurd hw (h2 r (by omega) hr)
      · simp (discharger := omega) only [L_X4_row_149, J_X4_row_175, k1, k2, g1, g2, e1, hw, bd_e, bo_e, bm_e, bts_l, bts_r, btm_l, btm_r, bp_lt, ck_ib, ck_z, ck_o, ifT, ifF, n10, n01, pv_v, if_pos, if_neg, zI_nat, zI_add, zI_mul, zI_addl, zI_laddl, zI_mull, zI_lmul, zI_subl, zI_pred, zI_le, zI_lt, zI_eq, zI_lel, zI_lle, zI_ltl, zI_llt, zI_eql, zI_leq, zI_ne1, zI_1ne]
    · refine ⟨a, fun h3 => ?_, ?_⟩
      · by_cases e : r = p
        · rw [e] at hw; exact absurd h1 hw
        · exact hpr (by omega)
      · simp (discharger := omega) only [L_X4_row_149, J_X4_row_175, k1, k2, g1, g2, e1, hw, bd_e, bo_e, bm_e, bts_l, bts_r, btm_l, btm_r, bp_lt, ck_ib, ck_z, ck_o, ifT, ifF, n10, n01, pv_v, if_pos, if_neg, zI_nat, zI_add, zI_mul, zI_addl, zI_laddl, zI_mull, zI_lmul, zI_subl, zI_pred, zI_le, zI_lt, zI_eq, zI_lel, zI_lle, zI_ltl, zI_llt, zI_eql, zI_leq, zI_ne1, zI_1ne]
  · intro k a hpr
    rw [hpr hp]
    simp (discharger := omega) only [L_X4_row_149, C_X4_row_182, k1, k2, g1, g2, Nat.le_refl, bd_e, bo_e, bm_e, bts_l, bts_r, btm_l, btm_r, bp_lt, ck_ib, ck_z, ck_o, ifT, ifF, n10, n01, pv_v, if_pos, if_neg, zI_nat, zI_add, zI_mul, zI_addl, zI_laddl, zI_mull, zI_lmul, zI_subl, zI_pred, zI_le, zI_lt, zI_eq, zI_lel, zI_lle, zI_ltl, zI_llt, zI_eql, zI_leq, zI_ne1, zI_1ne]
set_option maxHeartbeats 4000000 in
theorem call_row (h : St mi) (pp : Int32) : CallOK (F_L_row pp mi) (fun m' => F_X4_row pp m') := by
  obtain ⟨w, n, T, k, pa, nn, TT, L, tx, hP, hM, hA⟩ := h
  rcases rng3 pp with ⟨t, ht, rfl⟩ | hp
  · have hkk := svK_le hA.2.1
    obtain ⟨i1, i2, i3, i4, i5, i6, i7, i8, i9, i10, i11, i12, i13⟩ := id hA.1
    obtain ⟨q5, m2, e1, e2, e3, e4, e5, e6, e7, e8⟩ := p_save hP hA.2.1 i9 i7
    have hs2 := e5.1 6 (by omega)
    have f3 := (e5.2.2.2.1.2.2.2.2.2.2.1 t ht).1
    have f5 := (e5.2.2.2.1.2.2.2.2.2.2.1 t ht).2.2.1
    have fr := p_rowsOf2 e5.2.2.2.1 ht
    have ftr := p_tableRows e5.2.2.2.1 i7
    have hT := inTb_T i3 i7 i8
    have eo := own_cn w n t
    obtain ⟨lm, hlm, elm⟩ := i10 t ht
    have hcl := cn_le (fun r => decide (w (9 * r) = zI t)) n
    have mF : ∀ m' x2, F_X4_saves (wI m' (3, 0, 0, 0) 6 0) = some ((), x2) → MRel x2 w (svK k) (svF k pa w) L tx → F_X4_row (zI t) m' = (if rwsOf w n t < w (1153 + t) then (if w (1159 + t) = 0 then (if inTb w n = 40 then bm (F_X4_refuses (zI t) 2 x2) fun v41 m42 => some (v41, m42) else J_X4_row_76 (zI t) x2) else J_X4_row_76 (zI t) x2) else bm (F_X4_refuses (zI t) 1 x2) fun v43 m44 => some (v43, m44)) := by
      intro m' x2 o1 o2
      have g1 := o2.1
      have a1 := m_inTable (mw_of o2 hA.1)
      have a2 := m_rowsOf (mw_of o2 hA.1) t
      simp (discharger := omega) only [F_X4_row, m_isT ht, o1, g1, a1, a2, bd_e, bo_e, bm_e, bts_l, bts_r, btm_l, btm_r, bp_lt, ck_ib, ck_z, ck_o, ifT, ifF, n10, n01, pv_v, if_pos, if_neg, zI_nat, zI_add, zI_mul, zI_addl, zI_laddl, zI_mull, zI_lmul, zI_subl, zI_pred, zI_le, zI_lt, zI_eq, zI_lel, zI_lle, zI_ltl, zI_llt, zI_eql, zI_leq, zI_ne1, zI_1ne]
    by_cases hlt : rwsOf w n t < w (1153 + t)
    · have hlt2 : cn (fun r => decide (w (9 * r) = zI t)) n < lm := by
        rw [eo, elm, zI_lt (by omega) (by omega)] at hlt
        exact hlt
      have rt : ∀ t2, t2 < 3 → cn (fun r => decide (w (9 * r) = zI t2)) n ≤ 40 := fun t2 h2 => by
        have := rt_cn hA.1 h2
        rw [cn_range] at this
        exact this
      have hn : n < 120 := by
        have h0 := own_sum w n i3 i1
        have r0 := rt 0 (by omega)
        have r1 := rt 1 (by omega)
        have r2 := rt 2 (by omega)
        rcases (show t = 0 ∨ t = 1 ∨ t = 2 by omega) with rfl | rfl | rfl <;> omega
      have fin : (w (1159 + t) = 0 → T < 40) → F_X3_row (zI t) mi = J_X3_row_68 (zI t) m2 → (∀ m' x2, F_X4_saves (wI m' (3, 0, 0, 0) 6 0) = some ((), x2) → MRel x2 w (svK k) (svF k pa w) L tx → F_X4_row (zI t) m' = J_X4_row_76 (zI t) x2) → CallOK (F_L_row (zI t) mi) (fun m' => F_X4_row (zI t) m') := by
        intro hT40 hF hG
        obtain ⟨p, p1, p2, p3, p4⟩ := p_place e5.2.2.2.1 i13 ht
        obtain ⟨m5, c1, c2, c3, c4, c5, c6⟩ := p_insert e5.2.2.2.1 hn p1 ht
        obtain ⟨w1, hw1⟩ : ∃ w1, w1 = nwW w n t := ⟨_, rfl⟩
        have wr : ∀ i, i < 9 * n → w1 i = w i := fun i hi => by
          rw [hw1]; unfold nwW
          rw [if_neg (by omega), if_neg (by omega), if_neg (by omega)]
        have wn : w1 (9 * n) = zI t := by
          rw [hw1]; unfold nwW
          rw [if_neg (by omega), if_pos rfl]
        have wv : ∀ c, c < 8 → w1 (9 * n + 1 + c) = -100000 := fun c hc => by
          rw [hw1]; unfold nwW
          rw [if_neg (by omega), if_neg (by omega), if_pos (by omega)]
        have wh : ∀ i, 1080 < i → w1 i = w i := fun i hi => by
          rw [hw1]; unfold nwW
          rw [if_neg (by omega), if_neg (by omega), if_neg (by omega)]
        have w80 : w1 1080 = zI (n + 1) := by
          rw [hw1]; unfold nwW
          rw [if_pos rfl]
        have oV : OW w1 (n + 1) := fun r hr => by
          by_cases e : r = n
          · rw [e, wn]; exact ⟨t, ht, rfl⟩
          · rw [wr _ (by omega)]; exact i3 r (by omega)
        have mV : MV w1 := fun t2 h2 => by rw [wh _ (by omega)]; exact i7 t2 h2
        have md : ∀ r, r < n → mvd w1 r = mvd w r := fun r hr => by
          obtain ⟨t2, h2, how⟩ := i3 r hr
          rw [mvd_of h2 how, mvd_of h2 (by rw [wr _ (by omega)]; exact how), wh _ (by omega)]
        have cl : ∀ r, r < n → cls w1 r = cls w r := fun r hr => by
          unfold cls
          rw [md r hr, wr _ (by omega)]
        have cln : cls w1 n = tcl w t := by
          rw [cls_own ht wn]
          unfold tcl
          rw [wh _ (by omega)]
        have hsl : slp (cls w1) (n + 1) 4 = inL p n := inL_slp p1 (fun r hr => cls_lt oV hr) (fun a b h1 h2 => by rw [cl a (by omega), cl b h2]; exact i13 a b h1 h2) (fun r hr => by rw [cl r (by omega), cln]; exact p2 r hr) (fun r h1 h2 => by rw [cl r h2, cln]; exact p3 r h1 h2)
        have hlen := inL_len p1
        have gl : ∀ i, i < (inL p n).length → gt0 (inL p n) i = if i < p then i else if i = p then n else i - 1 := fun i hi => inL_gt p1 (by omega)
        have gm : ∀ i, i < (inL p n).length → gt0 (inL p n) i < n + 1 := fun i hi => by
          rw [gl i hi]
          by_cases a : i < p
          · rw [if_pos a]; omega
          · rw [if_neg a]
            by_cases b : i = p
            · rw [if_pos b]; omega
            · rw [if_neg b]; omega
        have S5 : SR m5.1 (m2.2.1 6) (lsW (inL p n) w1) (inL p n).length := by
          refine sr_list2 (n0 := n + 1) e5.2.2.2.1 (fun i h1 _ => wh i h1) oV (by omega) gm (by rw [c4, hlen]) (fun i hi => ?_) (fun i hi c hc => ?_) c3
          · rw [c5 i (by omega), gl i hi]
            by_cases a : i < p
            · rw [if_pos a, if_pos a, wr _ (by omega)]
            · rw [if_neg a, if_neg a]
              by_cases b : i = p
              · rw [if_pos b, if_pos b, wn]
              · rw [if_neg b, if_neg b, wr _ (by omega)]
          · rw [c6 i (by omega) c hc, gl i hi]
            by_cases a : i < p
            · rw [if_pos a, if_pos a, wr _ (by omega)]
            · rw [if_neg a, if_neg a]
              by_cases b : i = p
              · rw [if_pos b, if_pos b, wv c hc]; rfl
              · rw [if_neg b, if_neg b, wr _ (by omega)]
        obtain ⟨r1, r2⟩ := e5.step hkk.1 c2 S5
        have vS : VS w1 (n + 1) := fun r hr c hc => by
          by_cases e : r = n
          · rw [e, wv c hc]; exact Or.inl rfl
          · rw [wr _ (by omega)]; exact i4 r (by omega) c hc
        have hso : ∀ i j, i < j → j < (inL p n).length → cls w1 (gt0 (inL p n) i) ≤ cls w1 (gt0 (inL p n) j) := by
          intro i j hij hj
          have h2 := List.pairwise_iff_getElem.mp (slp_sorted (cls w1) (n + 1) 4) i j (by rw [hsl]; omega) (by rw [hsl]; exact hj) hij
          simp only [hsl] at h2
          unfold gt0
          rw [List.getD_eq_getElem?_getD, List.getElem?_eq_getElem (by omega), List.getD_eq_getElem?_getD, List.getElem?_eq_getElem hj]
          exact h2
        have cnt : ∀ P : Nat → Bool, (inL p n).countP P = cn P n + (if P n = true then 1 else 0) := fun P => by
          rw [(inL_perm p1).countP_eq, cn_range]; rfl
        obtain ⟨T2, hW⟩ := wi_list (l := inL p n) oV vS (fun t1 h1 c hc c2 hc2 => by
            rw [wh (1081 + 8 * t1 + c) (by omega), wh (1081 + 8 * t1 + c2) (by omega)]; exact i5 t1 h1 c hc c2 hc2) (fun t1 h1 c hc => by rw [wh _ (by omega)]; exact i6 t1 h1 c hc) mV (fun t1 h1 c hc => by rw [wh _ (by omega)]; exact i9 t1 h1 c hc) (fun t1 h1 => by rw [wh _ (by omega)]; exact i10 t1 h1) (by omega) gm hso (fun t1 h1 => by
            rw [cnt, cn_congr (q := fun r => decide (w (9 * r) = zI t1)) (fun r hr => by rw [wr _ (by omega)]), wn]
            by_cases e : t = t1
            · rw [← e, if_pos (decide_eq_true rfl)]; omega
            · rw [if_neg (by rw [decide_eq_true_eq, zI_eq (by omega) (by omega)]; exact e)]
              exact rt t1 h1) (by
            rw [cnt, cn_congr (q := fun r => decide (mvd w r = 0)) (fun r hr => by rw [md r hr]), t_cn hA.1, mvd_of ht wn, wh _ (by omega)]
            by_cases e : w (1159 + t) = 0
            · have := hT40 e
              rw [e, if_pos (decide_eq_true rfl)]; omega
            · rw [if_neg (by rw [decide_eq_true_eq]; exact e)]; exact i12)
        have e : F_X3_row (zI t) mi = some (.inl (zI p), m5) := by
          rw [hF]
          have en := e5.2.2.2.1.2.2.1
          have ei : F_X1_insertRow (m2.2.1 6) (zI t) m2 = some (zI p, m5) := by
            unfold F_X1_insertRow
            rw [en, bd_e, if_pos (by show zI n < zI 120; rw [zI_lt (by omega) (by omega)]; exact hn), p4, c1]
          simp (discharger := omega) only [J_X3_row_68, hs2, ei, bd_e, bo_e, bm_e, bts_l, bts_r, btm_l, btm_r, bp_lt, ck_ib, ck_z, ck_o, ifT, ifF, n10, n01, pv_v, if_pos, if_neg, zI_nat, zI_add, zI_mul, zI_addl, zI_laddl, zI_mull, zI_lmul, zI_subl, zI_pred, zI_le, zI_lt, zI_eq, zI_lel, zI_lle, zI_ltl, zI_llt, zI_eql, zI_leq, zI_ne1, zI_1ne]
        refine ok_val hM e r1 (frp_tr e6 r2) (ainv_w hA.saved hW) (fun m' hm => ?_)
        obtain ⟨x2, u1, u2, u3, u4⟩ := m_pre hm hA.2.1
        obtain ⟨x3, z1, z2, z3, z4⟩ := m_newrow u2 i2 hn ht
        rw [← hw1] at z2
        obtain ⟨x4, w4, y1, y2, y3, y4, y5, y6⟩ := m_sorts z2 (show n + 1 ≤ 120 by omega) w80 oV mV
        rw [hsl] at y3
        have hW4 : MW x4 w4 (n + 1) := ⟨y2.1, by rw [y3 _ (by omega), lsW_n _ (by omega), hlen], by omega⟩
        have own : ∀ i, i < n + 1 → w4 (9 * i) = w1 (9 * (if i < p then i else if i = p then n else i - 1)) := fun i hi => by
          rw [y3 _ (by omega), lsW_row0 _ _ (by omega), gl i (by omega)]
        have last := m_last hW4 (t := t) (p := p) (by omega) (by rw [own p (by omega), if_neg (Nat.lt_irrefl p), if_pos rfl, wn]) (fun r h1 h2 => by
          rw [own r h2, if_neg (by omega), if_neg (by omega), wr _ (by omega)]
          intro hc
          have a1 := p3 (r - 1) (by omega) (by omega)
          rw [cls_own ht hc] at a1
          exact Nat.lt_irrefl _ a1)
        have e9 : F_X4_row (zI t) m' = some (zI p, x4) := by
          rw [hG m' x2 u1 u2, z1, y1, bm_someU]
          exact last
        rw [e9]
        refine ⟨x4, w4, rfl, y2, by rw [hlen]; exact y3, frm_tr u3 (frm_tr z3 y4), ?_⟩
        rw [y5, z4]; exact u4
      rcases i7 t ht with hv | hv
      · by_cases hT4 : T < 40
        · have c40 : inTb w n < 40 := by rw [hT]; show _ < zI 40; rw [zI_lt (by omega) (by omega)]; exact hT4
          have n40 : ¬ inTb w n = 40 := by rw [hT]; show ¬ _ = zI 40; rw [zI_eq (by omega) (by omega)]; omega
          refine fin (fun _ => hT4) ?_ (fun m' x2 o1 o2 => ?_)
          · rw [hv] at f5
            simp (discharger := omega) only [F_X3_row, p_isT ht, p_req1, e1, e2, hs2, fr, f3, hlt, f5, ftr, c40, bd_e, bo_e, bm_e, bts_l, bts_r, btm_l, btm_r, bp_lt, ck_ib, ck_z, ck_o, ifT, ifF, n10, n01, pv_v, if_pos, if_neg, zI_nat, zI_add, zI_mul, zI_addl, zI_laddl, zI_mull, zI_lmul, zI_subl, zI_pred, zI_le, zI_lt, zI_eq, zI_lel, zI_lle, zI_ltl, zI_llt, zI_eql, zI_leq, zI_ne1, zI_1ne]
          · rw [mF m' x2 o1 o2, if_pos hlt, if_pos hv, if_neg n40]
        · have c40 : ¬ inTb w n < 40 := by rw [hT]; show ¬ _ < zI 40; rw [zI_lt (by omega) (by omega)]; exact hT4
          have n40 : inTb w n = 40 := by rw [hT]; show _ = zI 40; rw [zI_eq (by omega) (by omega)]; omega
          refine ok_refuse hM hA ht 2 e5 e6 rfl (fun m3 z => ?_) (fun m' x2 o1 o2 => ?_)
          · rw [hv] at f5
            simp (discharger := omega) only [F_X3_row, p_isT ht, p_req1, e1, e2, hs2, fr, f3, hlt, f5, ftr, c40, z, bd_e, bo_e, bm_e, bts_l, bts_r, btm_l, btm_r, bp_lt, ck_ib, ck_z, ck_o, ifT, ifF, n10, n01, pv_v, if_pos, if_neg, zI_nat, zI_add, zI_mul, zI_addl, zI_laddl, zI_mull, zI_lmul, zI_subl, zI_pred, zI_le, zI_lt, zI_eq, zI_lel, zI_lle, zI_ltl, zI_llt, zI_eql, zI_leq, zI_ne1, zI_1ne]
          · have z := (m_refuse o2 ht 2).1
            rw [mF m' x2 o1 o2, if_pos hlt, if_pos hv, if_pos n40, z]
            rfl
      · have hv0 : ¬ w (1159 + t) = 0 := by rw [hv]; decide
        refine fin (fun h => absurd h hv0) ?_ (fun m' x2 o1 o2 => ?_)
        · rw [hv] at f5
          simp (discharger := omega) only [F_X3_row, p_isT ht, p_req1, e1, e2, hs2, fr, f3, hlt, f5, bd_e, bo_e, bm_e, bts_l, bts_r, btm_l, btm_r, bp_lt, ck_ib, ck_z, ck_o, ifT, ifF, n10, n01, pv_v, if_pos, if_neg, zI_nat, zI_add, zI_mul, zI_addl, zI_laddl, zI_mull, zI_lmul, zI_subl, zI_pred, zI_le, zI_lt, zI_eq, zI_lel, zI_lle, zI_ltl, zI_llt, zI_eql, zI_leq, zI_ne1, zI_1ne]
        · rw [mF m' x2 o1 o2, if_pos hlt, if_neg hv0]
    · refine ok_refuse hM hA ht 1 e5 e6 rfl (fun m3 z => ?_) (fun m' x2 o1 o2 => ?_)
      · simp (discharger := omega) only [F_X3_row, p_isT ht, p_req1, e1, e2, hs2, fr, f3, hlt, z, bd_e, bo_e, bm_e, bts_l, bts_r, btm_l, btm_r, bp_lt, ck_ib, ck_z, ck_o, ifT, ifF, n10, n01, pv_v, if_pos, if_neg, zI_nat, zI_add, zI_mul, zI_addl, zI_laddl, zI_mull, zI_lmul, zI_subl, zI_pred, zI_le, zI_lt, zI_eq, zI_lel, zI_lle, zI_ltl, zI_llt, zI_eql, zI_leq, zI_ne1, zI_1ne]
      · have z := (m_refuse o2 ht 1).1
        rw [mF m' x2 o1 o2, if_neg hlt, z]
        rfl
  · refine ok_err (c := 0) (code := 1) (m1 := mi) hM (by simp (discharger := omega) only [F_X3_row, p_isT0' hp, p_req0, bd_e, bo_e, bm_e, bts_l, bts_r, btm_l, btm_r, bp_lt, ck_ib, ck_z, ck_o, ifT, ifF, n10, n01, pv_v, if_pos, if_neg, zI_nat, zI_add, zI_mul, zI_addl, zI_laddl, zI_mull, zI_lmul, zI_subl, zI_pred, zI_le, zI_lt, zI_eq, zI_lel, zI_lle, zI_ltl, zI_llt, zI_eql, zI_leq, zI_ne1, zI_1ne]) rfl (by decide) hP (frp_rf _) hA (v' := 0) (fun m' hm => ?_)
    have e2 : F_X4_row pp m' = some (0, wI (wI m' (3, 0, 0, 0) 6 0) (3, 0, 0, 0) 6 1) := by
      simp (discharger := omega) only [F_X4_row, m_isT0 hp, m_fails, bd_e, bo_e, bm_e, bts_l, bts_r, btm_l, btm_r, bp_lt, ck_ib, ck_z, ck_o, ifT, ifF, n10, n01, pv_v, if_pos, if_neg, zI_nat, zI_add, zI_mul, zI_addl, zI_laddl, zI_mull, zI_lmul, zI_subl, zI_pred, zI_le, zI_lt, zI_eq, zI_lel, zI_lle, zI_ltl, zI_llt, zI_eql, zI_leq, zI_ne1, zI_1ne]
    rw [e2]
    exact mok_fail hm 1
end QV
