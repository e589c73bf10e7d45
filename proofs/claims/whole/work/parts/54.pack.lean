/-! pack -/
section QX
variable {m m1 m2 mi x : Mem} {n n0 k L T s q t r p c d : Nat} {w w1 w2 v tx : Nat → Int32} {pa : Nat → Nat → Int32} {nn TT : Nat → Nat}
/-- what column c means goes to column d -/
def clW (w : Nat → Int32) (t c d : Nat) : Nat → Int32 := upd (upd (upd (upd (upd w (1081 + 8 * t + c) (-1)) (1081 + 8 * t + d) (w (1081 + 8 * t + c))) (1105 + 8 * t + d) (w (1105 + 8 * t + c))) (1129 + 8 * t + c) 0) (1129 + 8 * t + d) (w (1129 + 8 * t + c))
def mvW (w : Nat → Int32) (n t c d : Nat) : Nat → Int32 := shW (clW w t c d) n t (c + 1) (d + 1)
theorem clW_f (ht : t < 3) (hc : c < 8) (hd : d < c) : clW w t c d (1081 + 8 * t + d) = w (1081 + 8 * t + c) ∧ clW w t c d (1105 + 8 * t + d) = w (1105 + 8 * t + c) ∧ clW w t c d (1129 + 8 * t + d) = w (1129 + 8 * t + c) ∧ clW w t c d (1081 + 8 * t + c) = -1 ∧ clW w t c d (1129 + 8 * t + c) = 0 ∧ ∀ i, i ≠ 1081 + 8 * t + d → i ≠ 1105 + 8 * t + d → i ≠ 1129 + 8 * t + d → i ≠ 1081 + 8 * t + c → i ≠ 1129 + 8 * t + c → clW w t c d i = w i := by
  unfold clW
  refine ⟨?_, ?_, ?_, ?_, ?_, fun i h1 h2 h3 h4 h5 => ?_⟩
  · rw [upd_ne _ (by omega), upd_ne _ (by omega), upd_ne _ (by omega), upd_eq]
  · rw [upd_ne _ (by omega), upd_ne _ (by omega), upd_eq]
  · rw [upd_eq]
  · rw [upd_ne _ (by omega), upd_ne _ (by omega), upd_ne _ (by omega), upd_ne _ (by omega), upd_eq]
  · rw [upd_ne _ (by omega), upd_eq]
  · rw [upd_ne _ h3, upd_ne _ h5, upd_ne _ h2, upd_ne _ h1, upd_ne _ h4]
theorem wi_cl (h : WI w n T) (ht : t < 3) (hc : c < 8) (hd : d < c) (hl : w (1081 + 8 * t + c) ≠ -1) : WI (clW w t c d) n T := by
  obtain ⟨f1, f2, f3, f4, f5, f6⟩ := clW_f (w := w) ht hc hd
  obtain ⟨i1, i2, i3, i4, i5, i6, i7, i8, i9, -⟩ := id h
  have h1 : WI (upd (upd w (1081 + 8 * t + c) (-1)) (1129 + 8 * t + c) 0) n T := wi_cell h ht hc (Or.inl (by rw [upd_ne _ (by omega), upd_eq])) (Or.inl (by rw [upd_eq])) (fun i a _ b => by rw [upd_ne _ b, upd_ne _ a])
  refine wi_cell h1 ht (show d < 8 by omega) (Or.inr ⟨?_, fun c2 h2 h3 => ?_⟩) (by rw [f3]; exact i9 t ht c hc) (fun i a b e => ?_)
  · rw [f1]
    rcases i6 t ht c hc with h | h
    · exact absurd h hl
    · exact h
  · rw [f1, upd_ne _ (by omega)]
    by_cases e : c2 = c
    · rw [e, upd_eq]; exact fun h => hl h.symm
    · rw [upd_ne _ (by omega)]
      intro h4
      exact e (i5 t ht c2 h2 c hc h4 (by rw [h4]; exact hl))
  · by_cases e1 : i = 1081 + 8 * t + c
    · rw [e1, f4, upd_ne _ (by omega), upd_eq]
    · by_cases e2 : i = 1129 + 8 * t + c
      · rw [e2, f5, upd_eq]
      · rw [f6 i a b e e1 e2, upd_ne _ e2, upd_ne _ e1]
theorem wi_mv (h : WI w n T) (ht : t < 3) (hc : c < 8) (hd : d < c) (hl : w (1081 + 8 * t + c) ≠ -1) : WI (mvW w n t c d) n T := wi_shift (wi_cl h ht hc hd hl) hc (Or.inr (by omega))
/-- the class moves a column -/
theorem p_mv (h : SR m.1 s w n) (hi : IX w) (ht : t < 3) (hc : c < 8) (hd : d < c) (hl : w (1081 + 8 * t + c) ≠ -1) : ∃ m3, F_X1_shiftValues s (zI t) (zI c) (zI d) (defM (defM m s t d (w (1081 + 8 * t + c)) (w (1105 + 8 * t + c)) (w (1129 + 8 * t + c))) s t c (-1) 0 0) = some ((), m3) ∧ FrT s m m3 ∧ SR m3.1 s (mvW w n t c d) n := by
  obtain ⟨f1, f2, f3, f4, f5, f6⟩ := clW_f (w := w) ht hc hd
  obtain ⟨wa, hwa⟩ : ∃ wa, wa = upd (upd (upd w (1081 + 8 * t + d) (w (1081 + 8 * t + c))) (1105 + 8 * t + d) (w (1105 + 8 * t + c))) (1129 + 8 * t + d) (w (1129 + 8 * t + c)) := ⟨_, rfl⟩
  have SA : SR (defM m s t d (w (1081 + 8 * t + c)) (w (1105 + 8 * t + c)) (w (1129 + 8 * t + c))).1 s wa n := sr_def h ht (show d < 8 by omega) (by rw [hwa, upd_ne _ (by omega), upd_ne _ (by omega), upd_eq]) (by rw [hwa, upd_eq]) (fun _ => by rw [hwa, upd_ne _ (by omega), upd_eq]) (fun i a b e => by rw [hwa, upd_ne _ e, upd_ne _ b, upd_ne _ a])
  have SB : SR (defM (defM m s t d (w (1081 + 8 * t + c)) (w (1105 + 8 * t + c)) (w (1129 + 8 * t + c))) s t c (-1) 0 0).1 s (clW w t c d) n := sr_def SA ht hc f4 f5 (fun h => absurd rfl h) (fun i a b e => by
    rw [hwa]
    by_cases e1 : i = 1081 + 8 * t + d
    · rw [e1, f1, upd_ne _ (by omega), upd_ne _ (by omega), upd_eq]
    · by_cases e2 : i = 1105 + 8 * t + d
      · rw [e2, f2, upd_ne _ (by omega), upd_eq]
      · by_cases e3 : i = 1129 + 8 * t + d
        · rw [e3, f3, upd_eq]
        · rw [f6 i e1 e2 e3 a e, upd_ne _ e3, upd_ne _ e2, upd_ne _ e1])
  obtain ⟨m3, o1, o2, o3⟩ := p_shift (to := zI d) (tk := d + 1) SB ht hc (Or.inr ⟨d, by omega, by omega, rfl, rfl⟩)
  exact ⟨m3, o1, ((frt_def m s t d _ _ _).tr (frt_def _ s t c _ _ _)).tr o2, o3⟩
/-- the reference moves a column -/
theorem m_mv (hM : MRel x w k pa L tx) (h80 : w 1080 = zI n) (hn : n ≤ 120) (ht : t < 3) (hc : c < 8) (hd : d < c) : ∃ x2, F_X4_shifts (zI t) (zI c) (zI d) x = some ((), x2) ∧ MRel x2 (mvW w n t c d) k pa L tx ∧ FrM x x2 ∧ x2.1 (3, 0, 0, 0) = x.1 (3, 0, 0, 0) := by
  have k1 : Int32.toNatClampNeg 1080 = 1080 := rfl
  have k2 : ∀ {α : Type} (y : Option α), ck (ib 1080 1174) y = y := fun _ => rfl
  have g1 := hM.1
  obtain ⟨x7, hx7⟩ : ∃ x7, x7 = wI x (3, 0, 0, 1) (1081 + 8 * t + c) (-1) := ⟨_, rfl⟩
  obtain ⟨x8, hx8⟩ : ∃ x8, x8 = wI x7 (3, 0, 0, 1) (1081 + 8 * t + d) (w (1081 + 8 * t + c)) := ⟨_, rfl⟩
  obtain ⟨x14, hx14⟩ : ∃ x14, x14 = wI x8 (3, 0, 0, 1) (1105 + 8 * t + d) (w (1105 + 8 * t + c)) := ⟨_, rfl⟩
  obtain ⟨x20, hx20⟩ : ∃ x20, x20 = wI x14 (3, 0, 0, 1) (1129 + 8 * t + c) 0 := ⟨_, rfl⟩
  obtain ⟨x21, hx21⟩ : ∃ x21, x21 = wI x20 (3, 0, 0, 1) (1129 + 8 * t + d) (w (1129 + 8 * t + c)) := ⟨_, rfl⟩
  have M21 : MRel x21 (clW w t c d) k pa L tx := by
    rw [hx21, hx20, hx14, hx8, hx7]
    exact mrel_1 (mrel_1 (mrel_1 (mrel_1 (mrel_1 hM _ _) _ _) _ _) _ _) _ _
  have F21 : FrM x x21 := by
    rw [hx21, hx20, hx14, hx8, hx7]
    exact frm_tr (frm_tr (frm_tr (frm_tr (frm_wI rfl _ _ _) (frm_wI rfl _ _ _)) (frm_wI rfl _ _ _)) (frm_wI rfl _ _ _)) (frm_wI rfl _ _ _)
  have z21 : x21.1 (3, 0, 0, 0) = x.1 (3, 0, 0, 0) := by
    rw [hx21, hx20, hx14, hx8, hx7, wI_ne (by decide), wI_ne (by decide), wI_ne (by decide), wI_ne (by decide), wI_ne (by decide)]
  have g8 : x8.1 (3, 0, 0, 1) (1105 + 8 * t + c) = w (1105 + 8 * t + c) := by
    rw [hx8, wI_eq, upd_ne _ (by omega), hx7, wI_eq, upd_ne _ (by omega), g1]
  have g14 : x14.1 (3, 0, 0, 1) (1129 + 8 * t + c) = w (1129 + 8 * t + c) := by
    rw [hx14, wI_eq, upd_ne _ (by omega), hx8, wI_eq, upd_ne _ (by omega), hx7, wI_eq, upd_ne _ (by omega), g1]
  have st : F_X4_shifts (zI t) (zI c) (zI d) x = L_X4_shifts_87 (zI t) (zI c) (zI d) fu 0 x21 := by
    simp (discharger := omega) only [F_X4_shifts, F_X4_changes, g1, bd_e, bo_e, bm_e, bts_l, bts_r, btm_l, btm_r, bp_lt, ck_ib, ck_z, ck_o, ifT, ifF, n10, n01, pv_v, if_pos, if_neg, zI_nat, zI_add, zI_mul, zI_addl, zI_laddl, zI_mull, zI_lmul, zI_subl, zI_pred, zI_le, zI_lt, zI_eq, zI_lel, zI_lle, zI_ltl, zI_llt, zI_eql, zI_leq, zI_ne1, zI_1ne]
    rw [← hx7, ← hx8]
    simp (discharger := omega) only [g8, bd_e, bo_e, bm_e, bts_l, bts_r, btm_l, btm_r, bp_lt, ck_ib, ck_z, ck_o, ifT, ifF, n10, n01, pv_v, if_pos, if_neg, zI_nat, zI_add, zI_mul, zI_addl, zI_laddl, zI_mull, zI_lmul, zI_subl, zI_pred, zI_le, zI_lt, zI_eq, zI_lel, zI_lle, zI_ltl, zI_llt, zI_eql, zI_leq, zI_ne1, zI_1ne]
    rw [← hx14]
    simp (discharger := omega) only [g14, bd_e, bo_e, bm_e, bts_l, bts_r, btm_l, btm_r, bp_lt, ck_ib, ck_z, ck_o, ifT, ifF, n10, n01, pv_v, if_pos, if_neg, zI_nat, zI_add, zI_mul, zI_addl, zI_laddl, zI_mull, zI_lmul, zI_subl, zI_pred, zI_le, zI_lt, zI_eq, zI_lel, zI_lle, zI_ltl, zI_llt, zI_eql, zI_leq, zI_ne1, zI_1ne]
    rw [← hx20, ← hx21]
  have h80c : clW w t c d 1080 = zI n := by
    rw [(clW_f (w := w) ht hc hd).2.2.2.2.2 1080 (by omega) (by omega) (by omega) (by omega) (by omega)]; exact h80
  unfold mvW
  generalize clW w t c d = W at *
  have gW := M21.1
  have loop : ∃ g, L_X4_shifts_87 (zI t) (zI c) (zI d) fu 0 x21 = some ((), wA x21 (3, 0, 0, 1) g) ∧ ∀ i, g i = shW W n t (c + 1) (d + 1) i := by
    refine loop_ex (L := fun k (y : Mem) i => L_X4_shifts_87 (zI t) (zI c) (zI d) k i y) (P := fun j y => ∃ g, y = wA x21 (3, 0, 0, 1) g ∧ ∀ i, g i = if i < 9 * j then shR W t (c + 1) (d + 1) i else W i) (R := fun o => ∃ g, o = some ((), wA x21 (3, 0, 0, 1) g) ∧ ∀ i, g i = shW W n t (c + 1) (d + 1) i) (n := n) ?_ ?_ n 0 fu x21 (by omega) (by rw [fu_eq]; omega) ⟨x21.1 (3, 0, 0, 1), (wA_self2 x21 _).symm, fun i => by rw [if_neg (by omega), gW]⟩
    · intro k3 y r hr hp
      obtain ⟨g, rfl, p3⟩ := hp
      refine Or.inl ?_
      have y1 : (wA x21 (3, 0, 0, 1) g).1 (3, 0, 0, 1) = g := wA_self _ _ _
      have e80 : g 1080 = zI n := by rw [p3, if_neg (by omega)]; exact h80c
      have eo : g (9 * r) = W (9 * r) := by rw [p3, if_neg (by omega)]
      have ev : g (9 * r + 1 + c) = W (9 * r + 1 + c) := by rw [p3, if_neg (by omega)]
      have to : F_X4_tenantOf (zI r) (wA x21 (3, 0, 0, 1) g) = some (W (9 * r)) := by
        simp (discharger := omega) only [F_X4_tenantOf, y1, eo, bd_e, bo_e, bm_e, bts_l, bts_r, btm_l, btm_r, bp_lt, ck_ib, ck_z, ck_o, ifT, ifF, n10, n01, pv_v, if_pos, if_neg, zI_nat, zI_add, zI_mul, zI_addl, zI_laddl, zI_mull, zI_lmul, zI_subl, zI_pred, zI_le, zI_lt, zI_eq, zI_lel, zI_lle, zI_ltl, zI_llt, zI_eql, zI_leq, zI_ne1, zI_1ne]
      by_cases hw : W (9 * r) = zI t
      · refine ⟨wA x21 (3, 0, 0, 1) (upd (upd g (9 * r + 1 + c) (-100000)) (9 * r + 1 + d) (W (9 * r + 1 + c))), ⟨_, rfl, fun i => ?_⟩, ?_⟩
        · by_cases e : i = 9 * r + 1 + d
          · rw [e, upd_eq, if_pos (by omega), show 9 * r + 1 + d = 9 * r + (1 + d) by omega, shR_row _ _ _ _ (by omega), if_pos hw, if_neg (by omega), if_pos (by omega), show 9 * r + (c + 1) = 9 * r + 1 + c by omega]
          · rw [upd_ne _ e]
            by_cases e0 : i = 9 * r + 1 + c
            · rw [e0, upd_eq, if_pos (by omega), show 9 * r + 1 + c = 9 * r + (1 + c) by omega, shR_row _ _ _ _ (by omega), if_pos hw, if_pos (by omega)]
            · rw [upd_ne _ e0, p3]
              by_cases e1 : i < 9 * r
              · rw [if_pos e1, if_pos (by omega)]
              · rw [if_neg e1]
                by_cases e2 : i < 9 * (r + 1)
                · rw [if_pos e2, show i = 9 * r + i % 9 by omega, shR_row _ _ _ _ (by omega), if_pos hw, if_neg (by omega), if_neg (by omega)]
                · rw [if_neg e2]
        · simp (discharger := omega) only [L_X4_shifts_87, k1, k2, y1, e80, to, hw, F_X4_changes, ev, J_X4_shifts_139, wI_wA, bd_e, bo_e, bm_e, bts_l, bts_r, btm_l, btm_r, bp_lt, ck_ib, ck_z, ck_o, ifT, ifF, n10, n01, pv_v, if_pos, if_neg, zI_nat, zI_add, zI_mul, zI_addl, zI_laddl, zI_mull, zI_lmul, zI_subl, zI_pred, zI_le, zI_lt, zI_eq, zI_lel, zI_lle, zI_ltl, zI_llt, zI_eql, zI_leq, zI_ne1, zI_1ne]
      · refine ⟨wA x21 (3, 0, 0, 1) g, ⟨g, rfl, fun i => ?_⟩, ?_⟩
        · rw [p3]
          by_cases e1 : i < 9 * r
          · rw [if_pos e1, if_pos (by omega)]
          · rw [if_neg e1]
            by_cases e2 : i < 9 * (r + 1)
            · rw [if_pos e2, show i = 9 * r + i % 9 by omega, shR_row _ _ _ _ (by omega), if_neg hw]
            · rw [if_neg e2]
        · simp (discharger := omega) only [L_X4_shifts_87, k1, k2, y1, e80, to, hw, J_X4_shifts_139, bd_e, bo_e, bm_e, bts_l, bts_r, btm_l, btm_r, bp_lt, ck_ib, ck_z, ck_o, ifT, ifF, n10, n01, pv_v, if_pos, if_neg, zI_nat, zI_add, zI_mul, zI_addl, zI_laddl, zI_mull, zI_lmul, zI_subl, zI_pred, zI_le, zI_lt, zI_eq, zI_lel, zI_lle, zI_ltl, zI_llt, zI_eql, zI_leq, zI_ne1, zI_1ne]
    · intro k3 y hp
      obtain ⟨g, rfl, p3⟩ := hp
      have y1 : (wA x21 (3, 0, 0, 1) g).1 (3, 0, 0, 1) = g := wA_self _ _ _
      have e80 : g 1080 = zI n := by rw [p3, if_neg (by omega)]; exact h80c
      refine ⟨g, ?_, p3⟩
      simp (discharger := omega) only [L_X4_shifts_87, C_X4_shifts_145, k1, k2, y1, e80, Nat.le_refl, bd_e, bo_e, bm_e, bts_l, bts_r, btm_l, btm_r, bp_lt, ck_ib, ck_z, ck_o, ifT, ifF, n10, n01, pv_v, if_pos, if_neg, zI_nat, zI_add, zI_mul, zI_addl, zI_laddl, zI_mull, zI_lmul, zI_subl, zI_pred, zI_le, zI_lt, zI_eq, zI_lel, zI_lle, zI_ltl, zI_llt, zI_eql, zI_leq, zI_ne1, zI_1ne]
  obtain ⟨g, l1, l2⟩ := loop
  refine ⟨wA x21 (3, 0, 0, 1) g, st.trans l1, ?_, frm_tr F21 (frm_wA rfl _ _), by rw [wA_ne _ _ (by decide)]; exact z21⟩
  obtain ⟨y1, y2, y3, y4, y5⟩ := M21
  exact ⟨by rw [wA_self]; exact funext l2, by rw [wA_ne _ _ (by decide)]; exact y2, by rw [wA_ne _ _ (by decide)]; exact y3, by rw [wA_ne _ _ (by decide)]; exact y4, by rw [wA_ne _ _ (by decide)]; exact y5⟩
/-- packing, a column a step: where it goes next, how many went, the array -/
def pkS (n t : Nat) (c : Nat) (a : Nat × Nat × (Nat → Int32)) : Nat × Nat × (Nat → Int32) := if a.2.2 (1081 + 8 * t + c) = -1 then a else if c ≤ a.1 then (a.1 + 1, a.2.1, a.2.2) else (a.1 + 1, a.2.1 + 1, mvW a.2.2 n t c a.1)
def pkF (w : Nat → Int32) (n t c : Nat) : Nat × Nat × (Nat → Int32) := fo (pkS n t) c (0, 0, w)
theorem pk_inv (h : WI w n T) (ht : t < 3) : ∀ c, c ≤ 8 → WI (pkF w n t c).2.2 n T ∧ (pkF w n t c).1 ≤ c ∧ (pkF w n t c).2.1 ≤ c := by
  intro c
  induction c with
  | zero => exact fun _ => ⟨h, Nat.le_refl 0, Nat.le_refl 0⟩
  | succ c ih =>
    intro hc
    obtain ⟨h1, h2, h3⟩ := ih (by omega)
    show WI (pkS n t c (pkF w n t c)).2.2 n T ∧ (pkS n t c (pkF w n t c)).1 ≤ c + 1 ∧ (pkS n t c (pkF w n t c)).2.1 ≤ c + 1
    unfold pkS
    by_cases e : (pkF w n t c).2.2 (1081 + 8 * t + c) = -1
    · rw [if_pos e]; exact ⟨h1, by omega, by omega⟩
    · rw [if_neg e]
      by_cases e2 : c ≤ (pkF w n t c).1
      · rw [if_pos e2]; exact ⟨h1, by show (pkF w n t c).1 + 1 ≤ c + 1; omega, by show (pkF w n t c).2.1 ≤ c + 1; omega⟩
      · rw [if_neg e2]
        exact ⟨wi_mv h1 ht (by omega) (by omega) e, by show (pkF w n t c).1 + 1 ≤ c + 1; omega, by show (pkF w n t c).2.1 + 1 ≤ c + 1; omega⟩
theorem call_pack (h : St mi) (p : Int32) : CallOK (F_L_pack p mi) (fun m' => F_X4_pack p m') := by
  obtain ⟨w, n, T, k, pa, nn, TT, L, tx, hP, hM, hA⟩ := h
  rcases rng3 p with ⟨t, ht, rfl⟩ | hp
  · have hkk := svK_le hA.2.1
    obtain ⟨i1, i2, i3, i4, i5, i6, i7, i8, i9, i10, i11, i12⟩ := id hA.1
    obtain ⟨q5, m2, e1, e2, e3, e4, e5, e6, e7, e8⟩ := p_save hP hA.2.1 i9 i7
    have hs2 := e5.1 6 (by omega)
    have inv := pk_inv hA.1 ht
    have loop : ∃ m3, L_X3_pack_30 (zI t) (m2.2.1 6) t fu 0 0 0 m2 = some (.inl (zI (pkF w n t 8).2.1), m3) ∧ FrT (m2.2.1 6) m2 m3 ∧ SR m3.1 (m2.2.1 6) (pkF w n t 8).2.2 n := by
      refine loop_ex (L := fun k (a : Nat × Nat × Mem) i => L_X3_pack_30 (zI t) (m2.2.1 6) t k (zI a.1) (zI a.2.1) i a.2.2) (P := fun c a => a.1 = (pkF w n t c).1 ∧ a.2.1 = (pkF w n t c).2.1 ∧ FrT (m2.2.1 6) m2 a.2.2 ∧ SR a.2.2.1 (m2.2.1 6) (pkF w n t c).2.2 n) (R := fun o => ∃ m3, o = some (.inl (zI (pkF w n t 8).2.1), m3) ∧ FrT (m2.2.1 6) m2 m3 ∧ SR m3.1 (m2.2.1 6) (pkF w n t 8).2.2 n) (n := 8) ?_ ?_ 8 0 fu (0, 0, m2) (by omega) (by rw [fu_eq]; omega) ⟨rfl, rfl, frt_rf _ _, e5.2.2.2.1⟩
      · rintro k ⟨a, b, y⟩ c hc ⟨p1, p2, p3, p4⟩
        simp only at p1 p2 p3 p4
        refine Or.inl ?_
        obtain ⟨j1, j2, j3⟩ := inv c (by omega)
        have st : pkF w n t (c + 1) = pkS n t c (pkF w n t c) := rfl
        rw [← p1] at j2
        rw [← p2] at j3
        have y1 := (p4.2.2.2.2.2.1 t ht c hc).1
        have y3 := (p4.2.2.2.2.2.1 t ht c hc).2.1
        have y2 := (p4.2.2.2.2.2.1 t ht c hc).2.2
        have ys : y.2.1 6 = m2.2.1 6 := by rw [p3.2]
        by_cases e : (pkF w n t c).2.2 (1081 + 8 * t + c) = -1
        · have s1 : pkF w n t (c + 1) = pkF w n t c := by rw [st]; unfold pkS; rw [if_pos e]
          rw [s1]
          refine ⟨(a, b, y), ⟨p1, p2, p3, p4⟩, ?_⟩
          simp (discharger := omega) only [L_X3_pack_30, y1, e, J_X3_pack_103, bd_e, bo_e, bm_e, bts_l, bts_r, btm_l, btm_r, bp_lt, ck_ib, ck_z, ck_o, ifT, ifF, n10, n01, pv_v, if_pos, if_neg, zI_nat, zI_add, zI_mul, zI_addl, zI_laddl, zI_mull, zI_lmul, zI_subl, zI_pred, zI_le, zI_lt, zI_eq, zI_lel, zI_lle, zI_ltl, zI_llt, zI_eql, zI_leq, zI_ne1, zI_1ne]
        · by_cases e2c : c ≤ (pkF w n t c).1
          · have s1 : pkF w n t (c + 1) = ((pkF w n t c).1 + 1, (pkF w n t c).2.1, (pkF w n t c).2.2) := by rw [st]; unfold pkS; rw [if_neg e, if_pos e2c]
            rw [s1]
            refine ⟨(a + 1, b, y), ⟨by rw [← p1], p2, p3, p4⟩, ?_⟩
            rw [← p1] at e2c
            simp (discharger := omega) only [L_X3_pack_30, y1, e, e2c, J_X3_pack_103, J_X3_pack_100, bd_e, bo_e, bm_e, bts_l, bts_r, btm_l, btm_r, bp_lt, ck_ib, ck_z, ck_o, ifT, ifF, n10, n01, pv_v, if_pos, if_neg, zI_nat, zI_add, zI_mul, zI_addl, zI_laddl, zI_mull, zI_lmul, zI_subl, zI_pred, zI_le, zI_lt, zI_eq, zI_lel, zI_lle, zI_ltl, zI_llt, zI_eql, zI_leq, zI_ne1, zI_1ne]
          · have s1 : pkF w n t (c + 1) = ((pkF w n t c).1 + 1, (pkF w n t c).2.1 + 1, mvW (pkF w n t c).2.2 n t c (pkF w n t c).1) := by rw [st]; unfold pkS; rw [if_neg e, if_neg e2c]
            rw [s1]
            rw [← p1] at e2c ⊢
            have y2' := y2 e
            have jx := j1.2.2.2.2.2.2.2.2.1
            obtain ⟨m3, c1, c2, c3⟩ := p_mv p4 jx ht hc (show a < c by omega) e
            have hd1 := p_define (m := y) (i0 := m2.2.1 6) (j0 := t) (c := a) (by omega) (jx t ht c hc) ((pkF w n t c).2.2 (1081 + 8 * t + c)) ((pkF w n t c).2.2 (1105 + 8 * t + c))
            have hd2 := fun z => p_define (m := z) (i0 := m2.2.1 6) (j0 := t) (c := c) (by omega) (v := 0) (Or.inl rfl) (-1) 0
            refine ⟨(a + 1, b + 1, m3), ⟨rfl, by rw [← p2], p3.tr c2, c3⟩, ?_⟩
            unfold defM at c1
            have zs : ∀ (z : Mem) lb i v, (wI z lb i v).2.1 6 = z.2.1 6 := fun _ _ _ _ => rfl
            simp (discharger := omega) only [L_X3_pack_30, y1, y2', y3, e, e2c, hd1, F_X2_makeSpare, hd2, zs, ys, hs2, c1, J_X3_pack_103, J_X3_pack_100, bd_e, bo_e, bm_e, bts_l, bts_r, btm_l, btm_r, bp_lt, ck_ib, ck_z, ck_o, ifT, ifF, n10, n01, pv_v, if_pos, if_neg, zI_nat, zI_add, zI_mul, zI_addl, zI_laddl, zI_mull, zI_lmul, zI_subl, zI_pred, zI_le, zI_lt, zI_eq, zI_lel, zI_lle, zI_ltl, zI_llt, zI_eql, zI_leq, zI_ne1, zI_1ne]
      · rintro k ⟨a, b, y⟩ ⟨p1, p2, p3, p4⟩
        simp only at p1 p2 p3 p4
        refine ⟨y, ?_, p3, p4⟩
        rw [← p2]
        simp (discharger := omega) only [L_X3_pack_30, C_X3_pack_109, Nat.le_refl, bd_e, bo_e, bm_e, bts_l, bts_r, btm_l, btm_r, bp_lt, ck_ib, ck_z, ck_o, ifT, ifF, n10, n01, pv_v, if_pos, if_neg, zI_nat, zI_add, zI_mul, zI_addl, zI_laddl, zI_mull, zI_lmul, zI_subl, zI_pred, zI_le, zI_lt, zI_eq, zI_lel, zI_lle, zI_ltl, zI_llt, zI_eql, zI_leq, zI_ne1, zI_1ne]
    obtain ⟨m3, l1, l2, l3⟩ := loop
    obtain ⟨r1, r2⟩ := e5.step hkk.1 l2 l3
    have e : F_X3_pack (zI t) mi = some (.inl (zI (pkF w n t 8).2.1), m3) := by
      simp (discharger := omega) only [F_X3_pack, p_isT ht, p_req1, e1, e2, hs2, bd_e, bo_e, bm_e, bts_l, bts_r, btm_l, btm_r, bp_lt, ck_ib, ck_z, ck_o, ifT, ifF, n10, n01, pv_v, if_pos, if_neg, zI_nat, zI_add, zI_mul, zI_addl, zI_laddl, zI_mull, zI_lmul, zI_subl, zI_pred, zI_le, zI_lt, zI_eq, zI_lel, zI_lle, zI_ltl, zI_llt, zI_eql, zI_leq, zI_ne1, zI_1ne]
      exact l1
    refine ok_val hM e r1 (frp_tr e6 r2) (ainv_w hA.saved (inv 8 (Nat.le_refl 8)).1) (fun m' hm => ?_)
    obtain ⟨x2, o1, o2, o3, o4⟩ := m_pre hm hA.2.1
    have loop2 : ∃ x3, L_X4_pack_29 (zI t) fu 0 0 0 x2 = some (zI (pkF w n t 8).2.1, x3) ∧ MRel x3 (pkF w n t 8).2.2 (svK k) (svF k pa w) L tx ∧ FrM x2 x3 ∧ x3.1 (3, 0, 0, 0) = x2.1 (3, 0, 0, 0) := by
      refine loop_ex (L := fun k (a : Nat × Nat × Mem) i => L_X4_pack_29 (zI t) k (zI a.1) (zI a.2.1) i a.2.2) (P := fun c a => a.1 = (pkF w n t c).1 ∧ a.2.1 = (pkF w n t c).2.1 ∧ MRel a.2.2 (pkF w n t c).2.2 (svK k) (svF k pa w) L tx ∧ FrM x2 a.2.2 ∧ a.2.2.1 (3, 0, 0, 0) = x2.1 (3, 0, 0, 0)) (R := fun o => ∃ x3, o = some (zI (pkF w n t 8).2.1, x3) ∧ MRel x3 (pkF w n t 8).2.2 (svK k) (svF k pa w) L tx ∧ FrM x2 x3 ∧ x3.1 (3, 0, 0, 0) = x2.1 (3, 0, 0, 0)) (n := 8) ?_ ?_ 8 0 fu (0, 0, x2) (by omega) (by rw [fu_eq]; omega) ⟨rfl, rfl, o2, ⟨fun _ _ => rfl, rfl⟩, rfl⟩
      · rintro k3 ⟨a, b, y⟩ c hc ⟨p1, p2, p3, p4, p5⟩
        simp only at p1 p2 p3 p4 p5
        refine Or.inl ?_
        obtain ⟨j1, j2, j3⟩ := inv c (by omega)
        have st : pkF w n t (c + 1) = pkS n t c (pkF w n t c) := rfl
        rw [← p1] at j2
        rw [← p2] at j3
        have y1 := p3.1
        by_cases e : (pkF w n t c).2.2 (1081 + 8 * t + c) = -1
        · have s1 : pkF w n t (c + 1) = pkF w n t c := by rw [st]; unfold pkS; rw [if_pos e]
          rw [s1]
          refine ⟨(a, b, y), ⟨p1, p2, p3, p4, p5⟩, ?_⟩
          simp (discharger := omega) only [L_X4_pack_29, y1, e, J_X4_pack_76, bd_e, bo_e, bm_e, bts_l, bts_r, btm_l, btm_r, bp_lt, ck_ib, ck_z, ck_o, ifT, ifF, n10, n01, pv_v, if_pos, if_neg, zI_nat, zI_add, zI_mul, zI_addl, zI_laddl, zI_mull, zI_lmul, zI_subl, zI_pred, zI_le, zI_lt, zI_eq, zI_lel, zI_lle, zI_ltl, zI_llt, zI_eql, zI_leq, zI_ne1, zI_1ne]
        · by_cases e2c : c ≤ (pkF w n t c).1
          · have s1 : pkF w n t (c + 1) = ((pkF w n t c).1 + 1, (pkF w n t c).2.1, (pkF w n t c).2.2) := by rw [st]; unfold pkS; rw [if_neg e, if_pos e2c]
            rw [s1]
            refine ⟨(a + 1, b, y), ⟨by rw [← p1], p2, p3, p4, p5⟩, ?_⟩
            rw [← p1] at e2c
            have e3 : c = a := by omega
            simp (discharger := omega) only [L_X4_pack_29, y1, e, e3, J_X4_pack_76, J_X4_pack_73, bd_e, bo_e, bm_e, bts_l, bts_r, btm_l, btm_r, bp_lt, ck_ib, ck_z, ck_o, ifT, ifF, n10, n01, pv_v, if_pos, if_neg, zI_nat, zI_add, zI_mul, zI_addl, zI_laddl, zI_mull, zI_lmul, zI_subl, zI_pred, zI_le, zI_lt, zI_eq, zI_lel, zI_lle, zI_ltl, zI_llt, zI_eql, zI_leq, zI_ne1, zI_1ne]
            rw [← e3]
            simp only [e, ifF, eq_self, ifT, if_false, if_true, ite_false, ite_true]
          · have s1 : pkF w n t (c + 1) = ((pkF w n t c).1 + 1, (pkF w n t c).2.1 + 1, mvW (pkF w n t c).2.2 n t c (pkF w n t c).1) := by rw [st]; unfold pkS; rw [if_neg e, if_neg e2c]
            rw [s1]
            rw [← p1] at e2c ⊢
            obtain ⟨x3, c1, c2, c3, c4⟩ := m_mv p3 j1.2.1 j1.1 ht hc (show a < c by omega)
            refine ⟨(a + 1, b + 1, x3), ⟨rfl, by rw [← p2], c2, frm_tr p4 c3, c4.trans p5⟩, ?_⟩
            have e3 : ¬ c = a := by omega
            simp (discharger := omega) only [L_X4_pack_29, y1, e, e3, c1, J_X4_pack_76, J_X4_pack_73, bd_e, bo_e, bm_e, bts_l, bts_r, btm_l, btm_r, bp_lt, ck_ib, ck_z, ck_o, ifT, ifF, n10, n01, pv_v, if_pos, if_neg, zI_nat, zI_add, zI_mul, zI_addl, zI_laddl, zI_mull, zI_lmul, zI_subl, zI_pred, zI_le, zI_lt, zI_eq, zI_lel, zI_lle, zI_ltl, zI_llt, zI_eql, zI_leq, zI_ne1, zI_1ne]
      · rintro k3 ⟨a, b, y⟩ ⟨p1, p2, p3, p4, p5⟩
        simp only at p1 p2 p3 p4 p5
        refine ⟨y, ?_, p3, p4, p5⟩
        rw [← p2]
        simp (discharger := omega) only [L_X4_pack_29, C_X4_pack_82, Nat.le_refl, bd_e, bo_e, bm_e, bts_l, bts_r, btm_l, btm_r, bp_lt, ck_ib, ck_z, ck_o, ifT, ifF, n10, n01, pv_v, if_pos, if_neg, zI_nat, zI_add, zI_mul, zI_addl, zI_laddl, zI_mull, zI_lmul, zI_subl, zI_pred, zI_le, zI_lt, zI_eq, zI_lel, zI_lle, zI_ltl, zI_llt, zI_eql, zI_leq, zI_ne1, zI_1ne]
    obtain ⟨x3, z1, z2, z3, z4⟩ := loop2
    have e9 : F_X4_pack (zI t) m' = some (zI (pkF w n t 8).2.1, x3) := by
      simp (discharger := omega) only [F_X4_pack, m_isT ht, o1, bd_e, bo_e, bm_e, bts_l, bts_r, btm_l, btm_r, bp_lt, ck_ib, ck_z, ck_o, ifT, ifF, n10, n01, pv_v, if_pos, if_neg, zI_nat, zI_add, zI_mul, zI_addl, zI_laddl, zI_mull, zI_lmul, zI_subl, zI_pred, zI_le, zI_lt, zI_eq, zI_lel, zI_lle, zI_ltl, zI_llt, zI_eql, zI_leq, zI_ne1, zI_1ne]
      exact z1
    rw [e9]
    exact ⟨x3, _, rfl, z2, eqw_rf _ _, frm_tr o3 z3, by rw [z4]; exact o4⟩
  · refine ok_err (c := 0) (code := 1) (m1 := mi) hM (by simp (discharger := omega) only [F_X3_pack, p_isT0' hp, p_req0, bd_e, bo_e, bm_e, bts_l, bts_r, btm_l, btm_r, bp_lt, ck_ib, ck_z, ck_o, ifT, ifF, n10, n01, pv_v, if_pos, if_neg, zI_nat, zI_add, zI_mul, zI_addl, zI_laddl, zI_mull, zI_lmul, zI_subl, zI_pred, zI_le, zI_lt, zI_eq, zI_lel, zI_lle, zI_ltl, zI_llt, zI_eql, zI_leq, zI_ne1, zI_1ne]) rfl (by decide) hP (frp_rf _) hA (v' := 0) (fun m' hm => ?_)
    have e2 : F_X4_pack p m' = some (0, wI (wI m' (3, 0, 0, 0) 6 0) (3, 0, 0, 0) 6 1) := by
      simp (discharger := omega) only [F_X4_pack, m_isT0 hp, m_fails, bd_e, bo_e, bm_e, bts_l, bts_r, btm_l, btm_r, bp_lt, ck_ib, ck_z, ck_o, ifT, ifF, n10, n01, pv_v, if_pos, if_neg, zI_nat, zI_add, zI_mul, zI_addl, zI_laddl, zI_mull, zI_lmul, zI_subl, zI_pred, zI_le, zI_lt, zI_eq, zI_lel, zI_lle, zI_ltl, zI_llt, zI_eql, zI_leq, zI_ne1, zI_1ne]
    rw [e2]
    exact mok_fail hm 1
end QX
