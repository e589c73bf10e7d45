/-! rows go out -/
def fL (q : Nat → Bool) (n : Nat) : List Nat := (List.range n).filter q
theorem fL_succ (q : Nat → Bool) (n : Nat) : fL q (n + 1) = fL q n ++ (if q n = true then [n] else []) := by
  unfold fL
  rw [List.range_succ, List.filter_append]
  by_cases h : q n = true
  · rw [if_pos h, List.filter_cons_of_pos h]; rfl
  · rw [if_neg h, List.filter_cons_of_neg h]; rfl
theorem fL_len (q : Nat → Bool) (n : Nat) : (fL q n).length ≤ n := by
  have h := List.length_filter_le q (List.range n)
  rw [List.length_range] at h
  exact h
theorem fL_mem {q : Nat → Bool} {n r : Nat} (h : r ∈ fL q n) : r < n ∧ q r = true := by
  unfold fL at h
  rw [List.mem_filter, List.mem_range] at h
  exact h
theorem fL_at {q : Nat → Bool} {r : Nat} (hq : q r = true) : ∀ n, r < n → (fL q n)[(fL q r).length]? = some r := by
  intro n
  induction n with
  | zero => exact fun h => absurd h (Nat.not_lt_zero r)
  | succ n ih =>
    intro h
    rw [fL_succ]
    by_cases e : r = n
    · subst e
      rw [List.getElem?_append_right (Nat.le_refl _), Nat.sub_self, if_pos hq]
      rfl
    · have h1 := ih (by omega)
      rw [List.getElem?_append_left (List.getElem?_eq_some_iff.mp h1).1]
      exact h1
section QQ
variable {m m2 mi x : Mem} {n n2 k L T s t r nt : Nat} {w w2 tx tl ts tn : Nat → Int32} {pa : Nat → Nat → Int32} {nn TT : Nat → Nat} {l : List Nat}
theorem lb1_ne {s a b : Nat} (h : a ≠ b) : ((1, s, 0, a) : Lb) ≠ (1, s, 0, b) := fun e => h (by injection e with _ e; injection e with _ e; injection e)
theorem p_copyRow (i0 i1 : Nat) (m : Mem) {r kp : Nat} (hr : r < 120) (hk : kp < 120) : ∃ m2, F_X1_copyRow i0 i1 (zI r) (zI kp) m = some ((), m2) ∧ m2.2 = m.2 ∧ (∀ lb : Lb, lb ≠ (1, i0, 0, 2) → lb ≠ (1, i0, 0, 3) → m2.1 lb = m.1 lb) ∧ m2.1 (1, i0, 0, 2) = upd (m.1 (1, i0, 0, 2)) kp (m.1 (1, i1, 0, 2) r) ∧ (∀ c, c < 8 → m2.1 (1, i0, 0, 3) (kp * 8 + c) = m.1 (1, i1, 0, 3) (r * 8 + c)) ∧ ∀ i, i < kp * 8 ∨ kp * 8 + 8 ≤ i → m2.1 (1, i0, 0, 3) i = m.1 (1, i0, 0, 3) i := by
  obtain ⟨m1, hm1⟩ : ∃ m1, m1 = wI m (1, i0, 0, 2) kp (m.1 (1, i1, 0, 2) r) := ⟨_, rfl⟩
  have v3 : ∀ i, m1.1 (1, i, 0, 3) = m.1 (1, i, 0, 3) := fun i => by
    rw [hm1, wI_ne (fun e => by injection e with _ e; injection e with _ e; injection e with _ e; exact absurd e (by decide))]
  obtain ⟨m2, hm2⟩ : ∃ m2, m2 = wA m1 (1, i0, 0, 3) (va_cpy (m1.1 (1, i1, 0, 3)) (m1.1 (1, i0, 0, 3)) (r * 8) (kp * 8) 8) := ⟨_, rfl⟩
  have e3 : m2.1 (1, i0, 0, 3) = va_cpy (m1.1 (1, i1, 0, 3)) (m1.1 (1, i0, 0, 3)) (r * 8) (kp * 8) 8 := by rw [hm2, wA_self]
  refine ⟨m2, ?_, by rw [hm2, hm1]; rfl, fun lb a b => by rw [hm2, wA_ne _ _ b, hm1, wI_ne a], ?_, fun c hc => ?_, fun i hi => ?_⟩
  · have z8 : Int32.toNatClampNeg 8 = 8 := rfl
    have ek : ∀ {α : Type} (y : Option α), ck (!decide (zI (r * 8) < 0) && !decide (zI (kp * 8) < 0) && !decide ((8 : Nat) < 0) && decide (Int32.toNatClampNeg (zI (r * 8)) + Int32.toNatClampNeg 8 ≤ 960) && decide (Int32.toNatClampNeg (zI (kp * 8)) + Int32.toNatClampNeg 8 ≤ 960)) y = y := fun y => ck_cpy (C := 8) (zI_nn (by omega)) (zI_nn (by omega)) (by decide) rfl rfl rfl (by omega) (by omega) (by omega) (by omega)
    unfold F_X1_copyRow
    rw [ck_ib (by omega) (by omega), bd_e, zI_nat (by omega), ck_ib (by omega) (by omega), zI_nat (by omega), bd_e, ← hm1, bd_e, zI_mull, bd_e, zI_mull, ek, bd_e, zI_nat (by omega), zI_nat (by omega), z8, ← hm2]
  · rw [hm2, wA_ne _ _ (lb1_ne (by decide)), hm1, wI_eq]
  · rw [e3, cpy_in _ _ (by omega) (by omega), v3, show r * 8 + (kp * 8 + c - kp * 8) = r * 8 + c by omega]
  · rw [e3, cpy_out _ _ hi, v3]
/-- rows that a list of numbers names go out -/
theorem p_removeRows (h : SR m.1 s w n) (q : Nat → Bool) (hq : FH (m.1 (0, 0, 0, 4)) (fL q n)) : ∃ m2, F_X1_removeRows s (zI (fL q n).length) m = some ((), m2) ∧ FrT s m m2 ∧ SR m2.1 s (lsW (fL (fun r => !q r) n) w) (fL (fun r => !q r) n).length := by
  obtain ⟨a1, a2, a3, a4, a5, a6, a7, a8⟩ := id h
  unfold F_X1_removeRows
  have hlq := fL_len q n
  have hln := fL_len (fun r => !q r) n
  refine loop_ex (L := fun k (a : Nat × Nat × Mem) i => L_X1_removeRows_8 s (zI (fL q n).length) k (zI a.1) (zI a.2.1) i a.2.2)
    (P := fun r a => a.1 = (fL (fun r => !q r) r).length ∧ a.2.1 = (fL q r).length ∧ a.2.2.2 = m.2 ∧ (∀ lb : Lb, lb ≠ (1, s, 0, 2) → lb ≠ (1, s, 0, 3) → a.2.2.1 lb = m.1 lb) ∧ (∀ i, i < (fL (fun r => !q r) r).length → a.2.2.1 (1, s, 0, 2) i = w (9 * gt0 (fL (fun r => !q r) r) i)) ∧ (∀ i, i < (fL (fun r => !q r) r).length → ∀ c, c < 8 → a.2.2.1 (1, s, 0, 3) (i * 8 + c) = pv (w (9 * gt0 (fL (fun r => !q r) r) i + 1 + c))) ∧ (∀ i, r ≤ i → i < n → a.2.2.1 (1, s, 0, 2) i = w (9 * i)) ∧ ∀ i, r ≤ i → i < n → ∀ c, c < 8 → a.2.2.1 (1, s, 0, 3) (i * 8 + c) = pv (w (9 * i + 1 + c)))
    (R := fun y => ∃ m2, y = some ((), m2) ∧ FrT s m m2 ∧ SR m2.1 s (lsW (fL (fun r => !q r) n) w) (fL (fun r => !q r) n).length) (n := n) ?_ ?_ n 0 fu (0, 0, m) (by omega) (by rw [fu_eq]; omega) ⟨rfl, rfl, rfl, fun _ _ _ => rfl, fun i hi => absurd hi (Nat.not_lt_zero i), fun i hi => absurd hi (Nat.not_lt_zero i), fun i _ hi => a4 i hi, fun i _ hi c hc => a5 i hi c hc⟩
  · rintro k ⟨kp, nx, x⟩ r hr ⟨p1, p2, p3, p4, p6, p7, p8, p9⟩
    simp only at p1 p2 p3 p4 p6 p7 p8 p9
    refine Or.inl ?_
    have x3 : x.1 (1, s, 0, 0) 3 = zI n := by rw [p4 _ (lb1_ne (by decide)) (lb1_ne (by decide))]; exact a3
    have xf : x.1 (0, 0, 0, 4) = m.1 (0, 0, 0, 4) := p4 _ (fun e => by injection e with e _; exact absurd e (by decide)) (fun e => by injection e with e _; exact absurd e (by decide))
    have lr := fL_len q r
    have lrn := fL_len (fun r => !q r) r
    by_cases hqr : q r = true
    · have hat := fL_at hqr n hr
      have hlt := (List.getElem?_eq_some_iff.mp hat).1
      have hnum := hq _ _ hat
      rw [← p2] at hlt hnum
      have e1 : fL (fun r => !q r) (r + 1) = fL (fun r => !q r) r := by
        rw [fL_succ, if_neg (by rw [hqr]; decide), List.append_nil]
      have e2 : (fL q (r + 1)).length = (fL q r).length + 1 := by
        rw [fL_succ, if_pos hqr, List.length_append]; rfl
      refine ⟨(kp, nx + 1, x), ⟨by rw [e1]; exact p1, by rw [e2, ← p2], p3, p4, by rw [e1]; exact p6, by rw [e1]; exact p7, fun i h1 h2 => p8 i (by omega) h2, fun i h1 h2 => p9 i (by omega) h2⟩, ?_⟩
      have h1 : ¬ (fL q n).length ≤ nx := by omega
      rw [← xf] at hnum
      simp (discharger := omega) only [L_X1_removeRows_8, x3, h1, hnum, J_X1_removeRows_56, bd_e, bo_e, bm_e, bts_l, bts_r, btm_l, btm_r, bp_lt, ck_ib, ck_z, ck_o, ifT, ifF, n10, n01, pv_v, if_pos, if_neg, zI_nat, zI_add, zI_mul, zI_addl, zI_laddl, zI_mull, zI_lmul, zI_subl, zI_pred, zI_le, zI_lt, zI_eq, zI_lel, zI_lle, zI_ltl, zI_llt, zI_eql, zI_leq, zI_ne1, zI_1ne]
    · have e1 : fL (fun r => !q r) (r + 1) = fL (fun r => !q r) r ++ [r] := by
        rw [fL_succ, if_pos (by rw [Bool.eq_false_iff.mpr hqr]; rfl)]
      have e2 : fL q (r + 1) = fL q r := by
        rw [fL_succ, if_neg hqr, List.append_nil]
      obtain ⟨x2, c1, c2, c3, c4, c5, c6⟩ := p_copyRow s s x (r := r) (kp := kp) (by omega) (by omega)
      have g1 : ∀ i, i < kp → gt0 (fL (fun r => !q r) r ++ [r]) i = gt0 (fL (fun r => !q r) r) i := fun i hi => by rw [gt0_app, if_pos (by omega)]
      have g2 : gt0 (fL (fun r => !q r) r ++ [r]) kp = r := by rw [gt0_app, if_neg (by omega), p1, Nat.sub_self]; rfl
      have step : L_X1_removeRows_8 s (zI (fL q n).length) (k + 1) (zI kp) (zI nx) (zI r) x = L_X1_removeRows_8 s (zI (fL q n).length) k (zI (kp + 1)) (zI nx) (zI (r + 1)) x2 := by
        by_cases h1 : (fL q n).length ≤ nx
        · simp (discharger := omega) only [L_X1_removeRows_8, x3, h1, J_X1_removeRows_45, c1, J_X1_removeRows_56, bd_e, bo_e, bm_e, bts_l, bts_r, btm_l, btm_r, bp_lt, ck_ib, ck_z, ck_o, ifT, ifF, n10, n01, pv_v, if_pos, if_neg, zI_nat, zI_add, zI_mul, zI_addl, zI_laddl, zI_mull, zI_lmul, zI_subl, zI_pred, zI_le, zI_lt, zI_eq, zI_lel, zI_lle, zI_ltl, zI_llt, zI_eql, zI_leq, zI_ne1, zI_1ne]
        · have hg : (fL q n)[nx]? = some ((fL q n)[nx]'(by omega)) := List.getElem?_eq_getElem (by omega)
          have hnum := hq _ _ hg
          have hmem := fL_mem (List.getElem_mem (l := fL q n) (n := nx) (by omega))
          have hne : ¬ (fL q n)[nx]'(by omega) = r := fun e => hqr (by rw [← e]; exact hmem.2)
          generalize (fL q n)[nx]'(by omega) = y at hnum hmem hne
          rw [← xf] at hnum
          have hy := hmem.1
          simp (discharger := omega) only [L_X1_removeRows_8, x3, h1, hnum, hne, J_X1_removeRows_45, c1, J_X1_removeRows_56, bd_e, bo_e, bm_e, bts_l, bts_r, btm_l, btm_r, bp_lt, ck_ib, ck_z, ck_o, ifT, ifF, n10, n01, pv_v, if_pos, if_neg, zI_nat, zI_add, zI_mul, zI_addl, zI_laddl, zI_mull, zI_lmul, zI_subl, zI_pred, zI_le, zI_lt, zI_eq, zI_lel, zI_lle, zI_ltl, zI_llt, zI_eql, zI_leq, zI_ne1, zI_1ne]
      refine ⟨(kp + 1, nx, x2), ⟨by rw [e1, List.length_append, ← p1]; rfl, by rw [e2]; exact p2, c2.trans p3, fun lb h1 h2 => (c3 lb h1 h2).trans (p4 lb h1 h2), fun i hi => ?_, fun i hi c hc => ?_, fun i h1 h2 => ?_, fun i h1 h2 c hc => ?_⟩, step⟩
      · rw [e1, List.length_append] at hi
        have hi2 : i < (fL (fun r => !q r) r).length + 1 := hi
        show x2.1 (1, s, 0, 2) i = _
        rw [c4, e1]
        by_cases e : i = kp
        · rw [e, upd_eq, g2]; exact p8 r (Nat.le_refl r) hr
        · rw [upd_ne _ e, g1 i (by omega)]; exact p6 i (by omega)
      · rw [e1, List.length_append] at hi
        have hi2 : i < (fL (fun r => !q r) r).length + 1 := hi
        show x2.1 (1, s, 0, 3) (i * 8 + c) = _
        rw [e1]
        by_cases e : i = kp
        · rw [e, c5 c hc, g2]; exact p9 r (Nat.le_refl r) hr c hc
        · rw [c6 _ (by omega), g1 i (by omega)]; exact p7 i (by omega) c hc
      · show x2.1 (1, s, 0, 2) i = _
        rw [c4, upd_ne _ (by omega)]; exact p8 i (by omega) h2
      · show x2.1 (1, s, 0, 3) (i * 8 + c) = _
        rw [c6 _ (by omega)]; exact p9 i (by omega) h2 c hc
  · rintro k ⟨kp, nx, x⟩ ⟨p1, p2, p3, p4, p6, p7, p8, p9⟩
    simp only at p1 p2 p3 p4 p6 p7 p8 p9
    have x3 : x.1 (1, s, 0, 0) 3 = zI n := by rw [p4 _ (lb1_ne (by decide)) (lb1_ne (by decide))]; exact a3
    have y : ∀ j, j ≠ 0 → (wI x (1, s, 0, 0) 3 (zI kp)).1 (1, s, 0, j) = x.1 (1, s, 0, j) := fun j hj => wI_ne (lb1_ne hj) x 3 _
    refine ⟨wI x (1, s, 0, 0) 3 (zI kp), ?_, FrT.tr (m2 := x) ⟨fun lb hl => p4 lb (fun e => hl (by rw [e]; exact wr1 _ _ _)) (fun e => hl (by rw [e]; exact wr1 _ _ _)), p3⟩ (frt_wI (wr1 _ _ _) x 3 _), ?_⟩
    · simp (discharger := omega) only [L_X1_removeRows_8, C_X1_removeRows_62, x3, Nat.le_refl, bd_e, bo_e, bm_e, bts_l, bts_r, btm_l, btm_r, bp_lt, ck_ib, ck_z, ck_o, ifT, ifF, n10, n01, pv_v, if_pos, if_neg, zI_nat, zI_add, zI_mul, zI_addl, zI_laddl, zI_mull, zI_lmul, zI_subl, zI_pred, zI_le, zI_lt, zI_eq, zI_lel, zI_lle, zI_ltl, zI_llt, zI_eql, zI_leq, zI_ne1, zI_1ne]
    · refine sr_list (m1 := m) h (by omega) (fun i hi => (fL_mem (gt0_mem hi)).1) ?_ (fun i hi => ?_) (fun i hi c hc => ?_) (fun a b => ?_)
      · rw [wI_eq, upd_eq, p1]
      · rw [y 2 (by decide)]; exact p6 i hi
      · rw [y 3 (by decide)]; exact p7 i hi c hc
      · rw [wI_ne (fun e => by injection e with e _; exact absurd e (by decide))]
        exact p4 _ (fun e => by injection e with e _; exact absurd e (by decide)) (fun e => by injection e with e _; exact absurd e (by decide))
/-- the reference's array stands for rows by a list -/
def XL (x : Mem) (w : Nat → Int32) (l : List Nat) (k : Nat) (pa : Nat → Nat → Int32) (L : Nat) (tx : Nat → Int32) : Prop := ∃ w2, MRel x w2 k pa L tx ∧ EQW l.length w2 (lsW l w)
theorem m_goesOut {x : Mem} {w2 : Nat → Int32} (h : MRel x w2 k pa L tx) (hn : w2 1080 = zI n) (hn2 : n ≤ 120) (hr : r < n) : ∃ x2 w3, F_X4_goesOut (zI r) x = some ((), x2) ∧ MRel x2 w3 k pa L tx ∧ FrM x x2 ∧ x2.1 (3, 0, 0, 0) = x.1 (3, 0, 0, 0) ∧ x2.1 (3, 0, 0, 5) = x.1 (3, 0, 0, 5) ∧ ∀ i, w3 i = if i = 1080 then zI (n - 1) else if 9 * r ≤ i ∧ i < 9 * (n - 1) then w2 (i + 9) else w2 i := by
  obtain ⟨g1, g2, g3, g4, g5⟩ := h
  have k1 : Int32.toNatClampNeg 1080 = 1080 := rfl
  have k2 : ∀ {α : Type} (y : Option α), ck (ib 1080 1174) y = y := fun _ => rfl
  obtain ⟨x1, hx1⟩ : ∃ x1, x1 = wI x (3, 0, 0, 1) 1080 (zI (n - 1)) := ⟨_, rfl⟩
  have x1f : x1.1 (3, 0, 0, 1) = upd w2 1080 (zI (n - 1)) := by rw [hx1, wI_eq, g1]
  have start : F_X4_goesOut (zI r) x = L_X4_goesOut_17 fu (zI (9 * r)) x1 := by
    simp (discharger := omega) only [F_X4_goesOut, g1, k1, k2, hn, bd_e, bo_e, bm_e, bts_l, bts_r, btm_l, btm_r, bp_lt, ck_ib, ck_z, ck_o, ifT, ifF, n10, n01, pv_v, if_pos, if_neg, zI_nat, zI_add, zI_mul, zI_addl, zI_laddl, zI_mull, zI_lmul, zI_subl, zI_pred, zI_le, zI_lt, zI_eq, zI_lel, zI_lle, zI_ltl, zI_llt, zI_eql, zI_leq, zI_ne1, zI_1ne]
    rw [← hx1]
  have loop : ∃ g, L_X4_goesOut_17 fu (zI (9 * r)) x1 = some ((), wA x1 (3, 0, 0, 1) g) ∧ ∀ i, g i = if 9 * r ≤ i ∧ i < 9 * (n - 1) then upd w2 1080 (zI (n - 1)) (i + 9) else upd w2 1080 (zI (n - 1)) i := by
    refine loop_ex (L := fun k2 (y : Mem) i => L_X4_goesOut_17 k2 i y) (P := fun j y => 9 * r ≤ j ∧ ∃ g, y = wA x1 (3, 0, 0, 1) g ∧ ∀ i, g i = if 9 * r ≤ i ∧ i < j then upd w2 1080 (zI (n - 1)) (i + 9) else upd w2 1080 (zI (n - 1)) i) (R := fun y => ∃ g, y = some ((), wA x1 (3, 0, 0, 1) g) ∧ ∀ i, g i = if 9 * r ≤ i ∧ i < 9 * (n - 1) then upd w2 1080 (zI (n - 1)) (i + 9) else upd w2 1080 (zI (n - 1)) i) (n := 9 * (n - 1)) ?_ ?_ (9 * (n - 1) - 9 * r) (9 * r) fu x1 (by omega) (by rw [fu_eq]; omega) ⟨Nat.le_refl _, x1.1 (3, 0, 0, 1), (wA_self2 x1 _).symm, fun i => by rw [if_neg (by omega), x1f]⟩
    · intro k3 y j hj hp
      obtain ⟨hjr, g, rfl, hg⟩ := hp
      have e80 : (wA x1 (3, 0, 0, 1) g).1 (3, 0, 0, 1) 1080 = zI (n - 1) := by
        rw [wA_self, hg]
        by_cases e : 9 * r ≤ 1080 ∧ 1080 < j
        · omega
        · rw [if_neg e, upd_eq]
      refine Or.inl ⟨wA x1 (3, 0, 0, 1) (upd g j (upd w2 1080 (zI (n - 1)) (j + 9))), ⟨by omega, _, rfl, fun i => ?_⟩, ?_⟩
      · by_cases e : i = j
        · rw [e, upd_eq, if_pos ⟨hjr, by omega⟩]
        · rw [upd_ne _ e, hg i]
          by_cases e2 : 9 * r ≤ i ∧ i < j
          · rw [if_pos e2, if_pos (by omega)]
          · rw [if_neg e2, if_neg (by omega)]
      · have e9 : (wA x1 (3, 0, 0, 1) g).1 (3, 0, 0, 1) (j + 9) = upd w2 1080 (zI (n - 1)) (j + 9) := by
          rw [wA_self, hg, if_neg (by omega)]
        simp (discharger := omega) only [L_X4_goesOut_17, k1, k2, e80, e9, wI_wA, bd_e, bo_e, bm_e, bts_l, bts_r, btm_l, btm_r, bp_lt, ck_ib, ck_z, ck_o, ifT, ifF, n10, n01, pv_v, if_pos, if_neg, zI_nat, zI_add, zI_mul, zI_addl, zI_laddl, zI_mull, zI_lmul, zI_subl, zI_pred, zI_le, zI_lt, zI_eq, zI_lel, zI_lle, zI_ltl, zI_llt, zI_eql, zI_leq, zI_ne1, zI_1ne]
    · intro k3 y hp
      obtain ⟨-, g, rfl, hg⟩ := hp
      refine ⟨g, ?_, hg⟩
      have e80 : (wA x1 (3, 0, 0, 1) g).1 (3, 0, 0, 1) 1080 = zI (n - 1) := by
        rw [wA_self, hg, if_neg (by omega), upd_eq]
      simp (discharger := omega) only [L_X4_goesOut_17, C_X4_goesOut_53, k1, k2, e80, Nat.le_refl, bd_e, bo_e, bm_e, bts_l, bts_r, btm_l, btm_r, bp_lt, ck_ib, ck_z, ck_o, ifT, ifF, n10, n01, pv_v, if_pos, if_neg, zI_nat, zI_add, zI_mul, zI_addl, zI_laddl, zI_mull, zI_lmul, zI_subl, zI_pred, zI_le, zI_lt, zI_eq, zI_lel, zI_lle, zI_ltl, zI_llt, zI_eql, zI_leq, zI_ne1, zI_1ne]
  obtain ⟨g, hl, hg⟩ := loop
  refine ⟨wA x1 (3, 0, 0, 1) g, g, start.trans hl, ⟨wA_self _ _ _, ?_, ?_, ?_, ?_⟩, ?_, ?_, ?_, fun i => ?_⟩
  · rw [wA_ne _ _ (by decide), hx1, wI_ne (by decide)]; exact g2
  · rw [wA_ne _ _ (by decide), hx1, wI_ne (by decide)]; exact g3
  · rw [wA_ne _ _ (by decide), hx1, wI_ne (by decide)]; exact g4
  · rw [wA_ne _ _ (by decide), hx1, wI_ne (by decide)]; exact g5
  · rw [hx1]; exact frm_tr (frm_wI rfl _ _ _) (frm_wA rfl _ _)
  · rw [wA_ne _ _ (by decide), hx1, wI_ne (by decide)]
  · rw [wA_ne _ _ (by decide), hx1, wI_ne (by decide)]
  · rw [hg]
    by_cases e : i = 1080
    · rw [if_pos e, e, if_neg (by omega), upd_eq]
    · rw [if_neg e]
      by_cases e2 : 9 * r ≤ i ∧ i < 9 * (n - 1)
      · rw [if_pos e2, if_pos e2, upd_ne _ (by omega)]
      · rw [if_neg e2, if_neg e2, upd_ne _ e]
theorem gt0_erase (l : List Nat) (r i : Nat) : gt0 (l.eraseIdx r) i = if i < r then gt0 l i else gt0 l (i + 1) := by
  unfold gt0
  rw [List.getD_eq_getElem?_getD, List.getElem?_eraseIdx]
  by_cases h : i < r
  · rw [if_pos h, if_pos h, List.getD_eq_getElem?_getD]
  · rw [if_neg h, if_neg h, List.getD_eq_getElem?_getD]
theorem lsW_range (hn : n ≤ 120) (h : w 1080 = zI n) : EQW n w (lsW (List.range n) w) := by
  intro i hi
  unfold lsW
  rw [List.length_range]
  by_cases h1 : i < 9 * n
  · rw [if_pos h1, gt0_range (by omega), show 9 * (i / 9) + i % 9 = i by omega]
  · rw [if_neg h1]
    by_cases h2 : i = 1080
    · rw [if_pos h2, h2, h]
    · rw [if_neg h2]
theorem m_outL {x : Mem} (h : XL x w l k pa L tx) (hl : l.length ≤ 120) (hr : r < l.length) : ∃ x2, F_X4_goesOut (zI r) x = some ((), x2) ∧ XL x2 w (l.eraseIdx r) k pa L tx ∧ FrM x x2 ∧ x2.1 (3, 0, 0, 0) = x.1 (3, 0, 0, 0) ∧ x2.1 (3, 0, 0, 5) = x.1 (3, 0, 0, 5) := by
  obtain ⟨w2, hM, hE⟩ := h
  have h80 : w2 1080 = zI l.length := by rw [hE _ (by omega), lsW_n w hl]
  obtain ⟨x2, w3, e1, e2, e3, e4, e5, e6⟩ := m_goesOut hM h80 hl hr
  have hlen : (l.eraseIdx r).length = l.length - 1 := List.length_eraseIdx_of_lt hr
  refine ⟨x2, e1, ⟨w3, e2, fun i hi => ?_⟩, e3, e4, e5⟩
  rw [hlen] at hi
  rw [e6]
  by_cases h1 : i < 9 * (l.length - 1)
  · have ea : i = 9 * (i / 9) + i % 9 := by omega
    have R : lsW (l.eraseIdx r) w i = w (9 * gt0 (l.eraseIdx r) (i / 9) + i % 9) := by
      rw [ea]
      rw [lsW_row _ _ (by omega) (by omega), show (9 * (i / 9) + i % 9) / 9 = i / 9 by omega, show (9 * (i / 9) + i % 9) % 9 = i % 9 by omega]
    rw [R, gt0_erase, if_neg (by omega)]
    by_cases h2 : i / 9 < r
    · rw [if_pos h2, if_neg (by omega), hE i (by omega)]
      rw [show lsW l w i = lsW l w (9 * (i / 9) + i % 9) by rw [← ea], lsW_row _ _ (by omega) (by omega)]
    · rw [if_neg h2, if_pos (by omega), hE (i + 9) (by omega), show i + 9 = 9 * (i / 9 + 1) + i % 9 by omega, lsW_row _ _ (by omega) (by omega)]
  · unfold lsW
    rw [hlen, if_neg (show ¬ i < 9 * (l.length - 1) from h1)]
    by_cases h2 : i = 1080
    · rw [if_pos h2, if_pos h2]
    · rw [if_neg h2, if_neg h2, if_neg (by omega), hE i (by omega)]
      unfold lsW
      rw [if_neg (by omega), if_neg h2]
theorem fL_single : ∀ n, r < n → fL (fun y => decide (y = r)) n = [r] := by
  intro n
  induction n with
  | zero => exact fun h => absurd h (Nat.not_lt_zero r)
  | succ n ih =>
    intro h
    rw [fL_succ]
    by_cases e : n = r
    · rw [if_pos (decide_eq_true e)]
      have h0 : fL (fun y => decide (y = r)) n = [] := by
        refine List.filter_eq_nil_iff.mpr (fun a ha => ?_)
        rw [decide_eq_true_eq]
        have := List.mem_range.mp ha
        omega
      rw [h0, e]; rfl
    · rw [if_neg (by rw [decide_eq_true_eq]; exact e), List.append_nil]
      exact ih (by omega)
theorem fL_all {q : Nat → Bool} : ∀ n, (∀ y, y < n → q y = true) → fL q n = List.range n := by
  intro n
  induction n with
  | zero => exact fun _ => rfl
  | succ n ih =>
    intro h
    rw [fL_succ, if_pos (h n (Nat.lt_succ_self n)), ih (fun y hy => h y (by omega)), List.range_succ]
theorem erase_range : ∀ n, r < n → (List.range n).eraseIdx r = fL (fun y => !decide (y = r)) n := by
  intro n
  induction n with
  | zero => exact fun h => absurd h (Nat.not_lt_zero r)
  | succ n ih =>
    intro h
    rw [fL_succ, List.range_succ]
    by_cases e : n = r
    · subst e
      rw [if_neg (by rw [decide_eq_true rfl]; decide), List.append_nil, List.eraseIdx_append_of_length_le (by rw [List.length_range]; exact Nat.le_refl _), List.length_range, Nat.sub_self, fL_all n (fun y hy => by rw [decide_eq_false (by omega)]; rfl)]
      exact List.append_nil _
    · rw [if_pos (by rw [decide_eq_false e]; rfl), List.eraseIdx_append_of_lt_length (by rw [List.length_range]; omega), ih (by omega)]
theorem fL_sub (q : Nat → Bool) (n : Nat) : (fL q n).Sublist (List.range n) := List.filter_sublist
theorem call_remove (h : St mi) (p : Int32) : CallOK (F_L_remove p mi) (fun m' => F_X4_remove p m') := by
  obtain ⟨w, n, T, k, pa, nn, TT, L, tx, hP, hM, hA⟩ := h
  have hs := hP.1 6 (by omega)
  rcases rngN p hA.1.1 with ⟨r, hr, rfl⟩ | hr
  · have hreq := p_reqRow hP.2.2.2.1 hs hr
    have hkk := svK_le hA.2.1
    obtain ⟨i1, i2, i3, i4, i5, i6, i7, i8, i9, i10, i11, i12⟩ := id hA.1
    obtain ⟨q5, m2, e1, e2, e3, e4, e5, e6, e7, e8⟩ := p_save hP hA.2.1 i9 i7
    have hs2 := e5.1 6 (by omega)
    have fo := e5.2.2.2.1.2.2.2.1 r hr
    obtain ⟨m5, hm5⟩ : ∃ m5, m5 = wI m2 (0, 0, 0, 4) 0 (zI r) := ⟨_, rfl⟩
    have F5 : FrT (m2.2.1 6) m2 m5 := by rw [hm5]; exact frt_wI (wr4 _) m2 0 _
    have S5 : SR m5.1 (m2.2.1 6) w n := by rw [hm5]; exact sr_wA e5.2.2.2.1 4 _
    have s5 : m5.2.1 6 = m2.2.1 6 := by rw [F5.2]
    have hfh : FH (m5.1 (0, 0, 0, 4)) (fL (fun y => decide (y = r)) n) := by
      rw [fL_single n hr, hm5, wI_eq]
      intro i y hy
      match i, hy with
      | 0, hy => cases hy; exact upd_eq _ _ _
      | i + 1, hy => cases hy
    obtain ⟨m7, c1, c2, c3⟩ := p_removeRows S5 _ hfh
    rw [fL_single n hr] at c1
    have c1' : F_X1_removeRows (m2.2.1 6) 1 m5 = some ((), m7) := c1
    have e : F_X3_remove (zI r) mi = some (.inl (w (9 * r)), m7) := by
      have z0 : Int32.toNatClampNeg 0 = 0 := rfl
      have i0 : ∀ {α : Type} (y : Option α), ck (ib 0 120) y = y := fun _ => rfl
      simp (discharger := omega) only [F_X3_remove, hreq, e1, e2, hs2, fo, i0, z0, bd_e, bo_e, bm_e, bts_l, bts_r, btm_l, btm_r, bp_lt, ck_ib, ck_z, ck_o, ifT, ifF, n10, n01, pv_v, if_pos, if_neg, zI_nat, zI_add, zI_mul, zI_addl, zI_laddl, zI_mull, zI_lmul, zI_subl, zI_pred, zI_le, zI_lt, zI_eq, zI_lel, zI_lle, zI_ltl, zI_llt, zI_eql, zI_leq, zI_ne1, zI_1ne]
      rw [← hm5]
      simp (discharger := omega) only [s5, hs2, c1', bd_e, bo_e, bm_e, bts_l, bts_r, btm_l, btm_r, bp_lt, ck_ib, ck_z, ck_o, ifT, ifF, n10, n01, pv_v, if_pos, if_neg, zI_nat, zI_add, zI_mul, zI_addl, zI_laddl, zI_mull, zI_lmul, zI_subl, zI_pred, zI_le, zI_lt, zI_eq, zI_lel, zI_lle, zI_ltl, zI_llt, zI_eql, zI_leq, zI_ne1, zI_1ne]
    obtain ⟨r1, r2⟩ := e5.step hkk.1 (F5.tr c2) c3
    obtain ⟨T2, hW⟩ := wi_sub hA.1 (fL_sub (fun y => !decide (y = r)) n)
    refine ok_val hM e r1 (frp_tr e6 r2) (ainv_w hA.saved hW) (fun m' hm => ?_)
    obtain ⟨x2, o1, o2, o3, o4⟩ := m_pre hm hA.2.1
    have hrow := m_isRow1 (mw_of (mrel_6 hm 0) hA.1) hr
    have a2 := m_tenantOf (mw_of o2 hA.1) hr
    obtain ⟨x3, d1, ⟨w3, d2, d5⟩, d3, d4, -⟩ := m_outL (x := x2) (w := w) (l := List.range n) (r := r) ⟨w, o2, by rw [List.length_range]; exact lsW_range i1 i2⟩ (by rw [List.length_range]; exact i1) (by rw [List.length_range]; exact hr)
    rw [erase_range n hr] at d5
    have e9 : F_X4_remove (zI r) m' = some (w (9 * r), x3) := by
      simp (discharger := omega) only [F_X4_remove, hrow, o1, a2, d1, bd_e, bo_e, bm_e, bts_l, bts_r, btm_l, btm_r, bp_lt, ck_ib, ck_z, ck_o, ifT, ifF, n10, n01, pv_v, if_pos, if_neg, zI_nat, zI_add, zI_mul, zI_addl, zI_laddl, zI_mull, zI_lmul, zI_subl, zI_pred, zI_le, zI_lt, zI_eq, zI_lel, zI_lle, zI_ltl, zI_llt, zI_eql, zI_leq, zI_ne1, zI_1ne]
    rw [e9]
    exact ⟨x3, w3, rfl, d2, d5, frm_tr o3 d3, by rw [d4]; exact o4⟩
  · have e : F_X3_remove p mi = some (.inr 2, mi) := by
      unfold F_X3_remove
      rw [p_reqRow0 hP hA.1 hr, bts_r]
    refine ok_err (c := 2) (code := 1) (m1 := mi) hM e rfl (by decide) hP (frp_rf _) hA (v' := 0) (fun m' hm => ?_)
    have e3 : F_X4_remove p m' = some (0, wI (wI m' (3, 0, 0, 0) 6 0) (3, 0, 0, 0) 6 1) := by
      simp (discharger := omega) only [F_X4_remove, m_isRow0 (mw_of (mrel_6 hm 0) hA.1) hr, m_fails, bd_e, bo_e, bm_e, bts_l, bts_r, btm_l, btm_r, bp_lt, ck_ib, ck_z, ck_o, ifT, ifF, n10, n01, pv_v, if_pos, if_neg, zI_nat, zI_add, zI_mul, zI_addl, zI_laddl, zI_mull, zI_lmul, zI_subl, zI_pred, zI_le, zI_lt, zI_eq, zI_lel, zI_lle, zI_ltl, zI_llt, zI_eql, zI_leq, zI_ne1, zI_1ne]
    rw [e3]
    exact mok_fail hm 1
theorem an_eq {r : Nat} (h : ∀ k, k < 9 → w2 (9 * r + k) = w (9 * r + k)) (e : ∀ i, 1081 ≤ i → i < 1105 → w2 i = w i) (ht : t < 3) : an w2 nt tl ts tn t r = an w nt tl ts tn t r := by
  have hc : ∀ lt, cO w2 t lt = cO w t lt := fun lt => by
    unfold cO
    exact fo_congr (fun c b hc => by rw [e _ (by omega) (by omega)])
  have hv : ∀ c, isC c → vl w2 r c = vl w r c := by
    rintro c (rfl | ⟨k, hk, rfl⟩)
    · rfl
    · rw [vl_c w2 r hk, vl_c w r hk, show 9 * r + 1 + k = 9 * r + (1 + k) by omega, h _ (by omega)]
  unfold an
  rw [show w2 (9 * r) = w (9 * r) from h 0 (by omega)]
  congr 1
  refine bA_congr (fun k _ => ?_)
  unfold okT
  rw [hc, hv _ (cO_isC w t (tl k))]
theorem m_purgeL (hI : WI w n T) (hK : TK nt tl ts tn) (ht : t < 3) : ∀ (r : Nat) (x : Mem) (cnt f : Nat), r ≤ n → r < f → QM x.1 nt tl ts tn → XL x w (List.range r ++ ((List.range n).drop r).filter (fun y => !an w nt tl ts tn t y)) k pa L tx →
    ∃ x2, L_X4_purge_42 (zI t) f (zI cnt) (zI r - 1) x = some (zI (cnt + (fL (an w nt tl ts tn t) r).length), x2) ∧ XL x2 w (fL (fun y => !an w nt tl ts tn t y) n) k pa L tx ∧ FrM x x2 ∧ x2.1 (3, 0, 0, 0) = x.1 (3, 0, 0, 0) := by
  intro r
  induction r with
  | zero =>
    intro x cnt f hr hf hQ hX
    obtain ⟨f2, rfl⟩ : ∃ f2, f = f2 + 1 := ⟨f - 1, by omega⟩
    refine ⟨x, ?_, hX, ⟨fun _ _ => rfl, rfl⟩, rfl⟩
    have hneg : zI 0 - 1 < 0 := by decide
    have e0 : (fL (an w nt tl ts tn t) 0).length = 0 := rfl
    rw [e0]
    simp (discharger := omega) only [L_X4_purge_42, C_X4_purge_69, hneg, bd_e, bo_e, bm_e, bts_l, bts_r, btm_l, btm_r, bp_lt, ck_ib, ck_z, ck_o, ifT, ifF, n10, n01, pv_v, if_pos, if_neg, zI_nat, zI_add, zI_mul, zI_addl, zI_laddl, zI_mull, zI_lmul, zI_subl, zI_pred, zI_le, zI_lt, zI_eq, zI_lel, zI_lle, zI_ltl, zI_llt, zI_eql, zI_leq, zI_ne1, zI_1ne] <;> rfl
  | succ r ih =>
    intro x cnt f hr hf hQ hX
    obtain ⟨f2, rfl⟩ : ∃ f2, f = f2 + 1 := ⟨f - 1, by omega⟩
    have hn := hI.1
    have hsub : zI (r + 1) - 1 = zI r := by
      rw [zI_subl (by omega)]; rfl
    have hback : zI r + (-1) = zI r - 1 := (Int32.sub_eq_add_neg _ _).symm
    have hlen : (List.range (r + 1) ++ ((List.range n).drop (r + 1)).filter (fun y => !an w nt tl ts tn t y)).length ≤ n := by
      have h1 := List.length_filter_le (fun y => !an w nt tl ts tn t y) ((List.range n).drop (r + 1))
      rw [List.length_drop, List.length_range] at h1
      rw [List.length_append, List.length_range]
      omega
    have hlr : r < (List.range (r + 1) ++ ((List.range n).drop (r + 1)).filter (fun y => !an w nt tl ts tn t y)).length := by
      rw [List.length_append, List.length_range]; omega
    have hdrop : (List.range n).drop r = r :: (List.range n).drop (r + 1) := by
      rw [List.drop_eq_getElem_cons (by rw [List.length_range]; omega), List.getElem_range]
    have hgt : gt0 (List.range (r + 1) ++ ((List.range n).drop (r + 1)).filter (fun y => !an w nt tl ts tn t y)) r = r := by
      rw [gt0_app, if_pos (by rw [List.length_range]; omega), gt0_range (by omega)]
    obtain ⟨w2, hM, hE⟩ := id hX
    have hlen120 : (List.range (r + 1) ++ ((List.range n).drop (r + 1)).filter (fun y => !an w nt tl ts tn t y)).length ≤ 120 := by omega
    have ha := m_isAnswer (m := x) (w := w2) (n := (List.range (r + 1) ++ ((List.range n).drop (r + 1)).filter (fun y => !an w nt tl ts tn t y)).length) ⟨hM.1, by rw [hE _ (by omega), lsW_n _ hlen120], hlen120⟩ hQ hK ht hlr
    rw [an_eq (w := w) (fun k hk => by rw [hE _ (by omega), lsW_row _ _ hlr hk, hgt]) (fun i h1 h2 => by rw [hE _ (by omega), lsW_hi _ hlen120 (by omega)]) ht] at ha
    have nr : ¬ zI r < 0 := zI_nn (by omega)
    rw [hsub]
    by_cases hq : an w nt tl ts tn t r = true
    · obtain ⟨x2, c1, c2, c3, c4, c5⟩ := m_outL hX hlen120 hlr
      rw [List.eraseIdx_append_of_lt_length (by rw [List.length_range]; omega), erase_range (r + 1) (Nat.lt_succ_self r)] at c2
      have el : fL (fun y => !decide (y = r)) (r + 1) ++ ((List.range n).drop (r + 1)).filter (fun y => !an w nt tl ts tn t y) = List.range r ++ ((List.range n).drop r).filter (fun y => !an w nt tl ts tn t y) := by
        rw [hdrop, List.filter_cons_of_neg (by rw [hq]; decide), fL_succ, if_neg (by rw [decide_eq_true rfl]; decide), List.append_nil, fL_all r (fun y hy => by rw [decide_eq_false (by omega)]; rfl)]
      rw [el] at c2
      obtain ⟨x3, d1, d2, d3, d4⟩ := ih x2 (cnt + 1) f2 (by omega) (by omega) (qm_f hQ (by rw [c4]) c5) c2
      refine ⟨x3, ?_, d2, frm_tr c3 d3, d4.trans c4⟩
      rw [if_pos hq] at ha
      have e1 : cnt + (fL (an w nt tl ts tn t) (r + 1)).length = cnt + 1 + (fL (an w nt tl ts tn t) r).length := by
        rw [fL_succ, if_pos hq, List.length_append]
        show cnt + (_ + 1) = _
        omega
      rw [e1, ← d1]
      simp (discharger := omega) only [L_X4_purge_42, nr, ha, c1, J_X4_purge_63, bd_e, bo_e, bm_e, bts_l, bts_r, btm_l, btm_r, bp_lt, ck_ib, ck_z, ck_o, ifT, ifF, n10, n01, pv_v, if_pos, if_neg, zI_nat, zI_add, zI_mul, zI_addl, zI_laddl, zI_mull, zI_lmul, zI_subl, zI_pred, zI_le, zI_lt, zI_eq, zI_lel, zI_lle, zI_ltl, zI_llt, zI_eql, zI_leq, zI_ne1, zI_1ne]
      rw [hback]
    · have el : List.range (r + 1) ++ ((List.range n).drop (r + 1)).filter (fun y => !an w nt tl ts tn t y) = List.range r ++ ((List.range n).drop r).filter (fun y => !an w nt tl ts tn t y) := by
        rw [hdrop, List.filter_cons_of_pos (by rw [Bool.eq_false_iff.mpr hq]; rfl), List.range_succ, List.append_assoc]
        rfl
      rw [el] at hX
      obtain ⟨x3, d1, d2, d3, d4⟩ := ih x cnt f2 (by omega) (by omega) hQ hX
      refine ⟨x3, ?_, d2, d3, d4⟩
      rw [if_neg hq] at ha
      have e1 : fL (an w nt tl ts tn t) (r + 1) = fL (an w nt tl ts tn t) r := by
        rw [fL_succ, if_neg hq, List.append_nil]
      rw [e1, ← d1]
      have hz : zI r + (-1) = zI r - 1 := hback
      simp (discharger := omega) only [L_X4_purge_42, nr, ha, J_X4_purge_63, bd_e, bo_e, ifT, ifF, hz, eq_self]
theorem call_purge (h : St mi) (p : Int32) : CallOK (F_L_purge p mi) (fun m' => F_X4_purge p m') := by
  obtain ⟨w, n, T, k, pa, nn, TT, L, tx, hP, hM, hA⟩ := h
  rcases rng3 p with ⟨t, ht, rfl⟩ | hp
  · rcases quest hA with ⟨nt, tl, ts, tn, hK, qp, qm⟩ | ⟨qp, qm⟩
    · obtain ⟨m3, o1, o2, hQ⟩ := qp mi hP
      obtain ⟨hP3, hF3⟩ := prel_frq hP o2
      have hkk := svK_le hA.2.1
      obtain ⟨i1, i2, i3, i4, i5, i6, i7, i8, i9, i10, i11, i12⟩ := id hA.1
      obtain ⟨q5, m6, e1, e2, e3, e4, e5, e6, e7, e8⟩ := p_save hP3 hA.2.1 i9 i7
      have hs6 := e5.1 6 (by omega)
      have hQ6 := qp_sv hQ e8
      obtain ⟨g, c1, hg⟩ := p_collect e5.2.2.2.1 hs6 hA.1 hQ6 hK ht
      have eL : aL w nt tl ts tn t n = fL (an w nt tl ts tn t) n := rfl
      rw [eL] at c1 hg
      obtain ⟨m8, hm8⟩ : ∃ m8, m8 = wA m6 (0, 0, 0, 4) g := ⟨_, rfl⟩
      rw [← hm8] at c1
      have F8 : FrT (m6.2.1 6) m6 m8 := by rw [hm8]; exact frt_wA (wr4 _) m6 g
      have S8 : SR m8.1 (m6.2.1 6) w n := by rw [hm8]; exact sr_wA e5.2.2.2.1 4 g
      have s8 : m8.2.1 6 = m6.2.1 6 := by rw [F8.2]
      obtain ⟨m10, d1, d2, d3⟩ := p_removeRows S8 (an w nt tl ts tn t) (by rw [hm8, wA_self]; exact hg)
      have e : F_X3_purge (zI t) mi = some (.inl (zI (fL (an w nt tl ts tn t) n).length), m10) := by
        simp (discharger := omega) only [F_X3_purge, p_isT ht, o1, J_X3_purge_19, p_req1, e1, e2, c1, s8, hs6, d1, bd_e, bo_e, bm_e, bts_l, bts_r, btm_l, btm_r, bp_lt, ck_ib, ck_z, ck_o, ifT, ifF, n10, n01, pv_v, if_pos, if_neg, zI_nat, zI_add, zI_mul, zI_addl, zI_laddl, zI_mull, zI_lmul, zI_subl, zI_pred, zI_le, zI_lt, zI_eq, zI_lel, zI_lle, zI_ltl, zI_llt, zI_eql, zI_leq, zI_ne1, zI_1ne]
      obtain ⟨r1, r2⟩ := e5.step hkk.1 (F8.tr d2) d3
      obtain ⟨T2, hW⟩ := wi_sub hA.1 (fL_sub (fun y => !an w nt tl ts tn t y) n)
      refine ok_val hM e r1 (frp_tr hF3 (frp_tr e6 r2)) (ainv_w hA.saved hW) (fun m' hm => ?_)
      obtain ⟨x3, u1, u2, u3⟩ := qm _ (mrel_6 hm 0)
      obtain ⟨y1, y2⟩ := mrel_frx (mrel_6 hm 0) u2
      obtain ⟨x9, z1, z2, z3, z4, z5⟩ := m_saves y1 hA.2.1
      have z6 : x9.1 (3, 0, 0, 0) 6 = 0 := by rw [z5 6 (by decide), u2.2.2 6 (by decide) (by decide) (by decide), wI_eq, upd_eq]
      have Fx : FrM m' x9 := frm_tr (frm_tr (frm_wI rfl m' 6 0) y2) ⟨fun lb hl => z4 lb (by rintro rfl; exact hl rfl) (by rintro rfl; exact hl rfl), z3⟩
      have hQ9 := qm_f u3 (z5 10 (by decide)) (z4 _ (by decide) (by decide))
      obtain ⟨xa, v1, ⟨w3, v2, v3⟩, v4, v5⟩ := m_purgeL (w := w) (n := n) (T := T) (nt := nt) (tl := tl) (ts := ts) (tn := tn) (t := t) (k := svK k) (pa := svF k pa w) (L := L) (tx := tx) hA.1 hK ht n x9 0 fu (Nat.le_refl n) (by rw [fu_eq]; omega) hQ9 ⟨w, z2, by
        rw [List.drop_eq_nil_of_le (by rw [List.length_range]; exact Nat.le_refl n), List.filter_nil, List.append_nil, List.length_range]
        exact lsW_range i1 i2⟩
      rw [Nat.zero_add] at v1
      have g1 := z2.1
      have k1 : Int32.toNatClampNeg 1080 = 1080 := rfl
      have k2 : ∀ {α : Type} (y : Option α), ck (ib 1080 1174) y = y := fun _ => rfl
      have e9 : F_X4_purge (zI t) m' = some (zI (fL (an w nt tl ts tn t) n).length, xa) := by
        rw [← v1]
        simp only [F_X4_purge, m_isT ht, u1, z1, g1, i2, k1, k2, bd_e, bo_e, bm_e, n10, ifF]
        rfl
      rw [e9]
      exact ⟨xa, w3, rfl, v2, v3, frm_tr Fx v4, by rw [v5]; exact z6⟩
    · obtain ⟨m2, o1, o2⟩ := qp mi hP
      obtain ⟨hP2, hF2⟩ := prel_frq hP o2
      have e : F_X3_purge (zI t) mi = some (.inr 0, m2) := by
        simp (discharger := omega) only [F_X3_purge, p_isT ht, o1, jb_purge, bd_e, bo_e, bm_e, bts_l, bts_r, btm_l, btm_r, bp_lt, ck_ib, ck_z, ck_o, ifT, ifF, n10, n01, pv_v, if_pos, if_neg, zI_nat, zI_add, zI_mul, zI_addl, zI_laddl, zI_mull, zI_lmul, zI_subl, zI_pred, zI_le, zI_lt, zI_eq, zI_lel, zI_lle, zI_ltl, zI_llt, zI_eql, zI_leq, zI_ne1, zI_1ne]
      refine ok_err (c := 0) (code := 1) (m1 := m2) hM e rfl (by decide) hP2 hF2 hA (v' := 0) (fun m' hm => ?_)
      obtain ⟨x2, e1, e2⟩ := qm _ (mrel_6 hm 0)
      obtain ⟨r1, r2⟩ := mrel_frx (mrel_6 hm 0) e2
      have e5 : F_X4_purge (zI t) m' = some (0, wI x2 (3, 0, 0, 0) 6 1) := by
        simp (discharger := omega) only [F_X4_purge, m_isT ht, e1, J_X4_purge_19, m_fails, bd_e, bo_e, bm_e, bts_l, bts_r, btm_l, btm_r, bp_lt, ck_ib, ck_z, ck_o, ifT, ifF, n10, n01, pv_v, if_pos, if_neg, zI_nat, zI_add, zI_mul, zI_addl, zI_laddl, zI_mull, zI_lmul, zI_subl, zI_pred, zI_le, zI_lt, zI_eq, zI_lel, zI_lle, zI_ltl, zI_llt, zI_eql, zI_leq, zI_ne1, zI_1ne]
      rw [e5]
      exact ⟨_, w, rfl, mrel_6 r1 1, eqw_rf n w, frm_tr (frm_tr (frm_wI rfl m' 6 0) r2) (frm_wI rfl x2 6 1), by rw [wI_eq, upd_eq]⟩
  · refine ok_err (c := 0) (code := 1) (m1 := mi) hM (by simp (discharger := omega) only [F_X3_purge, p_isT0' hp, jb_purge, bd_e, bo_e, bm_e, bts_l, bts_r, btm_l, btm_r, bp_lt, ck_ib, ck_z, ck_o, ifT, ifF, n10, n01, pv_v, if_pos, if_neg, zI_nat, zI_add, zI_mul, zI_addl, zI_laddl, zI_mull, zI_lmul, zI_subl, zI_pred, zI_le, zI_lt, zI_eq, zI_lel, zI_lle, zI_ltl, zI_llt, zI_eql, zI_leq, zI_ne1, zI_1ne]) rfl (by decide) hP (frp_rf _) hA (v' := 0) (fun m' hm => ?_)
    have e2 : F_X4_purge p m' = some (0, wI (wI m' (3, 0, 0, 0) 6 0) (3, 0, 0, 0) 6 1) := by
      simp (discharger := omega) only [F_X4_purge, m_isT0 hp, J_X4_purge_19, m_fails, bd_e, bo_e, bm_e, bts_l, bts_r, btm_l, btm_r, bp_lt, ck_ib, ck_z, ck_o, ifT, ifF, n10, n01, pv_v, if_pos, if_neg, zI_nat, zI_add, zI_mul, zI_addl, zI_laddl, zI_mull, zI_lmul, zI_subl, zI_pred, zI_le, zI_lt, zI_eq, zI_lel, zI_lle, zI_ltl, zI_llt, zI_eql, zI_leq, zI_ne1, zI_1ne]
    rw [e2]
    exact mok_fail hm 1
end QQ
