/-! rows go out -/
def fL (q : Nat → Bool) (n : Nat) : List Nat := (List.range n).filter q
theorem fL_succ (q : Nat → Bool) (n : Nat) : fL q (n + 1) = fL q n ++ (if q n = true then [n] else []) := by
  unfold fL
  rw [List.range_succ, List.filter_append]
  by_cases h : q n = true
  · rw [if_pos h, List.filter_cons_of_pos h]; rfl
  · rw [if_neg h, List.filter_cons_of_neg h]; rfl
theorem fL_len (q : Nat → Bool) (n : Nat) : (fL q n).length ≤ n := by
  have h := List.length_filter_le q (List.range n)
  rw [List.length_range] at h
  exact h
theorem fL_mem {q : Nat → Bool} {n r : Nat} (h : r ∈ fL q n) : r < n ∧ q r = true := by
  unfold fL at h
  rw [List.mem_filter, List.mem_range] at h
  exact h
theorem fL_at {q : Nat → Bool} {r : Nat} (hq : q r = true) : ∀ n, r < n → (fL q n)[(fL q r).length]? = some r := by
  intro n
  induction n with
  | zero => exact fun h => absurd h (Nat.not_lt_zero r)
  | succ n ih =>
    intro h
    rw [fL_succ]
    by_cases e : r = n
    · subst e
      rw [List.getElem?_append_right (Nat.le_refl _), Nat.sub_self, if_pos hq]
      rfl
    · have h1 := ih (by omega)
      rw [List.getElem?_append_left (List.getElem?_eq_some_iff.mp h1).1]
      exact h1
section QQ
variable {m m2 mi x : Mem} {n n2 k L T s t r nt : Nat} {w w2 tx tl ts tn : Nat → Int32} {pa : Nat → Nat → Int32} {nn TT : Nat → Nat} {l : List Nat}
theorem lb1_ne {s a b : Nat} (h : a ≠ b) : ((1, s, 0, a) : Lb) ≠ (1, s, 0, b) := fun e => h (by injection e with _ e; injection e with _ e; injection e)
theorem p_copyRow (i0 i1 : Nat) (m : Mem) {r kp : Nat} (hr : r < 120) (hk : kp < 120) : ∃ m2, F_X1_copyRow i0 i1 (zI r) (zI kp) m = some ((), m2) ∧ m2.2 = m.2 ∧ (∀ lb : Lb, lb ≠ (1, i0, 0, 2) → lb ≠ (1, i0, 0, 3) → m2.1 lb = m.1 lb) ∧ m2.1 (1, i0, 0, 2) = upd (m.1 (1, i0, 0, 2)) kp (m.1 (1, i1, 0, 2) r) ∧ (∀ c, c < 8 → m2.1 (1, i0, 0, 3) (kp * 8 + c) = m.1 (1, i1, 0, 3) (r * 8 + c)) ∧ ∀ i, i < kp * 8 ∨ kp * 8 + 8 ≤ i → m2.1 (1, i0, 0, 3) i = m.1 (1, i0, 0, 3) i := by
  obtain ⟨m1, hm1⟩ : ∃ m1, m1 = wI m (1, i0, 0, 2) kp (m.1 (1, i1, 0, 2) r) := ⟨_, rfl⟩
  have v3 : ∀ i, m1.1 (1, i, 0, 3) = m.1 (1, i, 0, 3) := fun i => by
    rw [hm1, wI_ne (fun e => by injection e with _ e; injection e with _ e; injection e with _ e; exact absurd e (by decide))]
  obtain ⟨m2, hm2⟩ : ∃ m2, m2 = wA m1 (1, i0, 0, 3) (va_cpy (m1.1 (1, i1, 0, 3)) (m1.1 (1, i0, 0, 3)) (r * 8) (kp * 8) 8) := ⟨_, rfl⟩
  have e3 : m2.1 (1, i0, 0, 3) = va_cpy (m1.1 (1, i1, 0, 3)) (m1.1 (1, i0, 0, 3)) (r * 8) (kp * 8) 8 := by rw [hm2, wA_self]
  refine ⟨m2, ?_, by rw [hm2, hm1]; rfl, fun lb a b => by rw [hm2, wA_ne _ _ b, hm1, wI_ne a], ?_, fun c hc => ?_, fun i hi => ?_⟩
  · have z8 : Int32.toNatClampNeg 8 = 8 := rfl
    have ek : ∀ {α : Type} (y : Option α), ck (!decide (zI (r * 8) < 0) && !decide (zI (kp * 8) < 0) && !decide ((8 : Nat) < 0) && decide (Int32.toNatClampNeg (zI (r * 8)) + Int32.toNatClampNeg 8 ≤ 960) && decide (Int32.toNatClampNeg (zI (kp * 8)) + Int32.toNatClampNeg 8 ≤ 960)) y = y := fun y => ck_cpy (C := 8) (zI_nn (by omega)) (zI_nn (by omega)) (by decide) rfl rfl rfl (by omega) (by omega) (by omega) (by omega)
    unfold F_X1_copyRow
    rw [ck_ib (by omega) (by omega), bd_e, zI_nat (by omega), ck_ib (by omega) (by omega), zI_nat (by omega), bd_e, ← hm1, bd_e, zI_mull, bd_e, zI_mull, ek, bd_e, zI_nat (by omega), zI_nat (by omega), z8, ← hm2]
  · rw [hm2, wA_ne _ _ (lb1_ne (by decide)), hm1, wI_eq]
  · rw [e3, cpy_in _ _ (by omega) (by omega), v3, show r * 8 + (kp * 8 + c - kp * 8) = r * 8 + c by omega]
  · rw [e3, cpy_out _ _ hi, v3]
/- rows that a list of numbers names go out -/
theorem p_removeRows (h : SR m.1 s w n) (q : Nat → Bool) (hq : FH (m.1 (0, 0, 0, 4)) (fL q n)) : ∃ m2, F_X1_removeRows s (zI (fL q n).length) m = some ((), m2) ∧ FrT s m m2 ∧ SR m2.1 s (lsW (fL (fun r => !q r) n) w) (fL (fun r => !q r) n).length := by
  obtain ⟨a1, a2, a3, a4, a5, a6, a7, a8⟩ := id h
  unfold F_X1_removeRows
  have hlq := fL_len q n
  have hln := fL_len (fun r => !q r) n
  refine loop_ex (L := fun k (a : Nat × Nat × Mem) i => L_X1_removeRows_8 s (zI (fL q n).length) k (zI a.1) (zI a.2.1) i a.2.2)
    (P := fun r a => a.1 = (fL (fun r => !q r) r).length ∧ a.2.1 = (fL q r).length ∧ a.2.2.2 = m.2 ∧ (∀ lb : Lb, lb ≠ (1, s, 0, 2) → lb ≠ (1, s, 0, 3) → a.2.2.1 lb = m.1 lb) ∧ (∀ i, i < (fL (fun r => !q r) r).length → a.2.2.1 (1, s, 0, 2) i = w (9 * gt0 (fL (fun r => !q r) r) i)) ∧ (∀ i, i < (fL (fun r => !q r) r).length → ∀ c, c < 8 → a.2.2.1 (1, s, 0, 3) (i * 8 + c) = pv (w (9 * gt0 (fL (fun r => !q r) r) i + 1 + c))) ∧ (∀ i, r ≤ i → i < n → a.2.2.1 (1, s, 0, 2) i = w (9 * i)) ∧ ∀ i, r ≤ i → i < n → ∀ c, c < 8 → a.2.2.1 (1, s, 0, 3) (i * 8 + c) = pv (w (9 * i + 1 + c)))
    (R := fun y => ∃ m2, y = some ((), m2) ∧ FrT s m m2 ∧ SR m2.1 s (lsW (fL (fun r => !q r) n) w) (fL (fun r => !q r) n).length) (n := n) ?_ ?_ n 0 fu (0, 0, m) (by omega) (by rw [fu_eq]; omega) ⟨rfl, rfl, rfl, fun _ _ _ => rfl, fun i hi => absurd hi (Nat.not_lt_zero i), fun i hi => absurd hi (Nat.not_lt_zero i), fun i _ hi => a4 i hi, fun i _ hi c hc => a5 i hi c hc⟩
  · rintro k ⟨kp, nx, x⟩ r hr ⟨p1, p2, p3, p4, p6, p7, p8, p9⟩
    simp only at p1 p2 p3 p4 p6 p7 p8 p9
    refine Or.inl ?_
    have x3 : x.1 (1, s, 0, 0) 3 = zI n := by rw [p4 _ (lb1_ne (by decide)) (lb1_ne (by decide))]; exact a3
    have xf : x.1 (0, 0, 0, 4) = m.1 (0, 0, 0, 4) := p4 _ (fun e => by injection e with e _; exact absurd e (by decide)) (fun e => by injection e with e _; exact absurd e (by decide))
    have lr := fL_len q r
    have lrn := fL_len (fun r => !q r) r
    by_cases hqr : q r = true
    · have hat := fL_at hqr n hr
      have hlt := (List.getElem?_eq_some_iff.mp hat).1
      have hnum := hq _ _ hat
      rw [← p2] at hlt hnum
      have e1 : fL (fun r => !q r) (r + 1) = fL (fun r => !q r) r := by
        rw [fL_succ, if_neg (by rw [hqr]; decide), List.append_nil]
      have e2 : (fL q (r + 1)).length = (fL q r).length + 1 := by
        rw [fL_succ, if_pos hqr, List.length_append]; rfl
      refine ⟨(kp, nx + 1, x), ⟨by rw [e1]; exact p1, by rw [e2, ← p2], p3, p4, by rw [e1]; exact p6, by rw [e1]; exact p7, fun i h1 h2 => p8 i (by omega) h2, fun i h1 h2 => p9 i (by omega) h2⟩, ?_⟩
      have h1 : ¬ (fL q n).length ≤ nx := by omega
      rw [← xf] at hnum
      simp (discharger := omega) only [L_X1_removeRows_8, x3, h1, hnum, J_X1_removeRows_56, bd_e, bo_e, bm_e, bts_l, bts_r, btm_l, btm_r, bp_lt, ck_ib, ck_z, ck_o, ifT, ifF, n10, n01, pv_v, if_pos, if_neg, zI_nat, zI_add, zI_mul, zI_addl, zI_laddl, zI_mull, zI_lmul, zI_subl, zI_pred, zI_le, zI_lt, zI_eq, zI_lel, zI_lle, zI_ltl, zI_llt, zI_eql, zI_leq, zI_ne1, zI_1ne]
    · have e1 : fL (fun r => !q r) (r + 1) = fL (fun r => !q r) r ++ [r] := by
        rw [fL_succ, if_pos (by rw [Bool.eq_false_iff.mpr hqr]; rfl)]
      have e2 : fL q (r + 1) = fL q r := by
        rw [fL_succ, if_neg hqr, List.append_nil]
      obtain ⟨x2, c1, c2, c3, c4, c5, c6⟩ := p_copyRow s s x (r := r) (kp := kp) (by omega) (by omega)
      have g1 : ∀ i, i < kp → gt0 (fL (fun r => !q r) r ++ [r]) i = gt0 (fL (fun r => !q r) r) i := fun i hi => by rw [gt0_app, if_pos (by omega)]
      have g2 : gt0 (fL (fun r => !q r) r ++ [r]) kp = r := by rw [gt0_app, if_neg (by omega), p1, Nat.sub_self]; rfl
      have step : L_X1_removeRows_8 s (zI (fL q n).length) (k + 1) (zI kp) (zI nx) (zI r) x = L_X1_removeRows_8 s (zI (fL q n).length) k (zI (kp + 1)) (zI nx) (zI (r + 1)) x2 := by
        by_cases h1 : (fL q n).length ≤ nx
        · simp (discharger := omega) only [L_X1_removeRows_8, x3, h1, J_X1_removeRows_45, c1, J_X1_removeRows_56, bd_e, bo_e, bm_e, bts_l, bts_r, btm_l, btm_r, bp_lt, ck_ib, ck_z, ck_o, ifT, ifF, n10, n01, pv_v, if_pos, if_neg, zI_nat, zI_add, zI_mul, zI_addl, zI_laddl, zI_mull, zI_lmul, zI_subl, zI_pred, zI_le, zI_lt, zI_eq, zI_lel, zI_lle, zI_ltl, zI_llt, zI_eql, zI_leq, zI_ne1, zI_1ne]
        · have hg : (fL q n)[nx]? = some ((fL q n)[nx]'(by omega)) := List.getElem?_eq_getElem (by omega)
          have hnum := hq _ _ hg
          have hmem := fL_mem (List.getElem_mem (l := fL q n) (n := nx) (by omega))
          have hne : ¬ (fL q n)[nx]'(by omega) = r := fun e => hqr (by rw [← e]; exact hmem.2)
          generalize (fL q n)[nx]'(by omega) = y at hnum hmem hne
          rw [← xf] at hnum
          have hy := hmem.1
          simp (discharger := omega) only [L_X1_removeRows_8, x3, h1, hnum, hne, J_X1_removeRows_45, c1, J_X1_removeRows_56, bd_e, bo_e, bm_e, bts_l, bts_r, btm_l, btm_r, bp_lt, ck_ib, ck_z, ck_o, ifT, ifF, n10, n01, pv_v, if_pos, if_neg, zI_nat, zI_add, zI_mul, zI_addl, zI_laddl, zI_mull, zI_lmul, zI_subl, zI_pred, zI_le, zI_lt, zI_eq, zI_lel, zI_lle, zI_ltl, zI_llt, zI_eql, zI_leq, zI_ne1, zI_1ne]
      refine ⟨(kp + 1, nx, x2), ⟨by rw [e1, List.length_append, ← p1]; rfl, by rw [e2]; exact p2, c2.trans p3, fun lb h1 h2 => (c3 lb h1 h2).trans (p4 lb h1 h2), fun i hi => ?_, fun i hi c hc => ?_, fun i h1 h2 => ?_, fun i h1 h2 c hc => ?_⟩, step⟩
      · rw [e1, List.length_append] at hi
        have hi2 : i < (fL (fun r => !q r) r).length + 1 := hi
        show x2.1 (1, s, 0, 2) i = _
        rw [c4, e1]
        by_cases e : i = kp
        · rw [e, upd_eq, g2]; exact p8 r (Nat.le_refl r) hr
        · rw [upd_ne _ e, g1 i (by omega)]; exact p6 i (by omega)
      · rw [e1, List.length_append] at hi
        have hi2 : i < (fL (fun r => !q r) r).length + 1 := hi
        show x2.1 (1, s, 0, 3) (i * 8 + c) = _
        rw [e1]
        by_cases e : i = kp
        · rw [e, c5 c hc, g2]; exact p9 r (Nat.le_refl r) hr c hc
        · rw [c6 _ (by omega), g1 i (by omega)]; exact p7 i (by omega) c hc
      · show x2.1 (1, s, 0, 2) i = _
        rw [c4, upd_ne _ (by omega)]; exact p8 i (by omega) h2
      · show x2.1 (1, s, 0, 3) (i * 8 + c) = _
        rw [c6 _ (by omega)]; exact p9 i (by omega) h2 c hc
  · rintro k ⟨kp, nx, x⟩ ⟨p1, p2, p3, p4, p6, p7, p8, p9⟩
    simp only at p1 p2 p3 p4 p6 p7 p8 p9
    have x3 : x.1 (1, s, 0, 0) 3 = zI n := by rw [p4 _ (lb1_ne (by decide)) (lb1_ne (by decide))]; exact a3
    have y : ∀ j, j ≠ 0 → (wI x (1, s, 0, 0) 3 (zI kp)).1 (1, s, 0, j) = x.1 (1, s, 0, j) := fun j hj => wI_ne (lb1_ne hj) x 3 _
    refine ⟨wI x (1, s, 0, 0) 3 (zI kp), ?_, FrT.tr (m2 := x) ⟨fun lb hl => p4 lb (fun e => hl (by rw [e]; exact wr1 _ _ _)) (fun e => hl (by rw [e]; exact wr1 _ _ _)), p3⟩ (frt_wI (wr1 _ _ _) x 3 _), ?_⟩
    · simp (discharger := omega) only [L_X1_removeRows_8, C_X1_removeRows_62, x3, Nat.le_refl, bd_e, bo_e, bm_e, bts_l, bts_r, btm_l, btm_r, bp_lt, ck_ib, ck_z, ck_o, ifT, ifF, n10, n01, pv_v, if_pos, if_neg, zI_nat, zI_add, zI_mul, zI_addl, zI_laddl, zI_mull, zI_lmul, zI_subl, zI_pred, zI_le, zI_lt, zI_eq, zI_lel, zI_lle, zI_ltl, zI_llt, zI_eql, zI_leq, zI_ne1, zI_1ne]
    · refine sr_list (m1 := m) h (by omega) (fun i hi => (fL_mem (gt0_mem hi)).1) ?_ (fun i hi => ?_) (fun i hi c hc => ?_) (fun a b => ?_)
      · rw [wI_eq, upd_eq, p1]
      · rw [y 2 (by decide)]; exact p6 i hi
      · rw [y 3 (by decide)]; exact p7 i hi c hc
      · rw [wI_ne (fun e => by injection e with e _; exact absurd e (by decide))]
        exact p4 _ (fun e => by injection e with e _; exact absurd e (by decide)) (fun e => by injection e with e _; exact absurd e (by decide))
/- the reference's array stands for rows by a list -/
def XL (x : Mem) (w : Nat → Int32) (l : List Nat) (k : Nat) (pa : Nat → Nat → Int32) (L : Nat) (tx : Nat → Int32) : Prop := ∃ w2, MRel x w2 k pa L tx ∧ EQW l.length w2 (lsW l w)
theorem gt0_erase (l : List Nat) (r i : Nat) : gt0 (l.eraseIdx r) i = if i < r then gt0 l i else gt0 l (i + 1) := by
  unfold gt0
  rw [List.getD_eq_getElem?_getD, List.getElem?_eraseIdx]
  by_cases h : i < r
  · rw [if_pos h, if_pos h, List.getD_eq_getElem?_getD]
  · rw [if_neg h, if_neg h, List.getD_eq_getElem?_getD]
theorem lsW_range (hn : n ≤ 120) (h : w 1080 = zI n) : EQW n w (lsW (List.range n) w) := by
  intro i hi
  unfold lsW
  rw [List.length_range]
  by_cases h1 : i < 9 * n
  · rw [if_pos h1, gt0_range (by omega), show 9 * (i / 9) + i % 9 = i by omega]
  · rw [if_neg h1]
    by_cases h2 : i = 1080
    · rw [if_pos h2, h2, h]
    · rw [if_neg h2]
theorem fL_single : ∀ n, r < n → fL (fun y => decide (y = r)) n = [r] := by
  intro n
  induction n with
  | zero => exact fun h => absurd h (Nat.not_lt_zero r)
  | succ n ih =>
    intro h
    rw [fL_succ]
    by_cases e : n = r
    · rw [if_pos (decide_eq_true e)]
      have h0 : fL (fun y => decide (y = r)) n = [] := by
        refine List.filter_eq_nil_iff.mpr (fun a ha => ?_)
        rw [decide_eq_true_eq]
        have := List.mem_range.mp ha
        omega
      rw [h0, e]; rfl
    · rw [if_neg (by rw [decide_eq_true_eq]; exact e), List.append_nil]
      exact ih (by omega)
theorem fL_all {q : Nat → Bool} : ∀ n, (∀ y, y < n → q y = true) → fL q n = List.range n := by
  intro n
  induction n with
  | zero => exact fun _ => rfl
  | succ n ih =>
    intro h
    rw [fL_succ, if_pos (h n (Nat.lt_succ_self n)), ih (fun y hy => h y (by omega)), List.range_succ]
theorem erase_range : ∀ n, r < n → (List.range n).eraseIdx r = fL (fun y => !decide (y = r)) n := by
  intro n
  induction n with
  | zero => exact fun h => absurd h (Nat.not_lt_zero r)
  | succ n ih =>
    intro h
    rw [fL_succ, List.range_succ]
    by_cases e : n = r
    · subst e
      rw [if_neg (by rw [decide_eq_true rfl]; decide), List.append_nil, List.eraseIdx_append_of_length_le (by rw [List.length_range]; exact Nat.le_refl _), List.length_range, Nat.sub_self, fL_all n (fun y hy => by rw [decide_eq_false (by omega)]; rfl)]
      exact List.append_nil _
    · rw [if_pos (by rw [decide_eq_false e]; rfl), List.eraseIdx_append_of_lt_length (by rw [List.length_range]; omega), ih (by omega)]
theorem fL_sub (q : Nat → Bool) (n : Nat) : (fL q n).Sublist (List.range n) := List.filter_sublist
theorem an_eq {r : Nat} (h : ∀ k, k < 9 → w2 (9 * r + k) = w (9 * r + k)) (e : ∀ i, 1081 ≤ i → i < 1105 → w2 i = w i) (ht : t < 3) : an w2 nt tl ts tn t r = an w nt tl ts tn t r := by
  have hc : ∀ lt, cO w2 t lt = cO w t lt := fun lt => by
    unfold cO
    exact fo_congr (fun c b hc => by rw [e _ (by omega) (by omega)])
  have hv : ∀ c, isC c → vl w2 r c = vl w r c := by
    rintro c (rfl | ⟨k, hk, rfl⟩)
    · rfl
    · rw [vl_c w2 r hk, vl_c w r hk, show 9 * r + 1 + k = 9 * r + (1 + k) by omega, h _ (by omega)]
  unfold an
  rw [show w2 (9 * r) = w (9 * r) from h 0 (by omega)]
  congr 1
  refine bA_congr (fun k _ => ?_)
  unfold okT
  rw [hc, hv _ (cO_isC w t (tl k))]
end QQ

