/-! rows in their order; move -/
/- the lists of the tables 0 .. c - 1, one behind another -/
def slp (f : Nat → Nat) (n : Nat) : Nat → List Nat
  | 0 => []
  | c + 1 => slp f n c ++ fL (fun r => decide (f r = c)) n
theorem loop_gx {α β : Type} {L : Nat → α → Int32 → β} {ix : Nat → Int32} {P : Nat → α → Prop} {R : β → Prop} {n : Nat} (hs : ∀ k a r, r < n → P r a → (∃ a2, P (r + 1) a2 ∧ L (k + 1) a (ix r) = L k a2 (ix (r + 1))) ∨ R (L (k + 1) a (ix r))) (he : ∀ k a, P n a → R (L (k + 1) a (ix n))) : ∀ (d r k : Nat) (a : α), r + d = n → d < k → P r a → R (L k a (ix r)) := by
  intro d
  induction d with
  | zero =>
    intro r k a hr hk hp
    obtain ⟨k2, rfl⟩ : ∃ k2, k = k2 + 1 := ⟨k - 1, by omega⟩
    rw [show r = n by omega] at hp ⊢
    exact he k2 a hp
  | succ d ih =>
    intro r k a hr hk hp
    obtain ⟨k2, rfl⟩ : ∃ k2, k = k2 + 1 := ⟨k - 1, by omega⟩
    rcases hs k2 a r (by omega) hp with ⟨a2, hp2, e⟩ | h
    · rw [e]
      exact ih (r + 1) k2 a2 (by omega) (by omega) hp2
    · exact h
theorem fL_cn (q P : Nat → Bool) (n : Nat) : (fL q n).countP P = cn (fun r => P r && q r) n := by
  induction n with
  | zero => rfl
  | succ n ih =>
    rw [fL_succ, List.countP_append, ih]
    show _ = cn (fun r => P r && q r) n + (if (P n && q n) = true then 1 else 0)
    by_cases h : q n = true
    · rw [if_pos h, h, Bool.and_true, List.countP_cons, List.countP_nil, Nat.zero_add]
    · rw [if_neg h, Bool.eq_false_iff.mpr h, Bool.and_false]
      rfl
theorem fL_cnl (q : Nat → Bool) (n : Nat) : (fL q n).length = cn q n := by
  have h := fL_cn q (fun _ => true) n
  rw [List.countP_eq_length.mpr (fun _ _ => rfl)] at h
  rw [h]
  exact cn_congr (fun r _ => Bool.true_and _)
theorem cn_add {p q r : Nat → Bool} {n : Nat} (h : ∀ i, i < n → (if p i = true then 1 else 0) = (if q i = true then 1 else 0) + (if r i = true then 1 else 0)) : cn p n = cn q n + cn r n := by
  induction n with
  | zero => rfl
  | succ n ih =>
    show cn p n + _ = (cn q n + _) + (cn r n + _)
    rw [ih (fun i hi => h i (by omega)), h n (by omega)]
    omega
theorem cn_or {p q r : Nat → Bool} {n : Nat} (h : ∀ i, i < n → p i = true → q i = true ∨ r i = true) : cn p n ≤ cn q n + cn r n := by
  induction n with
  | zero => exact Nat.le_refl 0
  | succ n ih =>
    have h1 := ih (fun i hi => h i (by omega))
    show cn p n + (if p n = true then 1 else 0) ≤ (cn q n + (if q n = true then 1 else 0)) + (cn r n + (if r n = true then 1 else 0))
    by_cases hp : p n = true
    · rw [if_pos hp]
      rcases h n (by omega) hp with hq | hq
      · rw [if_pos hq]; omega
      · rw [if_pos hq]; omega
    · rw [if_neg hp]; omega
theorem slp_cn (f : Nat → Nat) (n : Nat) (P : Nat → Bool) (c : Nat) : (slp f n c).countP P = cn (fun r => P r && decide (f r < c)) n := by
  induction c with
  | zero => exact (cn_none (fun r _ => Bool.and_false _)).symm
  | succ c ih =>
    show (slp f n c ++ fL (fun r => decide (f r = c)) n).countP P = _
    rw [List.countP_append, ih, fL_cn]
    refine (cn_add (fun i _ => ?_)).symm
    cases P i with
    | false => rfl
    | true =>
      rcases Nat.lt_trichotomy (f i) c with h | h | h
      · rw [decide_eq_true (show f i < c + 1 by omega), decide_eq_true h, decide_eq_false (show ¬ f i = c by omega)]; rfl
      · rw [decide_eq_true (show f i < c + 1 by omega), decide_eq_false (show ¬ f i < c by omega), decide_eq_true h]; rfl
      · rw [decide_eq_false (show ¬ f i < c + 1 by omega), decide_eq_false (show ¬ f i < c by omega), decide_eq_false (show ¬ f i = c by omega)]; rfl
theorem slp_len (f : Nat → Nat) (n c r : Nat) (hr : r ≤ n) : (slp f n c ++ fL (fun r => decide (f r = c)) r).length ≤ n := by
  have h1 := slp_cn f n (fun _ => true) c
  rw [List.countP_eq_length.mpr (fun _ _ => rfl)] at h1
  have h2 : (fL (fun r => decide (f r = c)) r).length ≤ cn (fun r => decide (f r = c)) n := by
    rw [fL_cnl]
    clear h1
    induction n with
    | zero => rw [show r = 0 by omega]; exact Nat.le_refl _
    | succ n ih =>
      by_cases e : r = n + 1
      · rw [e]; exact Nat.le_refl _
      · exact Nat.le_trans (ih (by omega)) (Nat.le_add_right _ _)
  have h3 : cn (fun r => true && decide (f r < c)) n + cn (fun r => decide (f r = c)) n = cn (fun r => decide (f r < c + 1)) n := by
    refine (cn_add (fun i _ => ?_)).symm
    rcases Nat.lt_trichotomy (f i) c with h | h | h
    · rw [decide_eq_true (show f i < c + 1 by omega), decide_eq_true h, decide_eq_false (show ¬ f i = c by omega)]; rfl
    · rw [decide_eq_true (show f i < c + 1 by omega), decide_eq_false (show ¬ f i < c by omega), decide_eq_true h]; rfl
    · rw [decide_eq_false (show ¬ f i < c + 1 by omega), decide_eq_false (show ¬ f i < c by omega), decide_eq_false (show ¬ f i = c by omega)]; rfl
  have h4 := cn_le (fun r => decide (f r < c + 1)) n
  rw [List.length_append, h1]
  omega
theorem slp_mem {f : Nat → Nat} {n c r : Nat} (h : r ∈ slp f n c) : r < n ∧ f r < c := by
  induction c with
  | zero => cases h
  | succ c ih =>
    rcases List.mem_append.mp h with h | h
    · have := ih h; omega
    · have := fL_mem h
      have h2 := of_decide_eq_true this.2
      omega
theorem slp_sorted (f : Nat → Nat) (n c : Nat) : (slp f n c).Pairwise (fun a b => f a ≤ f b) := by
  induction c with
  | zero => exact List.Pairwise.nil
  | succ c ih =>
    refine List.pairwise_append.mpr ⟨ih, ?_, fun a ha b hb => ?_⟩
    · refine List.pairwise_iff_getElem.mpr (fun i j hi hj _ => ?_)
      have h1 := of_decide_eq_true (fL_mem (List.getElem_mem hi)).2
      have h2 := of_decide_eq_true (fL_mem (List.getElem_mem hj)).2
      omega
    · have h1 := (slp_mem ha).2
      have h2 := of_decide_eq_true (fL_mem hb).2
      omega
theorem slp4 {f : Nat → Nat} {n : Nat} (hf : ∀ r, r < n → f r < 4) (P : Nat → Bool) : (slp f n 4).countP P = cn P n := by
  rw [slp_cn]
  exact cn_congr (fun r hr => by rw [decide_eq_true (hf r hr), Bool.and_true])
theorem slp4_len {f : Nat → Nat} {n : Nat} (hf : ∀ r, r < n → f r < 4) : (slp f n 4).length = n := by
  have h := slp4 hf (fun _ => true)
  rw [List.countP_eq_length.mpr (fun _ _ => rfl), cn_low (p := fun _ => true) (Nat.le_refl n) (fun _ _ => rfl) (fun r h1 h2 => by omega)] at h
  exact h
section QR
variable {m m2 mi x : Mem} {n n2 k L T s q t r : Nat} {w w2 v tx : Nat → Int32} {pa : Nat → Nat → Int32} {nn TT : Nat → Nat} {l : List Nat}
theorem cls_lt (ho : OW w n) {r : Nat} (hr : r < n) : cls w r < 4 := by
  obtain ⟨t, ht, hw⟩ := ho r hr
  unfold cls
  rw [hw, zI_nat (by omega)]
  by_cases h : mvd w r = 0
  · rw [if_pos h]; omega
  · rw [if_neg h]; omega
theorem p_tableOf (h : SR m.1 s v n) {r : Nat} (ho : OW v n) (hr : r < n) : F_X1_tableOf s (v (9 * r)) m = some (zI (cls v r)) := by
  obtain ⟨t, ht, hw⟩ := ho r hr
  have e := (h.2.2.2.2.2.2.1 t ht).2.2.1
  unfold cls
  rw [hw, mvd_of ht hw, zI_nat (by omega)]
  by_cases hv : v (1159 + t) = 0
  · rw [if_pos hv]
    simp (discharger := omega) only [F_X1_tableOf, J_X1_tableOf_19, e, hv, bd_e, bo_e, bm_e, bts_l, bts_r, btm_l, btm_r, bp_lt, ck_ib, ck_z, ck_o, ifT, ifF, n10, n01, pv_v, if_pos, if_neg, zI_nat, zI_add, zI_mul, zI_addl, zI_laddl, zI_mull, zI_lmul, zI_subl, zI_pred, zI_le, zI_lt, zI_eq, zI_lel, zI_lle, zI_ltl, zI_llt, zI_eql, zI_leq, zI_ne1, zI_1ne] <;> rfl
  · rw [if_neg hv]
    simp (discharger := omega) only [F_X1_tableOf, J_X1_tableOf_19, e, hv, bd_e, bo_e, bm_e, bts_l, bts_r, btm_l, btm_r, bp_lt, ck_ib, ck_z, ck_o, ifT, ifF, n10, n01, pv_v, if_pos, if_neg, zI_nat, zI_add, zI_mul, zI_addl, zI_laddl, zI_mull, zI_lmul, zI_subl, zI_pred, zI_le, zI_lt, zI_eq, zI_lel, zI_lle, zI_ltl, zI_llt, zI_eql, zI_leq, zI_ne1, zI_1ne]
/- the rows of the state before, in the order that is due now -/
theorem p_order (hS : SR m.1 s v n) (hB : SR m.1 q w n) (hqs : q ≠ s) (hw : ∀ i, i < 9 * n → v i = w i) : ∃ m2, F_X1_orderRowsOf s q m = some ((), m2) ∧ FrT s m m2 ∧ (∀ a b, m2.1 (2, s, a, b) = m.1 (2, s, a, b)) ∧ SR m2.1 s (lsW (slp (cls v) n 4) v) (slp (cls v) n 4).length := by
  obtain ⟨a1, a2, a3, a4, a5, a6, a7, a8⟩ := id hS
  obtain ⟨b1, b2, b3, b4, b5, b6, b7, b8⟩ := id hB
  have nq : ∀ a b d : Nat, ((1, q, a, b) : Lb) ≠ (1, s, 0, d) := fun a b d e => hqs (by injection e with _ e; injection e with e _)
  have n2' : ∀ a b c d : Nat, ((2, a, b, c) : Lb) ≠ (1, s, 0, d) := fun a b c d e => by injection e with e _; exact absurd e (by decide)
  have KR : ∀ (l : List Nat) (x : Mem), Prop := fun _ _ => True
  obtain ⟨m1, hm1⟩ : ∃ m1, m1 = wI m (1, s, 0, 0) 3 0 := ⟨_, rfl⟩
  have st : F_X1_orderRowsOf s q m = L_X1_orderRowsOf_7 s q fu 0 m1 := by
    unfold F_X1_orderRowsOf
    rw [bd_e, ← hm1]
  have tab : ∀ (x : Mem), (∀ a b, x.1 (2, s, a, b) = m.1 (2, s, a, b)) → ∀ r, r < n → F_X1_tableOf s (v (9 * r)) x = some (zI (cls v r)) := by
    intro x hx r hr
    obtain ⟨t, ht, how⟩ := a8 r hr
    have e := (a7 t ht).2.2.1
    rw [← hx] at e
    unfold cls
    rw [how, mvd_of ht how, zI_nat (by omega)]
    by_cases hv : v (1159 + t) = 0
    · rw [if_pos hv]
      simp (discharger := omega) only [F_X1_tableOf, J_X1_tableOf_19, e, hv, bd_e, bo_e, bm_e, bts_l, bts_r, btm_l, btm_r, bp_lt, ck_ib, ck_z, ck_o, ifT, ifF, n10, n01, pv_v, if_pos, if_neg, zI_nat, zI_add, zI_mul, zI_addl, zI_laddl, zI_mull, zI_lmul, zI_subl, zI_pred, zI_le, zI_lt, zI_eq, zI_lel, zI_lle, zI_ltl, zI_llt, zI_eql, zI_leq, zI_ne1, zI_1ne] <;> rfl
    · rw [if_neg hv]
      simp (discharger := omega) only [F_X1_tableOf, J_X1_tableOf_19, e, hv, bd_e, bo_e, bm_e, bts_l, bts_r, btm_l, btm_r, bp_lt, ck_ib, ck_z, ck_o, ifT, ifF, n10, n01, pv_v, if_pos, if_neg, zI_nat, zI_add, zI_mul, zI_addl, zI_laddl, zI_mull, zI_lmul, zI_subl, zI_pred, zI_le, zI_lt, zI_eq, zI_lel, zI_lle, zI_ltl, zI_llt, zI_eql, zI_leq, zI_ne1, zI_1ne]
  -- what holds with the rows of a list taken over
  obtain ⟨PK, hPK⟩ : ∃ PK : List Nat → Mem → Prop, PK = fun l x => x.2 = m.2 ∧ (∀ lb : Lb, lb ≠ (1, s, 0, 0) → lb ≠ (1, s, 0, 2) → lb ≠ (1, s, 0, 3) → x.1 lb = m.1 lb) ∧ x.1 (1, s, 0, 0) 3 = zI l.length ∧ (∀ i, i < l.length → x.1 (1, s, 0, 2) i = v (9 * gt0 l i)) ∧ ∀ i, i < l.length → ∀ c, c < 8 → x.1 (1, s, 0, 3) (i * 8 + c) = pv (v (9 * gt0 l i + 1 + c)) := ⟨_, rfl⟩
  have inner : ∀ (c : Nat) (kb : Int32 → Mem → Option (Unit × Mem)) (x : Mem), c < 4 → PK (slp (cls v) n c) x → ∃ x2, L_X1_orderRowsOf_14 s q (zI c) kb fu 0 x = kb (zI (c + 1)) x2 ∧ PK (slp (cls v) n (c + 1)) x2 := by
    intro c kb x hc hx
    refine loop_ex (L := fun k (y : Mem) i => L_X1_orderRowsOf_14 s q (zI c) kb k i y) (P := fun r y => PK (slp (cls v) n c ++ fL (fun r => decide (cls v r = c)) r) y) (R := fun y => ∃ x2, y = kb (zI (c + 1)) x2 ∧ PK (slp (cls v) n (c + 1)) x2) (n := n) ?_ ?_ n 0 fu x (by omega) (by rw [fu_eq]; omega) (by rw [show fL (fun r => decide (cls v r = c)) 0 = [] from rfl, List.append_nil]; exact hx)
    · intro k y r hr hp
      refine Or.inl ?_
      rw [hPK] at hp
      obtain ⟨p1, p2, p3, p4, p5⟩ := hp
      have y3 : y.1 (1, q, 0, 0) 3 = zI n := by rw [p2 _ (nq _ _ _) (nq _ _ _) (nq _ _ _)]; exact b3
      have y2 : y.1 (1, q, 0, 2) r = v (9 * r) := by rw [p2 _ (nq _ _ _) (nq _ _ _) (nq _ _ _), b4 r hr, hw _ (by omega)]
      have yt := tab y (fun a b => p2 _ (n2' _ _ _ _) (n2' _ _ _ _) (n2' _ _ _ _)) r hr
      have hcl : cls v r < 4 := cls_lt a8 hr
      by_cases e : cls v r = c
      · have el : fL (fun r => decide (cls v r = c)) (r + 1) = fL (fun r => decide (cls v r = c)) r ++ [r] := by
          rw [fL_succ, if_pos (decide_eq_true e)]
        have hlen := slp_len (cls v) n c (r + 1) (by omega)
        rw [el, ← List.append_assoc, List.length_append] at hlen
        have hl1 : ([r] : List Nat).length = 1 := rfl
        generalize hL : slp (cls v) n c ++ fL (fun r => decide (cls v r = c)) r = l at p3 p4 p5 hlen
        obtain ⟨x2, c1, c2, c3, c4, c5, c6⟩ := p_copyRow s q y (r := r) (kp := l.length) (by omega) (by omega)
        have d3 : x2.1 (1, s, 0, 0) 3 = zI l.length := by rw [c3 _ (lb1_ne (by decide)) (lb1_ne (by decide))]; exact p3
        obtain ⟨x3, hx3⟩ : ∃ x3, x3 = wI x2 (1, s, 0, 0) 3 (zI (l.length + 1)) := ⟨_, rfl⟩
        refine ⟨x3, ?_, ?_⟩
        · rw [el, ← List.append_assoc, hL, hPK]
          have g1 : ∀ i, i < l.length → gt0 (l ++ [r]) i = gt0 l i := fun i hi => by rw [gt0_app, if_pos hi]
          have g2 : gt0 (l ++ [r]) l.length = r := by rw [gt0_app, if_neg (by omega), Nat.sub_self]; rfl
          refine ⟨by rw [hx3]; exact c2.trans p1, fun lb h0 h2 h3 => by rw [hx3, wI_ne h0, c3 lb h2 h3]; exact p2 lb h0 h2 h3, by rw [hx3, wI_eq, upd_eq, List.length_append]; rfl, fun i hi => ?_, fun i hi c2 hc2 => ?_⟩
          · rw [List.length_append] at hi
            rw [hx3, wI_ne (lb1_ne (by decide)), c4]
            by_cases e : i = l.length
            · rw [e, upd_eq, g2]; exact y2
            · rw [upd_ne _ e, g1 i (by omega)]; exact p4 i (by omega)
          · rw [List.length_append] at hi
            rw [hx3, wI_ne (lb1_ne (by decide))]
            by_cases e : i = l.length
            · rw [e, c5 _ hc2, g2, p2 _ (nq _ _ _) (nq _ _ _) (nq _ _ _), b5 r hr c2 hc2, hw _ (by omega)]
            · rw [c6 _ (by omega), g1 i (by omega)]; exact p5 i (by omega) c2 hc2
        · simp (discharger := omega) only [L_X1_orderRowsOf_14, y3, y2, yt, e, p3, c1, d3, bd_e, bo_e, bm_e, bts_l, bts_r, btm_l, btm_r, bp_lt, ck_ib, ck_z, ck_o, ifT, ifF, n10, n01, pv_v, if_pos, if_neg, zI_nat, zI_add, zI_mul, zI_addl, zI_laddl, zI_mull, zI_lmul, zI_subl, zI_pred, zI_le, zI_lt, zI_eq, zI_lel, zI_lle, zI_ltl, zI_llt, zI_eql, zI_leq, zI_ne1, zI_1ne]
          rw [← hx3]
          simp (discharger := omega) only [J_X1_orderRowsOf_56, bd_e, bo_e, bm_e, bts_l, bts_r, btm_l, btm_r, bp_lt, ck_ib, ck_z, ck_o, ifT, ifF, n10, n01, pv_v, if_pos, if_neg, zI_nat, zI_add, zI_mul, zI_addl, zI_laddl, zI_mull, zI_lmul, zI_subl, zI_pred, zI_le, zI_lt, zI_eq, zI_lel, zI_lle, zI_ltl, zI_llt, zI_eql, zI_leq, zI_ne1, zI_1ne]
      · have el : fL (fun r => decide (cls v r = c)) (r + 1) = fL (fun r => decide (cls v r = c)) r := by
          rw [fL_succ, if_neg (by rw [decide_eq_true_eq]; exact e), List.append_nil]
        refine ⟨y, ?_, ?_⟩
        · rw [el, hPK]; exact ⟨p1, p2, p3, p4, p5⟩
        · simp (discharger := omega) only [L_X1_orderRowsOf_14, y3, y2, yt, e, J_X1_orderRowsOf_56, bd_e, bo_e, bm_e, bts_l, bts_r, btm_l, btm_r, bp_lt, ck_ib, ck_z, ck_o, ifT, ifF, n10, n01, pv_v, if_pos, if_neg, zI_nat, zI_add, zI_mul, zI_addl, zI_laddl, zI_mull, zI_lmul, zI_subl, zI_pred, zI_le, zI_lt, zI_eq, zI_lel, zI_lle, zI_ltl, zI_llt, zI_eql, zI_leq, zI_ne1, zI_1ne]
    · intro k y hp
      refine ⟨y, ?_, hp⟩
      rw [hPK] at hp
      have y3 : y.1 (1, q, 0, 0) 3 = zI n := by rw [hp.2.1 _ (nq _ _ _) (nq _ _ _) (nq _ _ _)]; exact b3
      simp (discharger := omega) only [L_X1_orderRowsOf_14, C_X1_orderRowsOf_62, y3, Nat.le_refl, bd_e, bo_e, bm_e, bts_l, bts_r, btm_l, btm_r, bp_lt, ck_ib, ck_z, ck_o, ifT, ifF, n10, n01, pv_v, if_pos, if_neg, zI_nat, zI_add, zI_mul, zI_addl, zI_laddl, zI_mull, zI_lmul, zI_subl, zI_pred, zI_le, zI_lt, zI_eq, zI_lel, zI_lle, zI_ltl, zI_llt, zI_eql, zI_leq, zI_ne1, zI_1ne]
  have outer : ∃ x2, L_X1_orderRowsOf_7 s q fu 0 m1 = some ((), x2) ∧ PK (slp (cls v) n 4) x2 := by
    refine loop_ex (L := fun k (y : Mem) i => L_X1_orderRowsOf_7 s q k i y) (P := fun c y => PK (slp (cls v) n c) y) (R := fun y => ∃ x2, y = some ((), x2) ∧ PK (slp (cls v) n 4) x2) (n := 4) ?_ ?_ 4 0 fu m1 (by omega) (by rw [fu_eq]; omega) ?_
    · intro k y c hc hp
      obtain ⟨x2, e1, e2⟩ := inner c (fun w0 w1 => L_X1_orderRowsOf_7 s q k w0 w1) y hc hp
      refine Or.inl ⟨x2, e2, ?_⟩
      have h3 : ¬ 3 < c := by omega
      rw [L_X1_orderRowsOf_7, if_neg (by show ¬ zI 3 < zI c; rw [zI_lt (by omega) (by omega)]; exact h3)]
      exact e1
    · intro k y hp
      refine ⟨y, ?_, hp⟩
      have h4 : (3 : Int32) < zI 4 := by decide
      rw [L_X1_orderRowsOf_7, if_pos h4]
      rfl
    · rw [hPK]
      refine ⟨by rw [hm1]; rfl, fun lb h0 _ _ => by rw [hm1, wI_ne h0], by rw [hm1, wI_eq, upd_eq]; rfl, fun i hi => absurd hi (Nat.not_lt_zero i), fun i hi => absurd hi (Nat.not_lt_zero i)⟩
  obtain ⟨x2, o1, o2⟩ := outer
  rw [hPK] at o2
  obtain ⟨p1, p2, p3, p4, p5⟩ := o2
  have hlen : (slp (cls v) n 4).length = n := slp4_len (fun r hr => cls_lt a8 hr)
  refine ⟨x2, st.trans o1, ⟨fun lb hl => p2 lb (fun e => hl (by rw [e]; exact wr1 _ _ _)) (fun e => hl (by rw [e]; exact wr1 _ _ _)) (fun e => hl (by rw [e]; exact wr1 _ _ _)), p1⟩, fun a b => p2 _ (n2' _ _ _ _) (n2' _ _ _ _) (n2' _ _ _ _), ?_⟩
  exact sr_list (m1 := m) hS (by omega) (fun i hi => (slp_mem (gt0_mem hi)).1) p3 p4 p5 (fun a b => p2 _ (n2' _ _ _ _) (n2' _ _ _ _) (n2' _ _ _ _))
end QR

