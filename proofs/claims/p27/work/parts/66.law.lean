/-! the law's turns *-/
def Good (m : Mem) : Prop := ∃ w n T k pa nn TT tx, IS m w n T k pa nn TT 0 tx
section RJ
variable {m m2 mi : Mem} {n n2 k k2 L T T2 t l p i j : Nat} {w w2 tx : Nat → Int32} {pa pa2 : Nat → Nat → Int32} {nn TT nn2 TT2 : Nat → Nat} {sL : Nat} {sx : Nat → Int32} {kb : Int32 → Int32 → Int32 → Mem → Option Unit} {vt v v14 : Int32}
theorem l_302 (hL : sL ≤ 260) (h : IS m w n T k pa nn TT 0 tx) (hi : i < 44) (K : ∀ y, Good y → kb 1 vt (zI (i + 1)) y = some ()) : J_L_law_302 sL sx vt (zI i) kb v14 m = some () := by
  have e1 := a_table h
  obtain ⟨t, ht, e2⟩ := l_low v14 (n := 3) (by omega) (by omega) m
  have e2' : F_L_low v14 3 m = some (zI t) := e2
  obtain ⟨l, hl, e3⟩ := l_low (v14 >>> (2 &&& 31)) (n := 8) (by omega) (by omega) m
  have e3' : F_L_low (v14 >>> (2 &&& 31)) 8 m = some (zI l) := e3
  obtain ⟨b, e4⟩ := l_cell (sx := sx) hL (p := 3 * i + 2) (by omega) m
  obtain ⟨m2, w2, T2, tx2, e5, h2⟩ := a_asks h ht hl b
  have e6 := K m2 ⟨_, _, _, _, _, _, _, _, h2⟩
  simp (discharger := omega) only [J_L_law_302, e1, e2', e3', e4, e5, J_L_law_346, e6, bd_e, bo_e, bm_e, bts_l, bts_r, btm_l, btm_r, bp_lt, ck_ib, ck_z, ck_o, ifT, ifF, n10, n01, pv_v, if_pos, if_neg, zI_nat, zI_add, zI_mul, zI_addl, zI_laddl, zI_mull, zI_lmul, zI_subl, zI_pred, zI_le, zI_lt, zI_eq, zI_lel, zI_lle, zI_ltl, zI_llt, zI_eql, zI_leq, zI_ne1, zI_1ne]
theorem l_276 (hL : sL ≤ 260) (h : IS m w2 n2 T2 k2 pa2 nn2 TT2 0 tx) (hi : i < 44) (K : ∀ y, Good y → kb 1 vt (zI (i + 1)) y = some ()) (hn : n ≤ 120) (hj : j < 24) (h18 : j = 18 → v = -30 ∨ n2 + 1 = n) : J_L_law_276 sL sx vt (zI i) kb (zI n) (zI j) v14 v m = some () := by
  have g := l_302 (v14 := v14) (sx := sx) hL h hi K
  have c1 : F_X3_count 1 m = some (.inl (zI n2)) := t_count h (j := 1) (by omega)
  have hn2 := h.2.1.1.1
  by_cases e : j = 18
  · by_cases e30 : v = -30
    · simp (discharger := omega) only [J_L_law_276, e, e30, g, bd_e, bo_e, bm_e, bts_l, bts_r, btm_l, btm_r, bp_lt, ck_ib, ck_z, ck_o, ifT, ifF, n10, n01, pv_v, if_pos, if_neg, zI_nat, zI_add, zI_mul, zI_addl, zI_laddl, zI_mull, zI_lmul, zI_subl, zI_pred, zI_le, zI_lt, zI_eq, zI_lel, zI_lle, zI_ltl, zI_llt, zI_eql, zI_leq, zI_ne1, zI_1ne]
    · have hh := (h18 e).resolve_left e30
      have e1 : n2 = n - 1 := by omega
      simp (discharger := omega) only [J_L_law_276, e, e30, c1, e1, g, bd_e, bo_e, bm_e, bts_l, bts_r, btm_l, btm_r, bp_lt, ck_ib, ck_z, ck_o, ifT, ifF, n10, n01, pv_v, if_pos, if_neg, zI_nat, zI_add, zI_mul, zI_addl, zI_laddl, zI_mull, zI_lmul, zI_subl, zI_pred, zI_le, zI_lt, zI_eq, zI_lel, zI_lle, zI_ltl, zI_llt, zI_eql, zI_leq, zI_ne1, zI_1ne]
  · simp (discharger := omega) only [J_L_law_276, e, g, bd_e, bo_e, bm_e, bts_l, bts_r, btm_l, btm_r, bp_lt, ck_ib, ck_z, ck_o, ifT, ifF, n10, n01, pv_v, if_pos, if_neg, zI_nat, zI_add, zI_mul, zI_addl, zI_laddl, zI_mull, zI_lmul, zI_subl, zI_pred, zI_le, zI_lt, zI_eq, zI_lel, zI_lle, zI_ltl, zI_llt, zI_eql, zI_leq, zI_ne1, zI_1ne]
theorem l_241 (hL : sL ≤ 260) (h : IS m w2 n2 T2 k2 pa2 nn2 TT2 0 tx) (hi : i < 44) (K : ∀ y, Good y → kb 1 vt (zI (i + 1)) y = some ()) (hn : n ≤ 120) (hj : j < 24) (h8 : 8 ≤ j → j ≤ 12 → (v < 0 ∧ n2 = n) ∨ (0 ≤ v ∧ n2 = n + 1)) (h18 : j = 18 → v = -30 ∨ n2 + 1 = n) : J_L_law_241 sL sx vt (zI i) kb (zI n) (zI j) v14 v m = some () := by
  have g := l_276 (v14 := v14) (sx := sx) hL h hi K hn hj h18
  have c1 : F_X3_count 1 m = some (.inl (zI n2)) := t_count h (j := 1) (by omega)
  have hn2 := h.2.1.1.1
  by_cases a : j < 8
  · simp (discharger := omega) only [J_L_law_241, a, g, bd_e, bo_e, bm_e, bts_l, bts_r, btm_l, btm_r, bp_lt, ck_ib, ck_z, ck_o, ifT, ifF, n10, n01, pv_v, if_pos, if_neg, zI_nat, zI_add, zI_mul, zI_addl, zI_laddl, zI_mull, zI_lmul, zI_subl, zI_pred, zI_le, zI_lt, zI_eq, zI_lel, zI_lle, zI_ltl, zI_llt, zI_eql, zI_leq, zI_ne1, zI_1ne]
  · by_cases b : 12 < j
    · simp (discharger := omega) only [J_L_law_241, a, b, g, bd_e, bo_e, bm_e, bts_l, bts_r, btm_l, btm_r, bp_lt, ck_ib, ck_z, ck_o, ifT, ifF, n10, n01, pv_v, if_pos, if_neg, zI_nat, zI_add, zI_mul, zI_addl, zI_laddl, zI_mull, zI_lmul, zI_subl, zI_pred, zI_le, zI_lt, zI_eq, zI_lel, zI_lle, zI_ltl, zI_llt, zI_eql, zI_leq, zI_ne1, zI_1ne]
    · rcases h8 (by omega) (by omega) with ⟨hv, e1⟩ | ⟨hv, e1⟩
      · have hv2 : ¬ 0 ≤ v := Int32.not_le.mpr hv
        subst e1
        have z : zI n2 + 0 = zI n2 := Int32.add_zero _
        simp (discharger := omega) only [J_L_law_241, a, b, c1, hv2, J_L_law_272, z, g, bd_e, bo_e, bm_e, bts_l, bts_r, btm_l, btm_r, bp_lt, ck_ib, ck_z, ck_o, ifT, ifF, n10, n01, pv_v, if_pos, if_neg, zI_nat, zI_add, zI_mul, zI_addl, zI_laddl, zI_mull, zI_lmul, zI_subl, zI_pred, zI_le, zI_lt, zI_eq, zI_lel, zI_lle, zI_ltl, zI_llt, zI_eql, zI_leq, zI_ne1, zI_1ne]
      · simp (discharger := omega) only [J_L_law_241, a, b, c1, hv, J_L_law_272, e1, g, bd_e, bo_e, bm_e, bts_l, bts_r, btm_l, btm_r, bp_lt, ck_ib, ck_z, ck_o, ifT, ifF, n10, n01, pv_v, if_pos, if_neg, zI_nat, zI_add, zI_mul, zI_addl, zI_laddl, zI_mull, zI_lmul, zI_subl, zI_pred, zI_le, zI_lt, zI_eq, zI_lel, zI_lle, zI_ltl, zI_llt, zI_eql, zI_leq, zI_ne1, zI_1ne]
theorem l_183 (hL : sL ≤ 260) (h : IS m w2 n2 T2 k2 pa2 nn2 TT2 0 tx) (hi : i < 44) (K : ∀ y, Good y → kb 1 vt (zI (i + 1)) y = some ()) (hn : n ≤ 120) (hk : k ≤ 6) (hj : j < 24) (hq : AQ j v w n k w2 n2 k2) : J_L_law_183 sL sx vt (zI i) kb (zI k) (zI n) (zI j) v14 v m 1 = some () := by
  obtain ⟨q1, q2, q3, q4⟩ := hq
  have g := l_241 (v14 := v14) (sx := sx) hL h hi K hn hj (fun a b => (q2 a b).2) q3
  have c7 : F_X3_count 7 m = some (.inl (zI k2)) := t_count h (j := 7) (by omega)
  have hk2 := h.2.1.2.1
  have r30 : ∀ u, RFQ w w2 u → u ≠ -30 := fun u hr e => by
    subst e
    rcases hr with ⟨-, h2, -⟩ | ⟨h2, -⟩
    · exact absurd h2 (by decide)
    · exact absurd h2 (by decide)
  by_cases e30 : v = -30
  · have e1 : k2 = k := by
      by_cases a : j ≤ 21
      · rcases q1 a with ⟨hr, -⟩ | ⟨-, -, e⟩
        · exact absurd e30 (r30 v hr)
        · exact e
      · exact q4 (by omega) e30
    subst e1
    simp (discharger := omega) only [J_L_law_183, e30, c7, bd_e, bo_e, bm_e, bts_l, bts_r, btm_l, btm_r, bp_lt, ck_ib, ck_z, ck_o, ifT, ifF, n10, n01, pv_v, if_pos, if_neg, zI_nat, zI_add, zI_mul, zI_addl, zI_laddl, zI_mull, zI_lmul, zI_subl, zI_pred, zI_le, zI_lt, zI_eq, zI_lel, zI_lle, zI_ltl, zI_llt, zI_eql, zI_leq, zI_ne1, zI_1ne]
    rw [← e30]
    exact g
  · by_cases a : 21 < j
    · simp (discharger := omega) only [J_L_law_183, e30, a, g, bd_e, bo_e, bm_e, bts_l, bts_r, btm_l, btm_r, bp_lt, ck_ib, ck_z, ck_o, ifT, ifF, n10, n01, pv_v, if_pos, if_neg, zI_nat, zI_add, zI_mul, zI_addl, zI_laddl, zI_mull, zI_lmul, zI_subl, zI_pred, zI_le, zI_lt, zI_eq, zI_lel, zI_lle, zI_ltl, zI_llt, zI_eql, zI_leq, zI_ne1, zI_1ne]
    · rcases q1 (by omega) with ⟨-, e1⟩ | ⟨e, -⟩
      · unfold svK at e1
        by_cases h6 : k = 6
        · rw [if_pos h6] at e1
          simp (discharger := omega) only [J_L_law_183, e30, a, c7, h6, e1, J_L_law_238, bd_e, bo_e, bm_e, bts_l, bts_r, btm_l, btm_r, bp_lt, ck_ib, ck_z, ck_o, ifT, ifF, n10, n01, pv_v, if_pos, if_neg, zI_nat, zI_add, zI_mul, zI_addl, zI_laddl, zI_mull, zI_lmul, zI_subl, zI_pred, zI_le, zI_lt, zI_eq, zI_lel, zI_lle, zI_ltl, zI_llt, zI_eql, zI_leq, zI_ne1, zI_1ne]
          exact g
        · rw [if_neg h6] at e1
          have a6 : ¬ 6 ≤ k := by omega
          simp (discharger := omega) only [J_L_law_183, e30, a, c7, a6, e1, J_L_law_238, bd_e, bo_e, bm_e, bts_l, bts_r, btm_l, btm_r, bp_lt, ck_ib, ck_z, ck_o, ifT, ifF, n10, n01, pv_v, if_pos, if_neg, zI_nat, zI_add, zI_mul, zI_addl, zI_laddl, zI_mull, zI_lmul, zI_subl, zI_pred, zI_le, zI_lt, zI_eq, zI_lel, zI_lle, zI_ltl, zI_llt, zI_eql, zI_leq, zI_ne1, zI_1ne]
          exact g
      · exact absurd e e30
theorem t_ref (h : IS m w n T k pa nn TT L tx) : F_X3_tenant 0 8 m = some (.inl (w 1171)) ∧ F_X3_tenant 1 8 m = some (.inl (w 1172)) ∧ F_X3_tenant 2 8 m = some (.inl (w 1173)) := ⟨t_tenant h (t := 0) (j := 8) (by omega) (by omega), t_tenant h (t := 1) (j := 8) (by omega) (by omega), t_tenant h (t := 2) (j := 8) (by omega) (by omega)⟩
theorem l_mid (hL : sL ≤ 260) (h : IS m w2 n2 T2 k2 pa2 nn2 TT2 0 tx) (hi : i < 44) (K : ∀ y, Good y → kb 1 vt (zI (i + 1)) y = some ()) (hn : n ≤ 120) (hk : k ≤ 6) (hj : j < 24) (hq : AQ j v w n k w2 n2 k2) : (if 21 < zI j then (J_L_law_178 sL sx vt (zI i) kb (zI k) (zI n) (zI j) v14 v m) else (if (-1) ≤ v then (J_L_law_173 sL sx vt (zI i) kb (zI k) (zI n) (RFS w) (zI j) v14 v m (RFS w2)) else (if v ≤ (-30) then (J_L_law_173 sL sx vt (zI i) kb (zI k) (zI n) (RFS w) (zI j) v14 v m (RFS w2)) else (J_L_law_174 sL sx vt (zI i) kb (zI k) (zI n) (RFS w) (zI j) v14 v m (RFS w2)) 1))) = some () := by
  have g := l_183 (v14 := v14) (sx := sx) hL h hi K hn hk hj hq
  by_cases a : 21 < j
  · rw [if_pos (by show zI 21 < zI j; rw [zI_lt (by omega) (by omega)]; exact a)]
    exact g
  · rw [if_neg (by show ¬ zI 21 < zI j; rw [zI_lt (by omega) (by omega)]; exact a)]
    have same : RFS w2 = RFS w → J_L_law_173 sL sx vt (zI i) kb (zI k) (zI n) (RFS w) (zI j) v14 v m (RFS w2) = some () := fun e => by
      unfold J_L_law_173 J_L_law_174
      rw [bd_e, e, Int32.add_zero, if_pos rfl]
      exact g
    rcases hq.1 (by omega) with ⟨hr, -⟩ | ⟨rfl, e, -⟩
    · rcases hr with ⟨h1, h2, e⟩ | ⟨h1, e⟩
      · rw [if_neg (Int32.not_le.mpr h1), if_neg (Int32.not_le.mpr h2)]
        unfold J_L_law_174
        rw [bd_e, e, if_pos rfl]
        exact g
      · rw [if_pos h1]
        exact same e
    · rw [if_neg (by decide), if_pos (by decide)]
      exact same e
theorem ll_ok (hL : sL ≤ 260) {turns : Nat} (ht : turns ≤ 44) : ∀ (f i : Nat) (m : Mem), Good m → i ≤ turns → turns < i + f → LL sL sx f 1 (zI turns) (zI i) m = some () := by
  intro f
  induction f with
  | zero => intro i m _ h1 h2; omega
  | succ f ih =>
    intro i m hg h1 h2
    obtain ⟨w, n, T, k, pa, nn, TT, tx, h⟩ := hg
    rw [LL]
    by_cases e : i = turns
    · subst e
      rw [if_pos (Int32.le_refl _)]
      rfl
    · rw [if_neg (by rw [zI_le (by omega) (by omega)]; omega), if_neg (by decide)]
      have c7 : F_X3_count 7 m = some (.inl (zI k)) := t_count h (j := 7) (by omega)
      have c1 : F_X3_count 1 m = some (.inl (zI n)) := t_count h (j := 1) (by omega)
      obtain ⟨r0, r1, r2⟩ := t_ref h
      obtain ⟨a0, e0⟩ := l_cell (sx := sx) hL (p := 3 * i) (by omega) m
      obtain ⟨j, hj, ej⟩ := l_low a0 (n := 24) (by omega) (by omega) m
      have ej' : F_L_low a0 24 m = some (zI j) := ej
      obtain ⟨v14, e14⟩ := l_cell (sx := sx) hL (p := 3 * i + 1) (by omega) m
      obtain ⟨v, m2, w2, n2, T2, k2, pa2, nn2, TT2, ea, h3, hq⟩ := a_act h hL (p := 3 * i) (by omega) e0 hj ej'
      obtain ⟨s0, s1, s2⟩ := t_ref h3
      have z3 : 3 * zI i = zI (3 * i) := zI_lmul i 3
      rw [c7, bts_l, c1, bts_l, r0, bts_l, r1, bts_l, bd_e, r2, bts_l, bd_e, bd_e, z3, e0, bo_e, ej', bo_e, bd_e, bd_e, zI_addl, e14, bo_e, bd_e, ea, bm_e, s0, bts_l, s1, bts_l, bd_e, s2, bts_l, bd_e]
      exact l_mid (kb := fun w0 w1 w2 w3 => LL sL sx f w0 w1 w2 w3) hL h3 (by omega) (fun y hy => ih (i + 1) y hy (by omega) (by omega)) h.2.1.1.1 h.2.1.2.1 hj hq
theorem f_law (hL : sL ≤ 260) (hg : Good m) : F_law sL sx m = some () := by
  have hd : Int32.ofNat sL / 3 = zI (sL / 3) := zI_div (a := sL) (b := 3) (by omega) (by omega)
  unfold F_law
  rw [bd_e, hd]
  by_cases h : sL / 3 ≤ 44
  · rw [if_pos (by show zI (sL / 3) ≤ zI 44; rw [zI_le (by omega) (by omega)]; exact h), bd_e]
    exact ll_ok (i := 0) hL h fu m hg (Nat.zero_le _) (by rw [fu_eq]; omega)
  · rw [if_neg (by show ¬ zI (sL / 3) ≤ zI 44; rw [zI_le (by omega) (by omega)]; exact h)]
    exact ll_ok (turns := 44) (i := 0) hL (by omega) fu m hg (Nat.zero_le _) (by rw [fu_eq]; omega)
end RJ
