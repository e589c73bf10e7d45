/-! the class reads a text -/
def FrQ (m m2 : Mem) : Prop := (∀ lb : Lb, lb ≠ (0, 0, 0, 3) → lb ≠ (0, 0, 0, 5) → lb ≠ (0, 0, 0, 6) → lb ≠ (0, 0, 0, 7) → m2.1 lb = m.1 lb) ∧ m2.2 = m.2
def CR (x : Mem) (rd nt : Nat) (ng : Bool) (tl ts tn : Nat → Int32) : Prop := x.1 (0, 0, 0, 3) 3 = zI nt ∧ x.1 (0, 0, 0, 3) 4 = zI rd ∧ (1 ≤ rd → x.1 (0, 0, 0, 3) 5 = if ng = true then 1 else 0) ∧ ∀ k, k < nt → x.1 (0, 0, 0, 5) k = tl k ∧ x.1 (0, 0, 0, 6) k = ts k ∧ x.1 (0, 0, 0, 7) k = tn k
section QF
variable {m x y : Mem} {c : Nat → Nat} {L rd nt v g : Nat} {ng : Bool} {tl ts tn : Nat → Int32}
theorem frq_tr {a b d : Mem} (h1 : FrQ a b) (h2 : FrQ b d) : FrQ a d := ⟨fun lb p q r s => (h2.1 lb p q r s).trans (h1.1 lb p q r s), h2.2.trans h1.2⟩
theorem frq_wI {lb : Lb} (h : lb = (0, 0, 0, 3) ∨ lb = (0, 0, 0, 5) ∨ lb = (0, 0, 0, 6) ∨ lb = (0, 0, 0, 7)) (x : Mem) (i : Nat) (u : Int32) : FrQ x (wI x lb i u) := by
  refine ⟨fun lb2 p q r s => wI_ne ?_ x i u, rfl⟩
  rintro rfl
  rcases h with h | h | h | h
  · exact p h
  · exact q h
  · exact r h
  · exact s h
theorem r35 (y : Mem) (k : Nat) (u : Int32) : (wI y (0, 0, 0, 5) k u).1 (0, 0, 0, 3) = y.1 (0, 0, 0, 3) := wI_ne (by decide) y k u
theorem r36 (y : Mem) (k : Nat) (u : Int32) : (wI y (0, 0, 0, 6) k u).1 (0, 0, 0, 3) = y.1 (0, 0, 0, 3) := wI_ne (by decide) y k u
theorem r37 (y : Mem) (k : Nat) (u : Int32) : (wI y (0, 0, 0, 7) k u).1 (0, 0, 0, 3) = y.1 (0, 0, 0, 3) := wI_ne (by decide) y k u
theorem r53 (y : Mem) (k : Nat) (u : Int32) : (wI y (0, 0, 0, 3) k u).1 (0, 0, 0, 5) = y.1 (0, 0, 0, 5) := wI_ne (by decide) y k u
theorem r63 (y : Mem) (k : Nat) (u : Int32) : (wI y (0, 0, 0, 3) k u).1 (0, 0, 0, 6) = y.1 (0, 0, 0, 6) := wI_ne (by decide) y k u
theorem r73 (y : Mem) (k : Nat) (u : Int32) : (wI y (0, 0, 0, 3) k u).1 (0, 0, 0, 7) = y.1 (0, 0, 0, 7) := wI_ne (by decide) y k u
theorem r56 (y : Mem) (k : Nat) (u : Int32) : (wI y (0, 0, 0, 6) k u).1 (0, 0, 0, 5) = y.1 (0, 0, 0, 5) := wI_ne (by decide) y k u
theorem r57 (y : Mem) (k : Nat) (u : Int32) : (wI y (0, 0, 0, 7) k u).1 (0, 0, 0, 5) = y.1 (0, 0, 0, 5) := wI_ne (by decide) y k u
theorem r65 (y : Mem) (k : Nat) (u : Int32) : (wI y (0, 0, 0, 5) k u).1 (0, 0, 0, 6) = y.1 (0, 0, 0, 6) := wI_ne (by decide) y k u
theorem r67 (y : Mem) (k : Nat) (u : Int32) : (wI y (0, 0, 0, 7) k u).1 (0, 0, 0, 6) = y.1 (0, 0, 0, 6) := wI_ne (by decide) y k u
theorem r75 (y : Mem) (k : Nat) (u : Int32) : (wI y (0, 0, 0, 5) k u).1 (0, 0, 0, 7) = y.1 (0, 0, 0, 7) := wI_ne (by decide) y k u
theorem r76 (y : Mem) (k : Nat) (u : Int32) : (wI y (0, 0, 0, 6) k u).1 (0, 0, 0, 7) = y.1 (0, 0, 0, 7) := wI_ne (by decide) y k u
theorem t_letter (h3 : x.1 (0, 0, 0, 3) 3 = zI nt) (hn : nt < 10) (h1 : 97 ≤ g) (h2 : g ≤ 104) : F_X0_takeLetter (zI g) x = some (1, wI (wI (wI (wI (wI (wI x (0, 0, 0, 5) nt (zI (g - 97))) (0, 0, 0, 6) nt 0) (0, 0, 0, 7) nt 0) (0, 0, 0, 3) 5 0) (0, 0, 0, 3) 3 (zI (nt + 1))) (0, 0, 0, 3) 4 1) := by
  simp (discharger := omega) only [F_X0_takeLetter, h3, r35, r36, r37, wI_eq, upd_eq, upd_ne, bd_e, bo_e, bm_e, bts_l, bts_r, btm_l, btm_r, bp_lt, ck_ib, ck_z, ck_o, ifT, ifF, n10, n01, pv_v, if_pos, if_neg, zI_nat, zI_add, zI_mul, zI_addl, zI_laddl, zI_mull, zI_lmul, zI_subl, zI_pred, zI_le, zI_lt, zI_eq, zI_lel, zI_lle, zI_ltl, zI_llt, zI_eql, zI_leq, zI_ne1, zI_1ne]
theorem t_letter0 (hg : g < 2147483648) (h : ¬ (97 ≤ g ∧ g ≤ 104)) : F_X0_takeLetter (zI g) x = some (0, x) := by
  by_cases h1 : g < 97
  · simp (discharger := omega) only [F_X0_takeLetter, J_X0_takeLetter_21, h1, bd_e, bo_e, bm_e, bts_l, bts_r, btm_l, btm_r, bp_lt, ck_ib, ck_z, ck_o, ifT, ifF, n10, n01, pv_v, if_pos, if_neg, zI_nat, zI_add, zI_mul, zI_addl, zI_laddl, zI_mull, zI_lmul, zI_subl, zI_pred, zI_le, zI_lt, zI_eq, zI_lel, zI_lle, zI_ltl, zI_llt, zI_eql, zI_leq, zI_ne1, zI_1ne]
  · have h2 : 104 < g := by omega
    simp (discharger := omega) only [F_X0_takeLetter, J_X0_takeLetter_21, h1, h2, bd_e, bo_e, bm_e, bts_l, bts_r, btm_l, btm_r, bp_lt, ck_ib, ck_z, ck_o, ifT, ifF, n10, n01, pv_v, if_pos, if_neg, zI_nat, zI_add, zI_mul, zI_addl, zI_laddl, zI_mull, zI_lmul, zI_subl, zI_pred, zI_le, zI_lt, zI_eq, zI_lel, zI_lle, zI_ltl, zI_llt, zI_eql, zI_leq, zI_ne1, zI_1ne]
theorem t_sign (h3 : x.1 (0, 0, 0, 3) 3 = zI nt) (h0 : 1 ≤ nt) (hn : nt ≤ 10) (h1 : 60 ≤ g) (h2 : g ≤ 62) : F_X0_takeSign (zI g) x = some (1, wI (wI x (0, 0, 0, 6) (nt - 1) (zI g)) (0, 0, 0, 3) 4 2) := by
  rcases (show g = 60 ∨ g = 61 ∨ g = 62 by omega) with rfl | rfl | rfl <;> simp (discharger := omega) only [F_X0_takeSign, J_X0_takeSign_27, h3, bd_e, bo_e, bm_e, bts_l, bts_r, btm_l, btm_r, bp_lt, ck_ib, ck_z, ck_o, ifT, ifF, n10, n01, pv_v, if_pos, if_neg, zI_nat, zI_add, zI_mul, zI_addl, zI_laddl, zI_mull, zI_lmul, zI_subl, zI_pred, zI_le, zI_lt, zI_eq, zI_lel, zI_lle, zI_ltl, zI_llt, zI_eql, zI_leq, zI_ne1, zI_1ne]
theorem t_sign0 (h3 : x.1 (0, 0, 0, 3) 3 = zI nt) (h0 : 1 ≤ nt) (hn : nt ≤ 10) (hg : g < 2147483648) (h : ¬ (60 ≤ g ∧ g ≤ 62)) : F_X0_takeSign (zI g) x = some (0, x) := by
  have n0 : ¬ g = 60 := by omega
  have n1 : ¬ g = 61 := by omega
  have n2 : ¬ g = 62 := by omega
  simp (discharger := omega) only [F_X0_takeSign, J_X0_takeSign_25, h3, n0, n1, n2, bd_e, bo_e, bm_e, bts_l, bts_r, btm_l, btm_r, bp_lt, ck_ib, ck_z, ck_o, ifT, ifF, n10, n01, pv_v, if_pos, if_neg, zI_nat, zI_add, zI_mul, zI_addl, zI_laddl, zI_mull, zI_lmul, zI_subl, zI_pred, zI_le, zI_lt, zI_eq, zI_lel, zI_lle, zI_ltl, zI_llt, zI_eql, zI_leq, zI_ne1, zI_1ne]
theorem t_minus : F_X0_takeMinus (zI 45) x = some (1, wI (wI x (0, 0, 0, 3) 5 1) (0, 0, 0, 3) 4 3) := by
  simp (discharger := omega) only [F_X0_takeMinus, bd_e, bo_e, bm_e, bts_l, bts_r, btm_l, btm_r, bp_lt, ck_ib, ck_z, ck_o, ifT, ifF, n10, n01, pv_v, if_pos, if_neg, zI_nat, zI_add, zI_mul, zI_addl, zI_laddl, zI_mull, zI_lmul, zI_subl, zI_pred, zI_le, zI_lt, zI_eq, zI_lel, zI_lle, zI_ltl, zI_llt, zI_eql, zI_leq, zI_ne1, zI_1ne]
theorem t_minus0 (hg : g < 2147483648) (h : ¬ g = 45) : F_X0_takeMinus (zI g) x = some (0, x) := by
  simp (discharger := omega) only [F_X0_takeMinus, h, bd_e, bo_e, bm_e, bts_l, bts_r, btm_l, btm_r, bp_lt, ck_ib, ck_z, ck_o, ifT, ifF, n10, n01, pv_v, if_pos, if_neg, zI_nat, zI_add, zI_mul, zI_addl, zI_laddl, zI_mull, zI_lmul, zI_subl, zI_pred, zI_le, zI_lt, zI_eq, zI_lel, zI_lle, zI_ltl, zI_llt, zI_eql, zI_leq, zI_ne1, zI_1ne]
theorem t_and : F_X0_takeAnd (zI 38) x = some (1, wI x (0, 0, 0, 3) 4 0) := by
  simp (discharger := omega) only [F_X0_takeAnd, bd_e, bo_e, bm_e, bts_l, bts_r, btm_l, btm_r, bp_lt, ck_ib, ck_z, ck_o, ifT, ifF, n10, n01, pv_v, if_pos, if_neg, zI_nat, zI_add, zI_mul, zI_addl, zI_laddl, zI_mull, zI_lmul, zI_subl, zI_pred, zI_le, zI_lt, zI_eq, zI_lel, zI_lle, zI_ltl, zI_llt, zI_eql, zI_leq, zI_ne1, zI_1ne]
theorem t_and0 (hg : g < 2147483648) (h : ¬ g = 38) : F_X0_takeAnd (zI g) x = some (0, x) := by
  simp (discharger := omega) only [F_X0_takeAnd, h, bd_e, bo_e, bm_e, bts_l, bts_r, btm_l, btm_r, bp_lt, ck_ib, ck_z, ck_o, ifT, ifF, n10, n01, pv_v, if_pos, if_neg, zI_nat, zI_add, zI_mul, zI_addl, zI_laddl, zI_mull, zI_lmul, zI_subl, zI_pred, zI_le, zI_lt, zI_eq, zI_lel, zI_lle, zI_ltl, zI_llt, zI_eql, zI_leq, zI_ne1, zI_1ne]
theorem t_digit (h3 : x.1 (0, 0, 0, 3) 3 = zI nt) (h5 : x.1 (0, 0, 0, 3) 5 = if ng = true then 1 else 0) (h7 : x.1 (0, 0, 0, 7) (nt - 1) = sn ng v) (h0 : 1 ≤ nt) (hn : nt ≤ 10) (h1 : 48 ≤ g) (h2 : g ≤ 57) : F_X0_takeDigit (zI g) x = some (1, wI (wI x (0, 0, 0, 7) (nt - 1) (sn ng (v * 10 + (g - 48)))) (0, 0, 0, 3) 4 4) := by
  have e := sn_step ng v (g - 48)
  cases ng with
  | false =>
    rw [if_neg Bool.false_ne_true] at h5 e
    simp (discharger := omega) only [F_X0_takeDigit, J_X0_takeDigit_63, h3, h5, h7, e, bd_e, bo_e, bm_e, bts_l, bts_r, btm_l, btm_r, bp_lt, ck_ib, ck_z, ck_o, ifT, ifF, n10, n01, pv_v, if_pos, if_neg, zI_nat, zI_add, zI_mul, zI_addl, zI_laddl, zI_mull, zI_lmul, zI_subl, zI_pred, zI_le, zI_lt, zI_eq, zI_lel, zI_lle, zI_ltl, zI_llt, zI_eql, zI_leq, zI_ne1, zI_1ne]
  | true =>
    rw [if_pos rfl] at h5 e
    simp (discharger := omega) only [F_X0_takeDigit, J_X0_takeDigit_63, h3, h5, h7, e, bd_e, bo_e, bm_e, bts_l, bts_r, btm_l, btm_r, bp_lt, ck_ib, ck_z, ck_o, ifT, ifF, n10, n01, pv_v, if_pos, if_neg, zI_nat, zI_add, zI_mul, zI_addl, zI_laddl, zI_mull, zI_lmul, zI_subl, zI_pred, zI_le, zI_lt, zI_eq, zI_lel, zI_lle, zI_ltl, zI_llt, zI_eql, zI_leq, zI_ne1, zI_1ne]
theorem t_digit0 (h3 : x.1 (0, 0, 0, 3) 3 = zI nt) (h0 : 1 ≤ nt) (hn : nt ≤ 10) (hg : g < 2147483648) (h : ¬ (48 ≤ g ∧ g ≤ 57)) : F_X0_takeDigit (zI g) x = some (0, x) := by
  by_cases h1 : g < 48
  · simp (discharger := omega) only [F_X0_takeDigit, J_X0_takeDigit_19, h3, h1, bd_e, bo_e, bm_e, bts_l, bts_r, btm_l, btm_r, bp_lt, ck_ib, ck_z, ck_o, ifT, ifF, n10, n01, pv_v, if_pos, if_neg, zI_nat, zI_add, zI_mul, zI_addl, zI_laddl, zI_mull, zI_lmul, zI_subl, zI_pred, zI_le, zI_lt, zI_eq, zI_lel, zI_lle, zI_ltl, zI_llt, zI_eql, zI_leq, zI_ne1, zI_1ne]
  · have h2 : ¬ g ≤ 57 := by omega
    simp (discharger := omega) only [F_X0_takeDigit, J_X0_takeDigit_19, h3, h1, h2, bd_e, bo_e, bm_e, bts_l, bts_r, btm_l, btm_r, bp_lt, ck_ib, ck_z, ck_o, ifT, ifF, n10, n01, pv_v, if_pos, if_neg, zI_nat, zI_add, zI_mul, zI_addl, zI_laddl, zI_mull, zI_lmul, zI_subl, zI_pred, zI_le, zI_lt, zI_eq, zI_lel, zI_lle, zI_ltl, zI_llt, zI_eql, zI_leq, zI_ne1, zI_1ne]
theorem t_grow (h3 : x.1 (0, 0, 0, 3) 3 = zI nt) (h7 : x.1 (0, 0, 0, 7) (nt - 1) = sn ng v) (hv : v < 10000) (h0 : 1 ≤ nt) (hn : nt ≤ 10) : F_X0_mayGrow x = some (if 0 < v ∧ v < 1000 then 1 else 0) := by
  have e := sn_abs ng hv
  by_cases a : 0 < v
  · by_cases b : v < 1000
    · have ab : 0 < v ∧ v < 1000 := ⟨a, b⟩
      rw [if_pos ab]
      simp (discharger := omega) only [F_X0_mayGrow, J_X0_mayGrow_25, J_X0_mayGrow_42, h3, h7, e, bd_e, bo_e, bm_e, bts_l, bts_r, btm_l, btm_r, bp_lt, ck_ib, ck_z, ck_o, ifT, ifF, n10, n01, pv_v, if_pos, if_neg, zI_nat, zI_add, zI_mul, zI_addl, zI_laddl, zI_mull, zI_lmul, zI_subl, zI_pred, zI_le, zI_lt, zI_eq, zI_lel, zI_lle, zI_ltl, zI_llt, zI_eql, zI_leq, zI_ne1, zI_1ne]
    · have ab : ¬ (0 < v ∧ v < 1000) := fun h => b h.2
      rw [if_neg ab]
      simp (discharger := omega) only [F_X0_mayGrow, J_X0_mayGrow_25, J_X0_mayGrow_41, J_X0_mayGrow_42, h3, h7, e, bd_e, bo_e, bm_e, bts_l, bts_r, btm_l, btm_r, bp_lt, ck_ib, ck_z, ck_o, ifT, ifF, n10, n01, pv_v, if_pos, if_neg, zI_nat, zI_add, zI_mul, zI_addl, zI_laddl, zI_mull, zI_lmul, zI_subl, zI_pred, zI_le, zI_lt, zI_eq, zI_lel, zI_lle, zI_ltl, zI_llt, zI_eql, zI_leq, zI_ne1, zI_1ne]
  · have ab : ¬ (0 < v ∧ v < 1000) := fun h => a h.1
    rw [if_neg ab]
    simp (discharger := omega) only [F_X0_mayGrow, J_X0_mayGrow_25, J_X0_mayGrow_41, J_X0_mayGrow_42, h3, h7, e, bd_e, bo_e, bm_e, bts_l, bts_r, btm_l, btm_r, bp_lt, ck_ib, ck_z, ck_o, ifT, ifF, n10, n01, pv_v, if_pos, if_neg, zI_nat, zI_add, zI_mul, zI_addl, zI_laddl, zI_mull, zI_lmul, zI_subl, zI_pred, zI_le, zI_lt, zI_eq, zI_lel, zI_lle, zI_ltl, zI_llt, zI_eql, zI_leq, zI_ne1, zI_1ne]
theorem take0 {p b : Int32} (h : x.1 (0, 0, 0, 3) 4 = zI 0) (hb : b = 0 ∨ b = 1) (e : F_X0_takeLetter p x = some (b, y)) : F_X0_take p x = some (b, y) := by
  simp (discharger := omega) only [F_X0_take, h, e, ck_b hb, bd_e, bo_e, bm_e, bts_l, bts_r, btm_l, btm_r, bp_lt, ck_ib, ck_z, ck_o, ifT, ifF, n10, n01, pv_v, if_pos, if_neg, zI_nat, zI_add, zI_mul, zI_addl, zI_laddl, zI_mull, zI_lmul, zI_subl, zI_pred, zI_le, zI_lt, zI_eq, zI_lel, zI_lle, zI_ltl, zI_llt, zI_eql, zI_leq, zI_ne1, zI_1ne]
theorem take1 {p b : Int32} (h : x.1 (0, 0, 0, 3) 4 = zI 1) (hb : b = 0 ∨ b = 1) (e : F_X0_takeSign p x = some (b, y)) : F_X0_take p x = some (b, y) := by
  simp (discharger := omega) only [F_X0_take, h, e, ck_b hb, bd_e, bo_e, bm_e, bts_l, bts_r, btm_l, btm_r, bp_lt, ck_ib, ck_z, ck_o, ifT, ifF, n10, n01, pv_v, if_pos, if_neg, zI_nat, zI_add, zI_mul, zI_addl, zI_laddl, zI_mull, zI_lmul, zI_subl, zI_pred, zI_le, zI_lt, zI_eq, zI_lel, zI_lle, zI_ltl, zI_llt, zI_eql, zI_leq, zI_ne1, zI_1ne]
theorem take3 {p b : Int32} (h : x.1 (0, 0, 0, 3) 4 = zI 3) (hb : b = 0 ∨ b = 1) (e : F_X0_takeDigit p x = some (b, y)) : F_X0_take p x = some (b, y) := by
  simp (discharger := omega) only [F_X0_take, h, e, ck_b hb, bd_e, bo_e, bm_e, bts_l, bts_r, btm_l, btm_r, bp_lt, ck_ib, ck_z, ck_o, ifT, ifF, n10, n01, pv_v, if_pos, if_neg, zI_nat, zI_add, zI_mul, zI_addl, zI_laddl, zI_mull, zI_lmul, zI_subl, zI_pred, zI_le, zI_lt, zI_eq, zI_lel, zI_lle, zI_ltl, zI_llt, zI_eql, zI_leq, zI_ne1, zI_1ne]
theorem take2a {p : Int32} (h : x.1 (0, 0, 0, 3) 4 = zI 2) (e : F_X0_takeMinus p x = some (1, y)) : F_X0_take p x = some (1, y) := by
  simp (discharger := omega) only [F_X0_take, h, e, J_X0_take_68, J_X0_take_73, bd_e, bo_e, bm_e, bts_l, bts_r, btm_l, btm_r, bp_lt, ck_ib, ck_z, ck_o, ifT, ifF, n10, n01, pv_v, if_pos, if_neg, zI_nat, zI_add, zI_mul, zI_addl, zI_laddl, zI_mull, zI_lmul, zI_subl, zI_pred, zI_le, zI_lt, zI_eq, zI_lel, zI_lle, zI_ltl, zI_llt, zI_eql, zI_leq, zI_ne1, zI_1ne]
theorem take2b {p b : Int32} (h : x.1 (0, 0, 0, 3) 4 = zI 2) (hb : b = 0 ∨ b = 1) (e : F_X0_takeMinus p x = some (0, x)) (e2 : F_X0_takeDigit p x = some (b, y)) : F_X0_take p x = some (b, y) := by
  rcases hb with rfl | rfl
  · simp (discharger := omega) only [F_X0_take, h, e, e2, J_X0_take_68, J_X0_take_73, bd_e, bo_e, bm_e, bts_l, bts_r, btm_l, btm_r, bp_lt, ck_ib, ck_z, ck_o, ifT, ifF, n10, n01, pv_v, if_pos, if_neg, zI_nat, zI_add, zI_mul, zI_addl, zI_laddl, zI_mull, zI_lmul, zI_subl, zI_pred, zI_le, zI_lt, zI_eq, zI_lel, zI_lle, zI_ltl, zI_llt, zI_eql, zI_leq, zI_ne1, zI_1ne]
  · simp (discharger := omega) only [F_X0_take, h, e, e2, J_X0_take_68, J_X0_take_73, bd_e, bo_e, bm_e, bts_l, bts_r, btm_l, btm_r, bp_lt, ck_ib, ck_z, ck_o, ifT, ifF, n10, n01, pv_v, if_pos, if_neg, zI_nat, zI_add, zI_mul, zI_addl, zI_laddl, zI_mull, zI_lmul, zI_subl, zI_pred, zI_le, zI_lt, zI_eq, zI_lel, zI_lle, zI_ltl, zI_llt, zI_eql, zI_leq, zI_ne1, zI_1ne]
theorem take4a {p : Int32} (h : x.1 (0, 0, 0, 3) 4 = zI 4) (e : F_X0_takeAnd p x = some (1, y)) : F_X0_take p x = some (1, y) := by
  simp (discharger := omega) only [F_X0_take, h, e, J_X0_take_103, J_X0_take_108, bd_e, bo_e, bm_e, bts_l, bts_r, btm_l, btm_r, bp_lt, ck_ib, ck_z, ck_o, ifT, ifF, n10, n01, pv_v, if_pos, if_neg, zI_nat, zI_add, zI_mul, zI_addl, zI_laddl, zI_mull, zI_lmul, zI_subl, zI_pred, zI_le, zI_lt, zI_eq, zI_lel, zI_lle, zI_ltl, zI_llt, zI_eql, zI_leq, zI_ne1, zI_1ne]
theorem take4b {p b : Int32} (h : x.1 (0, 0, 0, 3) 4 = zI 4) (hb : b = 0 ∨ b = 1) (e : F_X0_takeAnd p x = some (0, x)) (eg : F_X0_mayGrow x = some 1) (e2 : F_X0_takeDigit p x = some (b, y)) : F_X0_take p x = some (b, y) := by
  rcases hb with rfl | rfl
  · simp (discharger := omega) only [F_X0_take, h, e, eg, e2, J_X0_take_103, J_X0_take_107, J_X0_take_108, bd_e, bo_e, bm_e, bts_l, bts_r, btm_l, btm_r, bp_lt, ck_ib, ck_z, ck_o, ifT, ifF, n10, n01, pv_v, if_pos, if_neg, zI_nat, zI_add, zI_mul, zI_addl, zI_laddl, zI_mull, zI_lmul, zI_subl, zI_pred, zI_le, zI_lt, zI_eq, zI_lel, zI_lle, zI_ltl, zI_llt, zI_eql, zI_leq, zI_ne1, zI_1ne]
  · simp (discharger := omega) only [F_X0_take, h, e, eg, e2, J_X0_take_103, J_X0_take_107, J_X0_take_108, bd_e, bo_e, bm_e, bts_l, bts_r, btm_l, btm_r, bp_lt, ck_ib, ck_z, ck_o, ifT, ifF, n10, n01, pv_v, if_pos, if_neg, zI_nat, zI_add, zI_mul, zI_addl, zI_laddl, zI_mull, zI_lmul, zI_subl, zI_pred, zI_le, zI_lt, zI_eq, zI_lel, zI_lle, zI_ltl, zI_llt, zI_eql, zI_leq, zI_ne1, zI_1ne]
theorem take4c {p : Int32} (h : x.1 (0, 0, 0, 3) 4 = zI 4) (e : F_X0_takeAnd p x = some (0, x)) (eg : F_X0_mayGrow x = some 0) : F_X0_take p x = some (0, x) := by
  simp (discharger := omega) only [F_X0_take, h, e, eg, J_X0_take_107, J_X0_take_108, bd_e, bo_e, bm_e, bts_l, bts_r, btm_l, btm_r, bp_lt, ck_ib, ck_z, ck_o, ifT, ifF, n10, n01, pv_v, if_pos, if_neg, zI_nat, zI_add, zI_mul, zI_addl, zI_laddl, zI_mull, zI_lmul, zI_subl, zI_pred, zI_le, zI_lt, zI_eq, zI_lel, zI_lle, zI_ltl, zI_llt, zI_eql, zI_leq, zI_ne1, zI_1ne]
/-- what the class's reader ends with -/
def RE (L : Nat) (x : Mem) (o : Option (Int32 × Mem)) (r : RT7) : Prop := ∃ x2, o = some (zI r.1, x2) ∧ FrQ x x2 ∧ (r.2.1 = true → x2.1 (0, 0, 0, 3) 4 = zI 4 ∧ QP x2.1 r.2.2.1 r.2.2.2.1 r.2.2.2.2.1 r.2.2.2.2.2) ∧ (r.2.1 = false → ∃ q, q < 6 ∧ q ≠ 4 ∧ x2.1 (0, 0, 0, 3) 4 = zI q)
theorem re_bad {n i : Nat} (hi : i < L) (hL : L ≤ 40) (ht : x.1 (0, 0, 0, 2) i = zI g) (hg : F_X0_take (zI g) x = some (0, x)) : RE L x (L_X0_read_12 (zI L) (n + 1) (zI i) x) (i, false, nt, tl, ts, tn) := by
  refine ⟨wI x (0, 0, 0, 3) 4 5, ?_, frq_wI (Or.inl rfl) x 4 5, fun h => absurd h Bool.false_ne_true, fun _ => ⟨5, by omega, by omega, ?_⟩⟩
  · simp (discharger := omega) only [L_X0_read_12, ht, hg, bd_e, bo_e, bm_e, bts_l, bts_r, btm_l, btm_r, bp_lt, ck_ib, ck_z, ck_o, ifT, ifF, n10, n01, pv_v, if_pos, if_neg, zI_nat, zI_add, zI_mul, zI_addl, zI_laddl, zI_mull, zI_lmul, zI_subl, zI_pred, zI_le, zI_lt, zI_eq, zI_lel, zI_lle, zI_ltl, zI_llt, zI_eql, zI_leq, zI_ne1, zI_1ne]
  · rw [wI_eq, upd_eq]; rfl
theorem re_step {n i : Nat} {r : RT7} (hi : i < L) (hL : L ≤ 40) (ht : x.1 (0, 0, 0, 2) i = zI g) (hg : F_X0_take (zI g) x = some (1, y)) (hF : FrQ x y) (h : RE L y (L_X0_read_12 (zI L) n (zI (i + 1)) y) r) : RE L x (L_X0_read_12 (zI L) (n + 1) (zI i) x) r := by
  obtain ⟨x2, e1, e2, e3⟩ := h
  refine ⟨x2, ?_, frq_tr hF e2, e3⟩
  rw [← e1]
  simp (discharger := omega) only [L_X0_read_12, ht, hg, bd_e, bo_e, bm_e, bts_l, bts_r, btm_l, btm_r, bp_lt, ck_ib, ck_z, ck_o, ifT, ifF, n10, n01, pv_v, if_pos, if_neg, zI_nat, zI_add, zI_mul, zI_addl, zI_laddl, zI_mull, zI_lmul, zI_subl, zI_pred, zI_le, zI_lt, zI_eq, zI_lel, zI_lle, zI_ltl, zI_llt, zI_eql, zI_leq, zI_ne1, zI_1ne]
theorem p_run : ∀ (d i rd nt : Nat) (ng : Bool) (v : Nat) (tl ts tn : Nat → Int32) (x : Mem) (n : Nat), i + d = L → L ≤ 40 → d < n → GI i rd nt ng v tn → CR x rd nt ng tl ts tn → (∀ j, j < L → c j < 127) → (∀ j, j < L → x.1 (0, 0, 0, 2) j = zI (c j)) → RE L x (L_X0_read_12 (zI L) n (zI i) x) (rn c d i rd nt ng v tl ts tn) := by
  intro d
  induction d with
  | zero =>
    intro i rd nt ng v tl ts tn x n hi hL hn hg hc hc2 ht
    obtain ⟨n2, rfl⟩ : ∃ n2, n = n2 + 1 := ⟨n - 1, by omega⟩
    have e : i = L := by omega
    subst e
    refine ⟨x, ?_, ⟨fun _ _ _ _ _ => rfl, rfl⟩, fun h => ?_, fun h => ?_⟩
    · simp (discharger := omega) only [L_X0_read_12, C_X0_read_46, Nat.le_refl, bd_e, bo_e, bm_e, bts_l, bts_r, btm_l, btm_r, bp_lt, ck_ib, ck_z, ck_o, ifT, ifF, n10, n01, pv_v, if_pos, if_neg, zI_nat, zI_add, zI_mul, zI_addl, zI_laddl, zI_mull, zI_lmul, zI_subl, zI_pred, zI_le, zI_lt, zI_eq, zI_lel, zI_lle, zI_ltl, zI_llt, zI_eql, zI_leq, zI_ne1, zI_1ne] <;> rfl
    · have h4 : rd = 4 := of_decide_eq_true h
      subst h4
      exact ⟨hc.2.1, hc.1, hc.2.2.2⟩
    · exact ⟨rd, by have := hg.1; omega, of_decide_eq_false h, hc.2.1⟩
  | succ d ih =>
    intro i rd nt ng v tl ts tn x n hi hL hn hg hc hc2 ht
    obtain ⟨n2, rfl⟩ : ∃ n2, n = n2 + 1 := ⟨n - 1, by omega⟩
    obtain ⟨g1, g2, g3, g4, g5⟩ := hg
    obtain ⟨c1, c2, c3, c4⟩ := hc
    have hiL : i < L := by omega
    have hti := ht i hiL
    have hci := hc2 i hiL
    have cg : c i < 2147483648 := by omega
    have keep : ∀ y, FrQ x y → ∀ j, j < L → y.1 (0, 0, 0, 2) j = zI (c j) := fun y hF j hj => by
      rw [hF.1 _ (by decide) (by decide) (by decide) (by decide)]; exact ht j hj
    rw [rn]
    by_cases h0 : rd = 0
    · subst h0
      have o0 : off 0 = 0 := rfl
      rw [o0] at g2
      rw [if_pos rfl]
      by_cases hc : 97 ≤ c i ∧ c i ≤ 104
      · rw [if_pos hc]
        have hF : FrQ x (wI (wI (wI (wI (wI (wI x (0, 0, 0, 5) nt (zI (c i - 97))) (0, 0, 0, 6) nt 0) (0, 0, 0, 7) nt 0) (0, 0, 0, 3) 5 0) (0, 0, 0, 3) 3 (zI (nt + 1))) (0, 0, 0, 3) 4 1) :=
          frq_tr (frq_tr (frq_tr (frq_tr (frq_tr (frq_wI (Or.inr (Or.inl rfl)) _ _ _) (frq_wI (Or.inr (Or.inr (Or.inl rfl))) _ _ _)) (frq_wI (Or.inr (Or.inr (Or.inr rfl))) _ _ _)) (frq_wI (Or.inl rfl) _ _ _)) (frq_wI (Or.inl rfl) _ _ _)) (frq_wI (Or.inl rfl) _ _ _)
        refine re_step hiL hL hti ?_ hF (ih (i + 1) 1 (nt + 1) false 0 _ _ _ _ n2 (by omega) hL (by omega) ⟨by omega, by show 4 * (nt + 1) ≤ i + 1 + 3; omega, fun _ => ⟨by omega, ?_⟩, by omega, fun _ _ => rfl⟩ ⟨?_, ?_, fun _ => ?_, fun k hk => ?_⟩ hc2 (keep _ hF))
        · exact take0 c2 (Or.inr rfl) (t_letter (x := x) (g := c i) c1 (by omega) hc.1 hc.2)
        · rw [Nat.add_sub_cancel, upd_eq]; rfl
        · rw [wI_eq, upd_ne _ (by decide), wI_eq, upd_eq]
        · rw [wI_eq, upd_eq]; rfl
        · rw [wI_eq, upd_ne _ (by decide), wI_eq, upd_ne _ (by decide), wI_eq, upd_eq]; rfl
        · rw [r53, r53, r53, r57, r56, wI_eq, r63, r63, r63, r67, wI_eq, r65, r73, r73, r73, wI_eq, r76, r75]
          unfold upd
          by_cases e : k = nt
          · rw [if_pos e, if_pos e, if_pos e, if_pos e, if_pos e, if_pos e]; exact ⟨rfl, rfl, rfl⟩
          · rw [if_neg e, if_neg e, if_neg e, if_neg e, if_neg e, if_neg e]; exact c4 k (by omega)
      · rw [if_neg hc]
        exact re_bad hiL hL hti (take0 c2 (Or.inl rfl) (t_letter0 (x := x) cg hc))
    · rw [if_neg h0]
      obtain ⟨n1, n3⟩ := g3 (by omega)
      have n10' : nt ≤ 10 := by
        unfold off at g2
        rw [if_neg h0] at g2
        by_cases e1 : rd = 1
        · rw [if_pos e1] at g2; omega
        · rw [if_neg e1] at g2
          by_cases e2 : rd = 2
          · rw [if_pos e2] at g2; omega
          · rw [if_neg e2] at g2; omega
      have h7 : x.1 (0, 0, 0, 7) (nt - 1) = sn ng v := by rw [(c4 (nt - 1) (by omega)).2.2]; exact n3
      have h5 := c3 (by omega)
      by_cases h1 : rd = 1
      · subst h1
        rw [if_pos rfl]
        by_cases hc : 60 ≤ c i ∧ c i ≤ 62
        · rw [if_pos hc]
          have hF : FrQ x (wI (wI x (0, 0, 0, 6) (nt - 1) (zI (c i))) (0, 0, 0, 3) 4 2) := frq_tr (frq_wI (Or.inr (Or.inr (Or.inl rfl))) _ _ _) (frq_wI (Or.inl rfl) _ _ _)
          have o1 : off 1 = 3 := rfl
          rw [o1] at g2
          refine re_step hiL hL hti ?_ hF (ih (i + 1) 2 nt ng v _ _ _ _ n2 (by omega) hL (by omega) ⟨by omega, by show 4 * nt ≤ i + 1 + 2; omega, fun _ => ⟨n1, n3⟩, g4, fun _ _ => g5 (by omega) (by omega)⟩ ⟨?_, ?_, fun _ => ?_, fun k hk => ?_⟩ hc2 (keep _ hF))
          · exact take1 c2 (Or.inr rfl) (t_sign (x := x) (g := c i) c1 n1 n10' hc.1 hc.2)
          · rw [wI_eq, upd_ne _ (by decide), r36]; exact c1
          · rw [wI_eq, upd_eq]; rfl
          · rw [wI_eq, upd_ne _ (by decide), r36]; exact h5
          · rw [r53, r56, r63, wI_eq, r73, r76]
            refine ⟨(c4 k hk).1, ?_, (c4 k hk).2.2⟩
            unfold upd
            by_cases e : k = nt - 1
            · rw [if_pos e, if_pos e]
            · rw [if_neg e, if_neg e]; exact (c4 k hk).2.1
        · rw [if_neg hc]
          exact re_bad hiL hL hti (take1 c2 (Or.inl rfl) (t_sign0 (x := x) c1 n1 n10' cg hc))
      · rw [if_neg h1]
        by_cases h2 : rd = 2 ∧ c i = 45
        · rw [if_pos h2]
          obtain ⟨rfl, h45⟩ := h2
          have o2 : off 2 = 2 := rfl
          rw [o2] at g2
          have v0 := g5 (by omega) (by omega)
          have hF : FrQ x (wI (wI x (0, 0, 0, 3) 5 1) (0, 0, 0, 3) 4 3) := frq_tr (frq_wI (Or.inl rfl) _ _ _) (frq_wI (Or.inl rfl) _ _ _)
          refine re_step hiL hL (by rw [h45] at hti; exact hti) ?_ hF (ih (i + 1) 3 nt true v _ _ _ _ n2 (by omega) hL (by omega) ⟨by omega, by show 4 * nt ≤ i + 1 + 1; omega, fun _ => ⟨n1, ?_⟩, g4, fun _ _ => v0⟩ ⟨?_, ?_, fun _ => ?_, fun k hk => ?_⟩ hc2 (keep _ hF))
          · exact take2a c2 (t_minus (x := x))
          · rw [n3, v0]
            cases ng <;> rfl
          · rw [wI_eq, upd_ne _ (by decide), wI_eq, upd_ne _ (by decide)]; exact c1
          · rw [wI_eq, upd_eq]; rfl
          · rw [wI_eq, upd_ne _ (by decide), wI_eq, upd_eq]; rfl
          · rw [r53, r53, r63, r63, r73, r73]; exact c4 k hk
        · rw [if_neg h2]
          by_cases h4 : rd = 4 ∧ c i = 38
          · rw [if_pos h4]
            obtain ⟨rfl, h38⟩ := h4
            have o4 : off 4 = 1 := rfl
            rw [o4] at g2
            have hF : FrQ x (wI x (0, 0, 0, 3) 4 0) := frq_wI (Or.inl rfl) _ _ _
            refine re_step hiL hL (by rw [h38] at hti; exact hti) ?_ hF (ih (i + 1) 0 nt ng v _ _ _ _ n2 (by omega) hL (by omega) ⟨by omega, by show 4 * nt ≤ i + 1 + 0; omega, fun h => absurd h (by omega), g4, fun h => absurd h (by omega)⟩ ⟨?_, ?_, fun h => absurd h (by omega), fun k hk => ?_⟩ hc2 (keep _ hF))
            · exact take4a c2 (t_and (x := x))
            · rw [wI_eq, upd_ne _ (by decide)]; exact c1
            · rw [wI_eq, upd_eq]; rfl
            · rw [r53, r63, r73]; exact c4 k hk
          · rw [if_neg h4]
            by_cases hd : (rd = 4 → 0 < v ∧ v < 1000) ∧ 48 ≤ c i ∧ c i ≤ 57
            · rw [if_pos hd]
              have hF : FrQ x (wI (wI x (0, 0, 0, 7) (nt - 1) (sn ng (v * 10 + (c i - 48)))) (0, 0, 0, 3) 4 4) := frq_tr (frq_wI (Or.inr (Or.inr (Or.inr rfl))) _ _ _) (frq_wI (Or.inl rfl) _ _ _)
              have hv : v * 10 + (c i - 48) < 10000 := by
                by_cases h44 : rd = 4
                · have := hd.1 h44; omega
                · have := g5 (by omega) (by omega); omega
              have ho : 4 * nt ≤ i + 2 := by
                unfold off at g2
                rw [if_neg h0, if_neg h1] at g2
                by_cases h22 : rd = 2
                · rw [if_pos h22] at g2; omega
                · rw [if_neg h22] at g2; omega
              have hL2 := t_digit (x := x) (g := c i) c1 h5 h7 n1 n10' hd.2.1 hd.2.2
              refine re_step hiL hL hti ?_ hF (ih (i + 1) 4 nt ng _ _ _ _ _ n2 (by omega) hL (by omega) ⟨by omega, by show 4 * nt ≤ i + 1 + 1; omega, fun _ => ⟨n1, upd_eq _ _ _⟩, hv, fun _ h => absurd h (by omega)⟩ ⟨?_, ?_, fun _ => ?_, fun k hk => ?_⟩ hc2 (keep _ hF))
              · rcases (show rd = 2 ∨ rd = 3 ∨ rd = 4 by omega) with rfl | rfl | rfl
                · exact take2b c2 (Or.inr rfl) (t_minus0 (x := x) cg (by omega)) hL2
                · exact take3 c2 (Or.inr rfl) hL2
                · have hg := t_grow (x := x) c1 h7 g4 n1 n10'
                  rw [if_pos (hd.1 rfl)] at hg
                  exact take4b c2 (Or.inr rfl) (t_and0 (x := x) cg (by omega)) hg hL2
              · rw [wI_eq, upd_ne _ (by decide), r37]; exact c1
              · rw [wI_eq, upd_eq]; rfl
              · rw [wI_eq, upd_ne _ (by decide), r37]; exact h5
              · rw [r53, r57, r63, r67, r73, wI_eq]
                refine ⟨(c4 k hk).1, (c4 k hk).2.1, ?_⟩
                unfold upd
                by_cases e : k = nt - 1
                · rw [if_pos e, if_pos e]
                · rw [if_neg e, if_neg e]; exact (c4 k hk).2.2
            · rw [if_neg hd]
              refine re_bad hiL hL hti ?_
              rcases (show rd = 2 ∨ rd = 3 ∨ rd = 4 by omega) with rfl | rfl | rfl
              · exact take2b c2 (Or.inl rfl) (t_minus0 (x := x) cg (fun e => h2 ⟨rfl, e⟩)) (t_digit0 (x := x) c1 n1 n10' cg (fun e => hd ⟨fun h => absurd h (by omega), e⟩))
              · exact take3 c2 (Or.inl rfl) (t_digit0 (x := x) c1 n1 n10' cg (fun e => hd ⟨fun h => absurd h (by omega), e⟩))
              · have hb := t_and0 (x := x) cg (fun e => h4 ⟨rfl, e⟩)
                have hg := t_grow (x := x) c1 h7 g4 n1 n10'
                by_cases hgr : 0 < v ∧ v < 1000
                · rw [if_pos hgr] at hg
                  have hb2 := t_digit0 (x := x) c1 n1 n10' cg (fun e => hd ⟨fun _ => hgr, e⟩)
                  exact take4b c2 (Or.inl rfl) hb hg hb2
                · rw [if_neg hgr] at hg
                  exact take4c c2 hb hg
/-- what the text gives -/
def rd0 (tx : Nat → Int32) (L : Nat) : RT7 := rn (fun i => Int32.toNatClampNeg (tx i)) L 0 0 0 false 0 (fun _ => 0) (fun _ => 0) (fun _ => 0)
theorem gi0 (i : Nat) (tn : Nat → Int32) : GI i 0 0 false 0 tn := ⟨by omega, by show 4 * 0 ≤ _; omega, fun h => absurd h (by omega), by omega, fun h => absurd h (by omega)⟩
theorem rd0_tk {tx : Nat → Int32} (hL : L ≤ 40) : (rd0 tx L).1 ≤ L ∧ ((rd0 tx L).2.1 = true → (rd0 tx L).1 = L ∧ TK (rd0 tx L).2.2.1 (rd0 tx L).2.2.2.1 (rd0 tx L).2.2.2.2.1 (rd0 tx L).2.2.2.2.2) := rn_tk L 0 0 0 false 0 _ _ _ (by omega) hL (gi0 0 _) ⟨fun k hk => absurd hk (Nat.not_lt_zero k), fun k hk => absurd hk (Nat.not_lt_zero k), fun k hk => absurd hk (Nat.not_lt_zero k)⟩
theorem tx_c {tx : Nat → Int32} {i : Nat} (h : 33 ≤ tx i ∧ tx i ≤ 126) : Int32.toNatClampNeg (tx i) < 127 ∧ tx i = zI (Int32.toNatClampNeg (tx i)) := by
  have h0 : 0 ≤ tx i := Int32.le_trans (by decide) h.1
  have e := zI_of h0
  refine ⟨?_, e⟩
  have h2 := h.2
  rw [e] at h2
  rw [zI_lel (Int32.toNatClampNeg_lt _) (by decide)] at h2
  exact Nat.lt_succ_of_le h2
theorem p_read {tx : Nat → Int32} (hL : L ≤ 40) (ht : ∀ i, i < L → m.1 (0, 0, 0, 2) i = tx i) (hr : ∀ i, i < L → 33 ≤ tx i ∧ tx i ≤ 126) : RE L m (F_X0_read (zI L) m) (rd0 tx L) := by
  have hF : FrQ m (wI (wI m (0, 0, 0, 3) 3 0) (0, 0, 0, 3) 4 0) := frq_tr (frq_wI (Or.inl rfl) _ _ _) (frq_wI (Or.inl rfl) _ _ _)
  have h := p_run (L := L) (c := fun i => Int32.toNatClampNeg (tx i)) L 0 0 0 false 0 (fun _ => 0) (fun _ => 0) (fun _ => 0) (wI (wI m (0, 0, 0, 3) 3 0) (0, 0, 0, 3) 4 0) fu (by omega) hL (by rw [fu_eq]; omega) (gi0 0 _) ⟨by rw [wI_eq, upd_ne _ (by decide), wI_eq, upd_eq]; rfl, by rw [wI_eq, upd_eq]; rfl, fun h => absurd h (by omega), fun k hk => absurd hk (Nat.not_lt_zero k)⟩ (fun j hj => (tx_c (hr j hj)).1) (fun j hj => by
    rw [hF.1 _ (by decide) (by decide) (by decide) (by decide), ht j hj]
    exact (tx_c (hr j hj)).2)
  obtain ⟨x2, e1, e2, e3⟩ := h
  refine ⟨x2, ?_, frq_tr hF e2, e3⟩
  simp only [F_X0_read, bd_e]
  exact e1
end QF

