/-! sums over rows, over tenants -/
theorem sg_add (f g : Nat → Int32) (n : Nat) : sg (fun r => f r + g r) n = sg f n + sg g n := by
  induction n with
  | zero => rfl
  | succ n ih =>
    show sg (fun r => f r + g r) n + (f n + g n) = (sg f n + f n) + (sg g n + g n)
    rw [ih, Int32.add_assoc, Int32.add_assoc, ← Int32.add_assoc (sg g n) (f n) (g n), Int32.add_comm (sg g n) (f n), Int32.add_assoc (f n) (sg g n) (g n)]
theorem sg_zero (n : Nat) : sg (fun _ => 0) n = 0 := by
  induction n with
  | zero => rfl
  | succ n ih => show sg (fun _ => 0) n + 0 = 0; rw [ih]; rfl
theorem sg_if (c : Prop) [Decidable c] (f : Nat → Int32) (n : Nat) : (if c then 0 else sg f n) = sg (fun r => if c then 0 else f r) n := by
  by_cases h : c
  · rw [if_pos h]
    refine Eq.trans (sg_zero n).symm (sg_congr (fun r _ => by rw [if_pos h]))
  · rw [if_neg h]
    exact sg_congr (fun r _ => by rw [if_neg h])
theorem sg_cut (g : Nat → Int32) (T n : Nat) (h : T ≤ n) : sg (fun r => if r < T then g r else 0) n = sg g T := by
  induction n with
  | zero => rw [show T = 0 by omega]; rfl
  | succ n ih =>
    show sg (fun r => if r < T then g r else 0) n + (if n < T then g n else 0) = sg g T
    by_cases hT : T = n + 1
    · subst hT
      rw [if_pos (Nat.lt_succ_self n)]
      show _ = sg g n + g n
      rw [sg_congr (fun r hr => if_pos (show r < n + 1 by omega))]
    · rw [if_neg (by omega), ih (by omega), Int32.add_zero]
theorem sg_one (n : Nat) : sg (fun _ => 1) n = zI n := by
  induction n with
  | zero => rfl
  | succ n ih =>
    show sg (fun _ => 1) n + 1 = zI (n + 1)
    rw [ih]
    exact zI_addl n 1
/-- owners, moved: what they can be -/
def OW (w : Nat → Int32) (n : Nat) : Prop := ∀ r, r < n → ∃ t, t < 3 ∧ w (9 * r) = zI t
def MV (w : Nat → Int32) : Prop := ∀ t, t < 3 → w (1159 + t) = 0 ∨ w (1159 + t) = 1
def mvd (w : Nat → Int32) (r : Nat) : Int32 := w (1159 + Int32.toNatClampNeg (w (9 * r)))
theorem mvd_of {w : Nat → Int32} {r t : Nat} (ht : t < 3) (h : w (9 * r) = zI t) : mvd w r = w (1159 + t) := by
  unfold mvd
  rw [h, zI_nat (by omega)]
/-- the table's rows stand ahead -/
def TF (w : Nat → Int32) (n T : Nat) : Prop := T ≤ n ∧ (∀ r, r < T → mvd w r = 0) ∧ ∀ r, T ≤ r → r < n → mvd w r = 1
theorem inTb_sg {w : Nat → Int32} {n : Nat} (ho : OW w n) (hm : MV w) : inTb w n = sg (fun r => if mvd w r = 0 then 1 else 0) n := by
  unfold inTb rwsOf
  show ((0 + (if w (1159 + 0) = 1 then 0 else sg (fun r => if w (9 * r) = zI 0 then 1 else 0) n)) + (if w (1159 + 1) = 1 then 0 else sg (fun r => if w (9 * r) = zI 1 then 1 else 0) n)) + (if w (1159 + 2) = 1 then 0 else sg (fun r => if w (9 * r) = zI 2 then 1 else 0) n) = _
  rw [Int32.zero_add, sg_if, sg_if, sg_if, ← sg_add, ← sg_add]
  refine sg_congr (fun r hr => ?_)
  obtain ⟨t, ht, hw⟩ := ho r hr
  rw [mvd_of ht hw, hw]
  have hz : ∀ a b : Nat, a < 3 → b < 3 → (zI a = zI b) = (a = b) := fun a b ha hb => zI_eq (by omega) (by omega)
  have key : ∀ x : Nat, x < 3 → (if w (1159 + x) = 1 then (0 : Int32) else 1) = (if w (1159 + x) = 0 then 1 else 0) := by
    intro x hx
    rcases hm x hx with h | h
    · rw [h]; rfl
    · rw [h]; rfl
  have e0 : ∀ c : Prop, ∀ [Decidable c], (if c then (0 : Int32) else 0) = 0 := fun c _ => ite_self 0
  rcases (show t = 0 ∨ t = 1 ∨ t = 2 by omega) with rfl | rfl | rfl
  · rw [if_pos rfl, if_neg (show ¬ zI 0 = zI 1 by rw [hz 0 1 (by omega) (by omega)]; omega), if_neg (show ¬ zI 0 = zI 2 by rw [hz 0 2 (by omega) (by omega)]; omega), e0, e0, Int32.add_zero, Int32.add_zero, key 0 (by omega)]
  · rw [if_neg (show ¬ zI 1 = zI 0 by rw [hz 1 0 (by omega) (by omega)]; omega), if_pos rfl, if_neg (show ¬ zI 1 = zI 2 by rw [hz 1 2 (by omega) (by omega)]; omega), e0, e0, Int32.zero_add, Int32.add_zero, key 1 (by omega)]
  · rw [if_neg (show ¬ zI 2 = zI 0 by rw [hz 2 0 (by omega) (by omega)]; omega), if_neg (show ¬ zI 2 = zI 1 by rw [hz 2 1 (by omega) (by omega)]; omega), if_pos rfl, e0, e0, Int32.zero_add, Int32.zero_add, key 2 (by omega)]
theorem inTb_T {w : Nat → Int32} {n T : Nat} (ho : OW w n) (hm : MV w) (ht : TF w n T) : inTb w n = zI T := by
  rw [inTb_sg ho hm, ← sg_one T, ← sg_cut (fun _ => 1) T n ht.1]
  refine sg_congr (fun r hr => ?_)
  by_cases h : r < T
  · rw [ht.2.1 r h, if_pos h]; rfl
  · rw [ht.2.2 r (by omega) hr, if_neg h]; rfl
section PC
variable {m : Mem} {s n : Nat} {w : Nat → Int32}
theorem p_rowsOf2 (h : SR m.1 s w n) {t : Nat} (ht : t < 3) : F_X1_rowsOf s (zI t) m = some (rwsOf w n t) := p_rowsOf h t ht
theorem p_tableRows (h : SR m.1 s w n) (hm : MV w) : F_X1_tableRows s m = some (inTb w n) := by
  obtain ⟨h1, h2, h3, h4, h5, h6, h7, h8⟩ := id h
  rw [inTb_sg h8 hm]
  unfold F_X1_tableRows
  refine loop_sg0 (c := some) ?_ ?_ fu (by rw [fu_eq]; omega)
  · intro k a r hr
    obtain ⟨t, ht, hw⟩ := h8 r hr
    have e := (h7 t ht).2.2.1
    by_cases hv : w (1159 + t) = 0
    · simp (discharger := omega) only [L_X1_tableRows_4, J_X1_tableRows_29, h3, p_owner h hr ht hw, e, mvd_of ht hw, hv, p_asN, bd, bo_some, bm_some, bts_inl, bts_inr, btm_inl, btm_inr, bp_lt, ck_ib, ck_b0, ck_b1, ifT, ifF, n10, n01, pv_v, if_pos, if_neg, zI_nat, zI_add, zI_mul, zI_addl, zI_laddl, zI_mull, zI_lmul, zI_subl, zI_pred, zI_le, zI_lt, zI_eq, zI_lel, zI_lle, zI_ltl, zI_llt, zI_eql, zI_leq, zI_ne1, zI_1ne] <;> rfl
    · simp (discharger := omega) only [L_X1_tableRows_4, J_X1_tableRows_29, h3, p_owner h hr ht hw, e, mvd_of ht hw, hv, p_asN, bd, bo_some, bm_some, bts_inl, bts_inr, btm_inl, btm_inr, bp_lt, ck_ib, ck_b0, ck_b1, ifT, ifF, n10, n01, pv_v, if_pos, if_neg, zI_nat, zI_add, zI_mul, zI_addl, zI_laddl, zI_mull, zI_lmul, zI_subl, zI_pred, zI_le, zI_lt, zI_eq, zI_lel, zI_lle, zI_ltl, zI_llt, zI_eql, zI_leq, zI_ne1, zI_1ne]
  · intro k a
    simp (discharger := omega) only [L_X1_tableRows_4, C_X1_tableRows_40, h3, Nat.le_refl, bd, bo_some, bm_some, bts_inl, bts_inr, btm_inl, btm_inr, bp_lt, ck_ib, ck_b0, ck_b1, ifT, ifF, n10, n01, pv_v, if_pos, if_neg, zI_nat, zI_add, zI_mul, zI_addl, zI_laddl, zI_mull, zI_lmul, zI_subl, zI_pred, zI_le, zI_lt, zI_eq, zI_lel, zI_lle, zI_ltl, zI_llt, zI_eql, zI_leq, zI_ne1, zI_1ne]
theorem pv_no {v : Int32} (h : v ≠ -1000000) : (pv v = -1000000) = (v = -100000) := by
  unfold pv
  by_cases h2 : v = -100000
  · rw [if_pos h2]; exact propext ⟨fun _ => h2, fun _ => rfl⟩
  · rw [if_neg h2]; exact propext ⟨fun h3 => absurd h3 h, fun h3 => absurd h3 h2⟩
/-- the values that rows can hold -/
def vok (v : Int32) : Prop := v = -100000 ∨ (-9999 ≤ v ∧ v ≤ 9999)
theorem vok_no {v : Int32} (h : vok v) : v ≠ -1000000 := by
  rcases h with rfl | ⟨h, -⟩
  · decide
  · rintro rfl
    exact absurd h (by decide)
def VS (w : Nat → Int32) (n : Nat) : Prop := ∀ r, r < n → ∀ c, c < 8 → vok (w (9 * r + 1 + c))
theorem vl_ok (h : VS w n) {r : Nat} (hr : r < n) {c : Int32} (hc : isC c) : vok (vl w r c) := by
  rcases hc with rfl | ⟨k, hk, rfl⟩
  · exact Or.inl rfl
  · unfold vl
    rw [if_neg (by rw [zI_ne1 (by omega)]; exact not_false), zI_nat (by omega)]
    exact h r hr k hk
theorem p_valueC (h : SR m.1 s w n) {r : Nat} (hr : r < n) {c : Int32} (hc : isC c) : F_X1_valueAt s (zI r) c m = some (pv (vl w r c)) := by
  rcases hc with rfl | ⟨k, hk, rfl⟩
  · exact p_valueAtN h hr
  · rw [p_valueAt h hr hk]
    unfold vl
    rw [if_neg (by rw [zI_ne1 (by omega)]; exact not_false), zI_nat (by omega)]
theorem p_valuesIn (h : SR m.1 s w n) (hv : VS w n) {r : Nat} (hr : r < n) : F_X1_valuesIn s (zI r) m = some (valsIn w r) := by
  unfold F_X1_valuesIn valsIn
  refine loop_sg0 (c := some) ?_ ?_ fu (by rw [fu_eq]; omega)
  · intro k a c hc
    have e := pv_no (vok_no (hv r hr c hc))
    by_cases hw : w (9 * r + 1 + c) = -100000
    · simp (discharger := omega) only [L_X1_valuesIn_4, J_X1_valuesIn_27, p_valueAt h hr hc, e, hw, p_asN, bd, bo_some, bm_some, bts_inl, bts_inr, btm_inl, btm_inr, bp_lt, ck_ib, ck_b0, ck_b1, ifT, ifF, n10, n01, pv_v, if_pos, if_neg, zI_nat, zI_add, zI_mul, zI_addl, zI_laddl, zI_mull, zI_lmul, zI_subl, zI_pred, zI_le, zI_lt, zI_eq, zI_lel, zI_lle, zI_ltl, zI_llt, zI_eql, zI_leq, zI_ne1, zI_1ne]
    · simp (discharger := omega) only [L_X1_valuesIn_4, J_X1_valuesIn_27, p_valueAt h hr hc, e, hw, p_asN, bd, bo_some, bm_some, bts_inl, bts_inr, btm_inl, btm_inr, bp_lt, ck_ib, ck_b0, ck_b1, ifT, ifF, n10, n01, pv_v, if_pos, if_neg, zI_nat, zI_add, zI_mul, zI_addl, zI_laddl, zI_mull, zI_lmul, zI_subl, zI_pred, zI_le, zI_lt, zI_eq, zI_lel, zI_lle, zI_ltl, zI_llt, zI_eql, zI_leq, zI_ne1, zI_1ne] <;> rfl
  · intro k a
    simp (discharger := omega) only [L_X1_valuesIn_4, C_X1_valuesIn_38, Nat.le_refl, bd, bo_some, bm_some, bts_inl, bts_inr, btm_inl, btm_inr, bp_lt, ck_ib, ck_b0, ck_b1, ifT, ifF, n10, n01, pv_v, if_pos, if_neg, zI_nat, zI_add, zI_mul, zI_addl, zI_laddl, zI_mull, zI_lmul, zI_subl, zI_pred, zI_le, zI_lt, zI_eq, zI_lel, zI_lle, zI_ltl, zI_llt, zI_eql, zI_leq, zI_ne1, zI_1ne]
def tbVals (w : Nat → Int32) (T : Nat) : Int32 := sg (valsIn w) T
theorem p_tableValues (h : SR m.1 s w n) (hv : VS w n) {T : Nat} (hT : TF w n T) : F_X1_tableValues s m = some (tbVals w T) := by
  obtain ⟨h1, h2, h3, h4, h5, h6, h7, h8⟩ := id h
  unfold F_X1_tableValues tbVals
  rw [← sg_cut (valsIn w) T n hT.1]
  refine loop_sg0 (c := some) ?_ ?_ fu (by rw [fu_eq]; omega)
  · intro k a r hr
    obtain ⟨t, ht, hw⟩ := h8 r hr
    have e := (h7 t ht).2.2.1
    by_cases hlt : r < T
    · have e2 := hT.2.1 r hlt
      rw [mvd_of ht hw] at e2
      simp (discharger := omega) only [L_X1_tableValues_4, J_X1_tableValues_33, h3, p_owner h hr ht hw, e, e2, p_valuesIn h hv hr, hlt, bd, bo_some, bm_some, bts_inl, bts_inr, btm_inl, btm_inr, bp_lt, ck_ib, ck_b0, ck_b1, ifT, ifF, n10, n01, pv_v, if_pos, if_neg, zI_nat, zI_add, zI_mul, zI_addl, zI_laddl, zI_mull, zI_lmul, zI_subl, zI_pred, zI_le, zI_lt, zI_eq, zI_lel, zI_lle, zI_ltl, zI_llt, zI_eql, zI_leq, zI_ne1, zI_1ne]
    · have e2 := hT.2.2 r (by omega) hr
      rw [mvd_of ht hw] at e2
      have e3 : ¬ (1 : Int32) = 0 := by decide
      simp (discharger := omega) only [L_X1_tableValues_4, J_X1_tableValues_33, h3, p_owner h hr ht hw, e, e2, e3, hlt, bd, bo_some, bm_some, bts_inl, bts_inr, btm_inl, btm_inr, bp_lt, ck_ib, ck_b0, ck_b1, ifT, ifF, n10, n01, pv_v, if_pos, if_neg, zI_nat, zI_add, zI_mul, zI_addl, zI_laddl, zI_mull, zI_lmul, zI_subl, zI_pred, zI_le, zI_lt, zI_eq, zI_lel, zI_lle, zI_ltl, zI_llt, zI_eql, zI_leq, zI_ne1, zI_1ne]
  · intro k a
    simp (discharger := omega) only [L_X1_tableValues_4, C_X1_tableValues_41, h3, Nat.le_refl, bd, bo_some, bm_some, bts_inl, bts_inr, btm_inl, btm_inr, bp_lt, ck_ib, ck_b0, ck_b1, ifT, ifF, n10, n01, pv_v, if_pos, if_neg, zI_nat, zI_add, zI_mul, zI_addl, zI_laddl, zI_mull, zI_lmul, zI_subl, zI_pred, zI_le, zI_lt, zI_eq, zI_lel, zI_lle, zI_ltl, zI_llt, zI_eql, zI_leq, zI_ne1, zI_1ne]
end PC

