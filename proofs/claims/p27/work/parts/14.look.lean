/-! closed forms of the looks: w is the reference's array -/
def vl (w : Nat → Int32) (r : Nat) (c : Int32) : Int32 := if c = -1 then -100000 else w (9 * r + 1 + Int32.toNatClampNeg c)
def isC (c : Int32) : Prop := c = -1 ∨ ∃ k, k < 8 ∧ c = zI k
def cO (w : Nat → Int32) (t : Nat) (l : Int32) : Int32 := fo (fun c a => if w (1081 + 8 * t + c) = l then zI c else a) 8 (-1)
theorem la_cases (g : Nat → Int32) (l : Int32) (n : Nat) : ((∀ c, c < n → g c ≠ l) ∧ fo (fun c a => if g c = l then zI c else a) n (-1) = -1) ∨ ∃ c, c < n ∧ fo (fun c a => if g c = l then zI c else a) n (-1) = zI c ∧ g c = l := by
  induction n with
  | zero => exact Or.inl ⟨fun c h => absurd h (Nat.not_lt_zero c), rfl⟩
  | succ n ih =>
    show ((∀ c, c < n + 1 → g c ≠ l) ∧ (if g n = l then zI n else fo (fun c a => if g c = l then zI c else a) n (-1)) = -1) ∨ ∃ c, c < n + 1 ∧ (if g n = l then zI n else fo (fun c a => if g c = l then zI c else a) n (-1)) = zI c ∧ g c = l
    by_cases h : g n = l
    · exact Or.inr ⟨n, Nat.lt_succ_self n, by rw [if_pos h], h⟩
    · rw [if_neg h]
      rcases ih with ⟨h1, h2⟩ | ⟨c, h1, h2, h3⟩
      · refine Or.inl ⟨fun c hc => ?_, h2⟩
        by_cases hcn : c = n
        · rw [hcn]; exact h
        · exact h1 c (by omega)
      · exact Or.inr ⟨c, by omega, h2, h3⟩
theorem cO_cases (w : Nat → Int32) (t : Nat) (l : Int32) : ((∀ c, c < 8 → w (1081 + 8 * t + c) ≠ l) ∧ cO w t l = -1) ∨ ∃ c, c < 8 ∧ cO w t l = zI c ∧ w (1081 + 8 * t + c) = l := la_cases (fun c => w (1081 + 8 * t + c)) l 8
theorem cO_isC (w : Nat → Int32) (t : Nat) (l : Int32) : isC (cO w t l) := by
  rcases cO_cases w t l with ⟨-, h⟩ | ⟨c, h1, h2, -⟩
  · exact Or.inl h
  · exact Or.inr ⟨c, h1, h2⟩
/-- a letter has one column at most -/
def UL (w : Nat → Int32) : Prop := ∀ t, t < 3 → ∀ c, c < 8 → ∀ c2, c2 < 8 → w (1081 + 8 * t + c) = w (1081 + 8 * t + c2) → w (1081 + 8 * t + c) ≠ -1 → c = c2
def rwsOf (w : Nat → Int32) (n t : Nat) : Int32 := sg (fun r => if w (9 * r) = zI t then 1 else 0) n
def inTb (w : Nat → Int32) (n : Nat) : Int32 := sg (fun t => if w (1159 + t) = 1 then 0 else rwsOf w n t) 3
def valsIn (w : Nat → Int32) (r : Nat) : Int32 := sg (fun c => if w (9 * r + 1 + c) = -100000 then 0 else 1) 8
def mngs (w : Nat → Int32) (t : Nat) : Int32 := sg (fun c => if w (1081 + 8 * t + c) = -1 then 0 else 1) 8
def rwsWith (w : Nat → Int32) (n t : Nat) (c v : Int32) : Int32 := sg (fun r => if w (9 * r) = zI t then (if vl w r c = v then 1 else 0) else 0) n
section PB
variable {m : Mem} {s n : Nat} {w : Nat → Int32}
-- the reference
def MW (m : Mem) (w : Nat → Int32) (n : Nat) : Prop := m.1 (3, 0, 0, 1) = w ∧ w 1080 = zI n ∧ n ≤ 120
theorem p_columnOf (h : SR m.1 s w n) (hu : UL w) {t : Nat} (ht : t < 3) {l : Int32} (hl : l ≠ -1) : F_X2_columnOf s t l m = some (cO w t l) := by
  obtain ⟨h1, h2, h3, h4, h5, h6, h7, h8⟩ := id h
  unfold F_X2_columnOf
  rw [← zI_zero]
  refine loop_ex (L := fun k (_ : Unit) i => L_X2_columnOf_2 s t l m k i) (P := fun r _ => ∀ j, j < r → w (1081 + 8 * t + j) ≠ l) (R := fun x => x = some (cO w t l)) (n := 8) ?_ ?_ 8 0 fu () rfl (by rw [fu_eq]; omega) (fun j hj => absurd hj (Nat.not_lt_zero j))
  · intro k a r hr hp
    have e := (h6 t ht r hr).1
    by_cases hw : w (1081 + 8 * t + r) = l
    · refine Or.inr ?_
      simp (discharger := omega) only [L_X2_columnOf_2, e, hw, bd, bo_some, bm_some, bts_inl, bts_inr, btm_inl, btm_inr, bp_lt, ck_ib, ck_b0, ck_b1, ifT, ifF, n10, n01, pv_v, if_pos, if_neg, zI_nat, zI_add, zI_mul, zI_addl, zI_laddl, zI_mull, zI_lmul, zI_subl, zI_pred, zI_le, zI_lt, zI_eq, zI_lel, zI_lle, zI_ltl, zI_llt, zI_eql, zI_leq, zI_ne1, zI_1ne]
      rcases cO_cases w t l with ⟨hn, -⟩ | ⟨c, hc, hc2, hc3⟩
      · exact absurd hw (hn r hr)
      · rw [hc2, hu t ht r hr c hc (hw.trans hc3.symm) (by rw [hw]; exact hl)]
    · refine Or.inl ⟨(), fun j hj => ?_, ?_⟩
      · by_cases hj2 : j = r
        · rw [hj2]; exact hw
        · exact hp j (by omega)
      · simp (discharger := omega) only [L_X2_columnOf_2, e, hw, bd, bo_some, bm_some, bts_inl, bts_inr, btm_inl, btm_inr, bp_lt, ck_ib, ck_b0, ck_b1, ifT, ifF, n10, n01, pv_v, if_pos, if_neg, zI_nat, zI_add, zI_mul, zI_addl, zI_laddl, zI_mull, zI_lmul, zI_subl, zI_pred, zI_le, zI_lt, zI_eq, zI_lel, zI_lle, zI_ltl, zI_llt, zI_eql, zI_leq, zI_ne1, zI_1ne]
  · intro k a hp
    simp (discharger := omega) only [L_X2_columnOf_2, C_X2_columnOf_26, Nat.le_refl, bd, bo_some, bm_some, bts_inl, bts_inr, btm_inl, btm_inr, bp_lt, ck_ib, ck_b0, ck_b1, ifT, ifF, n10, n01, pv_v, if_pos, if_neg, zI_nat, zI_add, zI_mul, zI_addl, zI_laddl, zI_mull, zI_lmul, zI_subl, zI_pred, zI_le, zI_lt, zI_eq, zI_lel, zI_lle, zI_ltl, zI_llt, zI_eql, zI_leq, zI_ne1, zI_1ne]
    rcases cO_cases w t l with ⟨-, hn⟩ | ⟨c, hc, -, hc3⟩
    · rw [hn]
    · exact absurd hc3 (hp c hc)
end PB

