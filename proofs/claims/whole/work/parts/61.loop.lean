/-! the law's loop: it ends, and answers true -/
theorem ll_ok {sL : Nat} {sx : Nat → Int32} (hs : sL ≤ 2048) : ∀ (f vi : Nat) (mi : Mem), St mi → vi ≤ sL + 4 → sL + 4 < vi + 4 * f → LL sL sx f (zI vi) mi = some () := by
  intro f
  induction f with
  | zero => intro vi mi h h1 h2; omega
  | succ f ih =>
    intro vi mi h h1 h2
    rw [LL, bd_e]
    have hz : Int32.ofNat sL = zI sL := rfl
    rw [hz]
    by_cases hlt : zI sL - 4 < zI vi
    · rw [if_pos hlt]
    rw [if_neg hlt]
    have h4 : vi + 4 ≤ sL := by
      by_cases h5 : 4 ≤ sL
      · rw [zI_subl h5, zI_lt (by omega) (by omega)] at hlt
        have h6 : ¬ sL - 4 < vi := hlt
        omega
      · exfalso
        apply hlt
        have e1 : (zI vi).toInt = vi := zI_int (by omega)
        rw [Int32.lt_iff_toInt_lt, e1]
        rcases (show sL = 0 ∨ sL = 1 ∨ sL = 2 ∨ sL = 3 by omega) with e | e | e | e <;> rw [e]
        · have : (zI 0 - 4).toInt = -4 := by decide
          omega
        · have : (zI 1 - 4).toInt = -3 := by decide
          omega
        · have : (zI 2 - 4).toInt = -2 := by decide
          omega
        · have : (zI 3 - 4).toInt = -1 := by decide
          omega
    rw [ck_ib (by omega) (by omega), bd_e, zI_nat (by omega), bd_e]
    by_cases c0 : sx vi &&& 31 = 0
    · obtain ⟨m2, o1, o2⟩ := b_0 (sL := sL) (sx := sx) (kb := fun w0 w1 => LL sL sx f w0 w1) h (show vi + 4 ≤ sL by omega) hs
      rw [if_pos c0, o1]
      exact ih (vi + 4) m2 o2 (by omega) (by omega)
    rw [if_neg c0]
    by_cases c1 : sx vi &&& 31 = 1
    · obtain ⟨m2, o1, o2⟩ := b_1 (sL := sL) (sx := sx) (kb := fun w0 w1 => LL sL sx f w0 w1) h (show vi + 4 ≤ sL by omega) hs
      rw [if_pos c1, o1]
      exact ih (vi + 4) m2 o2 (by omega) (by omega)
    rw [if_neg c1]
    by_cases c2 : sx vi &&& 31 = 2
    · obtain ⟨m2, o1, o2⟩ := b_2 (sL := sL) (sx := sx) (kb := fun w0 w1 => LL sL sx f w0 w1) h (show vi + 4 ≤ sL by omega) hs
      rw [if_pos c2, o1]
      exact ih (vi + 4) m2 o2 (by omega) (by omega)
    rw [if_neg c2]
    by_cases c3 : sx vi &&& 31 = 3
    · obtain ⟨m2, o1, o2⟩ := b_3 (sL := sL) (sx := sx) (kb := fun w0 w1 => LL sL sx f w0 w1) h (show vi + 4 ≤ sL by omega) hs
      rw [if_pos c3, o1]
      exact ih (vi + 4) m2 o2 (by omega) (by omega)
    rw [if_neg c3]
    by_cases c4 : sx vi &&& 31 = 4
    · obtain ⟨m2, o1, o2⟩ := b_4 (sL := sL) (sx := sx) (kb := fun w0 w1 => LL sL sx f w0 w1) h (show vi + 4 ≤ sL by omega) hs
      rw [if_pos c4, o1]
      exact ih (vi + 4) m2 o2 (by omega) (by omega)
    rw [if_neg c4]
    by_cases c5 : sx vi &&& 31 = 5
    · obtain ⟨m2, o1, o2⟩ := b_5 (sL := sL) (sx := sx) (kb := fun w0 w1 => LL sL sx f w0 w1) h (show vi + 4 ≤ sL by omega) hs
      rw [if_pos c5, o1]
      exact ih (vi + 4) m2 o2 (by omega) (by omega)
    rw [if_neg c5]
    by_cases c6 : sx vi &&& 31 = 6
    · obtain ⟨m2, o1, o2⟩ := b_6 (sL := sL) (sx := sx) (kb := fun w0 w1 => LL sL sx f w0 w1) h (show vi + 4 ≤ sL by omega) hs
      rw [if_pos c6, o1]
      exact ih (vi + 4) m2 o2 (by omega) (by omega)
    rw [if_neg c6]
    by_cases c7 : sx vi &&& 31 = 7
    · obtain ⟨m2, o1, o2⟩ := b_7 (sL := sL) (sx := sx) (kb := fun w0 w1 => LL sL sx f w0 w1) h (show vi + 4 ≤ sL by omega) hs
      rw [if_pos c7, o1]
      exact ih (vi + 4) m2 o2 (by omega) (by omega)
    rw [if_neg c7]
    by_cases c8 : sx vi &&& 31 = 8
    · obtain ⟨m2, o1, o2⟩ := b_8 (sL := sL) (sx := sx) (kb := fun w0 w1 => LL sL sx f w0 w1) h (show vi + 4 ≤ sL by omega) hs
      rw [if_pos c8, o1]
      exact ih (vi + 4) m2 o2 (by omega) (by omega)
    rw [if_neg c8]
    by_cases c9 : sx vi &&& 31 = 9
    · obtain ⟨m2, o1, o2⟩ := b_9 (sL := sL) (sx := sx) (kb := fun w0 w1 => LL sL sx f w0 w1) h (show vi + 4 ≤ sL by omega) hs
      rw [if_pos c9, o1]
      exact ih (vi + 4) m2 o2 (by omega) (by omega)
    rw [if_neg c9]
    by_cases c10 : sx vi &&& 31 = 10
    · obtain ⟨m2, o1, o2⟩ := b_10 (sL := sL) (kb := fun w0 w1 => LL sL sx f w0 w1) h (show vi + 4 ≤ sL by omega) hs
      rw [if_pos c10, o1]
      exact ih (vi + 4) m2 o2 (by omega) (by omega)
    rw [if_neg c10]
    by_cases c11 : sx vi &&& 31 = 11
    · obtain ⟨m2, o1, o2⟩ := b_11 (sL := sL) (kb := fun w0 w1 => LL sL sx f w0 w1) h (show vi + 4 ≤ sL by omega) hs
      rw [if_pos c11, o1]
      exact ih (vi + 4) m2 o2 (by omega) (by omega)
    rw [if_neg c11]
    by_cases c12 : sx vi &&& 31 = 12
    · obtain ⟨m2, o1, o2⟩ := b_12 (sL := sL) (sx := sx) (kb := fun w0 w1 => LL sL sx f w0 w1) h (show vi + 4 ≤ sL by omega) hs
      rw [if_pos c12, o1]
      exact ih (vi + 4) m2 o2 (by omega) (by omega)
    rw [if_neg c12]
    by_cases c13 : sx vi &&& 31 = 13
    · obtain ⟨m2, o1, o2⟩ := b_13 (sL := sL) (sx := sx) (kb := fun w0 w1 => LL sL sx f w0 w1) h (show vi + 4 ≤ sL by omega) hs
      rw [if_pos c13, o1]
      exact ih (vi + 4) m2 o2 (by omega) (by omega)
    rw [if_neg c13]
    by_cases c14 : sx vi &&& 31 = 14
    · obtain ⟨m2, o1, o2⟩ := b_14 (sL := sL) (kb := fun w0 w1 => LL sL sx f w0 w1) h (show vi + 4 ≤ sL by omega) hs
      rw [if_pos c14, o1]
      exact ih (vi + 4) m2 o2 (by omega) (by omega)
    rw [if_neg c14]
    by_cases c15 : sx vi &&& 31 = 15
    · obtain ⟨m2, o1, o2⟩ := b_15 (sL := sL) (sx := sx) (kb := fun w0 w1 => LL sL sx f w0 w1) h (show vi + 4 ≤ sL by omega) hs
      rw [if_pos c15, o1]
      exact ih (vi + 4) m2 o2 (by omega) (by omega)
    rw [if_neg c15]
    by_cases c16 : sx vi &&& 31 = 16
    · obtain ⟨m2, o1, o2⟩ := b_16 (sL := sL) (sx := sx) (kb := fun w0 w1 => LL sL sx f w0 w1) h (show vi + 4 ≤ sL by omega) hs
      rw [if_pos c16, o1]
      exact ih (vi + 4) m2 o2 (by omega) (by omega)
    rw [if_neg c16]
    by_cases c17 : sx vi &&& 31 = 17
    · obtain ⟨m2, o1, o2⟩ := b_17 (sL := sL) (sx := sx) (kb := fun w0 w1 => LL sL sx f w0 w1) h (show vi + 4 ≤ sL by omega) hs
      rw [if_pos c17, o1]
      exact ih (vi + 4) m2 o2 (by omega) (by omega)
    rw [if_neg c17]
    by_cases c18 : sx vi &&& 31 = 18
    · obtain ⟨m2, o1, o2⟩ := b_18 (sL := sL) (sx := sx) (kb := fun w0 w1 => LL sL sx f w0 w1) h (show vi + 4 ≤ sL by omega) hs
      rw [if_pos c18, o1]
      exact ih (vi + 4) m2 o2 (by omega) (by omega)
    rw [if_neg c18]
    by_cases c19 : sx vi &&& 31 = 19
    · obtain ⟨m2, o1, o2⟩ := b_19 (sL := sL) (sx := sx) (kb := fun w0 w1 => LL sL sx f w0 w1) h (show vi + 4 ≤ sL by omega) hs
      rw [if_pos c19, o1]
      exact ih (vi + 4) m2 o2 (by omega) (by omega)
    rw [if_neg c19]
    by_cases c20 : sx vi &&& 31 = 20
    · obtain ⟨m2, o1, o2⟩ := b_20 (sL := sL) (sx := sx) (kb := fun w0 w1 => LL sL sx f w0 w1) h (show vi + 4 ≤ sL by omega) hs
      rw [if_pos c20, o1]
      exact ih (vi + 4) m2 o2 (by omega) (by omega)
    rw [if_neg c20]
    by_cases c21 : sx vi &&& 31 = 21
    · obtain ⟨m2, o1, o2⟩ := b_21 (sL := sL) (sx := sx) (kb := fun w0 w1 => LL sL sx f w0 w1) h (show vi + 4 ≤ sL by omega) hs
      rw [if_pos c21, o1]
      exact ih (vi + 4) m2 o2 (by omega) (by omega)
    rw [if_neg c21]
    by_cases c22 : sx vi &&& 31 = 22
    · obtain ⟨m2, o1, o2⟩ := b_22 (sL := sL) (kb := fun w0 w1 => LL sL sx f w0 w1) h (show vi + 4 ≤ sL by omega) hs
      rw [if_pos c22, o1]
      exact ih (vi + 4) m2 o2 (by omega) (by omega)
    rw [if_neg c22]
    by_cases c23 : sx vi &&& 31 = 23
    · obtain ⟨m2, o1, o2⟩ := b_23 (sL := sL) (kb := fun w0 w1 => LL sL sx f w0 w1) h (show vi + 4 ≤ sL by omega) hs
      rw [if_pos c23, o1]
      exact ih (vi + 4) m2 o2 (by omega) (by omega)
    rw [if_neg c23]
    unfold J_L_law_1549
    rw [bd_e, zI_addl]
    exact ih (vi + 4) mi h (by omega) (by omega)
