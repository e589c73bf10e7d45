/-! low and cell *-/
section RE2
variable {m : Mem}
theorem and31 (v : Int32) : ∃ a, a < 2147483648 ∧ v &&& 2147483647 = zI a := by
  refine ⟨v.toBitVec.toNat % 2147483648, Nat.mod_lt _ (by decide), ?_⟩
  have hb : v.toBitVec.toNat % 2147483648 < 2147483648 := Nat.mod_lt _ (by decide)
  apply Int32.toBitVec_inj.mp
  apply BitVec.eq_of_toNat_eq
  show (v.toBitVec &&& (2147483647 : Int32).toBitVec).toNat = (BitVec.ofNat 32 (v.toBitVec.toNat % 2147483648)).toNat
  have e : ((2147483647 : Int32).toBitVec).toNat = 2 ^ 31 - 1 := by decide
  rw [BitVec.toNat_and, BitVec.toNat_ofNat, e, Nat.and_two_pow_sub_one_eq_mod, Nat.mod_eq_of_lt (a := v.toBitVec.toNat % 2147483648) (by omega)]
theorem zI_div {a b : Nat} (ha : a < 2147483648) (hb : b < 2147483648) : zI a / zI b = zI (a / b) := by
  have hne : zI b ≠ -1 := fun e => by rw [zI_ne1 hb] at e; exact e
  have hd := Nat.div_le_self a b
  apply Int32.toInt_inj.mp
  rw [Int32.toInt_div_of_ne_right _ _ hne, zI_int ha, zI_int hb, zI_int (by omega)]
  exact (Int.ofNat_tdiv a b).symm
theorem l_low (v : Int32) {n : Nat} (h0 : 0 < n) (hn : n < 2147483648) (m : Mem) : ∃ j, j < n ∧ F_L_low v (zI n) m = some (zI j) := by
  obtain ⟨a, ha, e⟩ := and31 v
  refine ⟨a % n, Nat.mod_lt _ h0, ?_⟩
  have hz : ¬ zI n = 0 := by
    rw [← zI_zero, zI_eq hn (by omega)]
    omega
  have hm : a - a / n * n = a % n := by
    rw [Nat.mod_def, Nat.mul_comm]
  unfold F_L_low
  rw [bd_e, e, decide_eq_false hz, zI_div ha hn, zI_mul, zI_sub (Nat.div_mul_le_self a n), hm]
  rfl
theorem l_cell {sL : Nat} {sx : Nat → Int32} (hL : sL ≤ 260) {p : Nat} (hp : p < 100000) (m : Mem) : ∃ v, F_L_cell sL sx (zI p) m = some v := by
  have h0 : F_L_cell sL sx (zI p) m = (if zI sL ≤ zI p then bd (40503 * zI p) fun v3 => bd (v3 + 977) fun v4 => J_L_cell_20 v4 else ck (ib (zI p) sL) (bd (sx (Int32.toNatClampNeg (zI p))) fun v5 => J_L_cell_20 v5)) := rfl
  rw [h0]
  by_cases h : sL ≤ p
  · rw [if_pos (by rw [zI_le (by omega) (by omega)]; exact h)]
    exact ⟨_, rfl⟩
  · rw [if_neg (by rw [zI_le (by omega) (by omega)]; exact h), ck_ib (by omega) (by omega)]
    exact ⟨_, rfl⟩
end RE2
