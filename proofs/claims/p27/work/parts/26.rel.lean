/-! what holds of the memory between two calls: the class's side, the reference's side, what both stand for -/
def PRel (m : Mem) (w : Nat → Int32) (n k : Nat) (pa : Nat → Nat → Int32) (nn : Nat → Nat) (L : Nat) (tx : Nat → Int32) : Prop :=
  (∀ j, j < 7 → m.2.1 j < 7) ∧ (∀ i j, i < 7 → j < 7 → m.2.1 i = m.2.1 j → i = j) ∧ m.1 (0, 0, 0, 0) 5 = zI k ∧ SR m.1 (m.2.1 6) w n ∧ (∀ j, j < k → SR m.1 (m.2.1 j) (pa j) (nn j)) ∧ m.1 (0, 0, 0, 0) 6 = zI L ∧ ∀ i, i < L → m.1 (0, 0, 0, 2) i = tx i
def MRel (m : Mem) (w : Nat → Int32) (k : Nat) (pa : Nat → Nat → Int32) (L : Nat) (tx : Nat → Int32) : Prop :=
  m.1 (3, 0, 0, 1) = w ∧ m.1 (3, 0, 0, 0) 3 = zI k ∧ (∀ j, j < k → ∀ i, i < 1174 → m.1 (3, 0, 0, 2) (1174 * j + i) = pa j i) ∧ m.1 (3, 0, 0, 0) 5 = zI L ∧ ∀ i, i < L → m.1 (3, 0, 0, 4) i = tx i
def AInv (w : Nat → Int32) (n T k : Nat) (pa : Nat → Nat → Int32) (nn TT : Nat → Nat) (L : Nat) (tx : Nat → Int32) : Prop :=
  WI w n T ∧ k ≤ 6 ∧ (∀ j, j < k → WI (pa j) (nn j) (TT j)) ∧ L ≤ 40 ∧ ∀ i, i < L → 33 ≤ tx i ∧ tx i ≤ 126
/-- what the class leaves alone, what the reference leaves alone -/
def FrP (m m2 : Mem) : Prop := (∀ lb : Lb, lb.1 = 3 ∨ lb.1 = 4 → m2.1 lb = m.1 lb) ∧ m2.2.2 = m.2.2
def FrM (m m2 : Mem) : Prop := (∀ lb : Lb, lb.1 ≠ 3 → m2.1 lb = m.1 lb) ∧ m2.2 = m.2
section PN
variable {m : Mem} {n k L : Nat} {w tx : Nat → Int32} {pa : Nat → Nat → Int32} {nn : Nat → Nat}
theorem wI_ne {lb b : Lb} (h : b ≠ lb) (m : Mem) (i : Nat) (v : Int32) : (wI m lb i v).1 b = m.1 b := if_neg h
theorem wI_eq (m : Mem) (lb : Lb) (i : Nat) (v : Int32) : (wI m lb i v).1 lb = upd (m.1 lb) i v := if_pos rfl
theorem upd_eq (f : Nat → Int32) (i : Nat) (v : Int32) : upd f i v i = v := if_pos rfl
theorem upd_ne (f : Nat → Int32) {i j : Nat} (h : j ≠ i) (v : Int32) : upd f i v j = f j := if_neg h
theorem p_clear (h : PRel m w n k pa nn L tx) : ∃ m2, F_X3_clearBuffer m = some (zI L, m2) ∧ PRel m2 w n k pa nn 0 tx ∧ FrP m m2 := by
  obtain ⟨h1, h2, h3, h4, h5, h6, h7⟩ := h
  refine ⟨wI m (0, 0, 0, 0) 6 0, ?_, ⟨h1, h2, ?_, ?_, ?_, ?_, fun i hi => absurd hi (Nat.not_lt_zero i)⟩, ?_, rfl⟩
  · show some (m.1 (0, 0, 0, 0) 6, wI m (0, 0, 0, 0) 6 0) = _
    rw [h6]
  · rw [wI_eq, upd_ne _ (by decide)]; exact h3
  · exact h4.frame (fun lb hl => wI_ne (by rintro rfl; rcases hl with hl | hl <;> exact absurd hl (by decide)) m 6 0)
  · exact fun j hj => (h5 j hj).frame (fun lb hl => wI_ne (by rintro rfl; rcases hl with hl | hl <;> exact absurd hl (by decide)) m 6 0)
  · rw [wI_eq, upd_eq]; rfl
  · exact fun lb hl => wI_ne (by rintro rfl; rcases hl with hl | hl <;> exact absurd hl (by decide)) m 6 0
end PN

