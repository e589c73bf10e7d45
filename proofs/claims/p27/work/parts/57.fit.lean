/-! values fit to kinds; what p27's law needs of a state, between calls *-/
def FT (w : Nat → Int32) (n : Nat) : Prop := ∀ r, r < n → ∀ t, t < 3 → w (9 * r) = zI t → ∀ c, c < 8 → w (9 * r + 1 + c) = -100000 ∨ (w (1081 + 8 * t + c) ≠ -1 ∧ ftK (w (1105 + 8 * t + c)) (w (9 * r + 1 + c)) = 1)
def KD (w : Nat → Int32) : Prop := ∀ t, t < 3 → ∀ c, c < 8 → w (1081 + 8 * t + c) ≠ -1 → ∃ k, k < 3 ∧ w (1105 + 8 * t + c) = zI k
def CL (w : Nat → Int32) : Prop := ∀ t, t < 3 → ∃ a, a ≤ 8 ∧ w (1156 + t) = zI a
def JV (w : Nat → Int32) (n : Nat) : Prop := FT w n ∧ KD w ∧ CL w
/-- refusals, of all tenants -/
def RFS (w : Nat → Int32) : Int32 := w 1171 + w 1172 + w 1173
def RFQ (w w2 : Nat → Int32) (v : Int32) : Prop := (v < -1 ∧ -30 < v ∧ RFS w2 = RFS w + 1) ∨ (-1 ≤ v ∧ RFS w2 = RFS w)
def IS (m : Mem) (w : Nat → Int32) (n T k : Nat) (pa : Nat → Nat → Int32) (nn TT : Nat → Nat) (L : Nat) (tx : Nat → Int32) : Prop := PRel m w n k pa nn L tx ∧ AInv w n T k pa nn TT L tx ∧ JV w n ∧ ∀ j, j < k → JV (pa j) (nn j)
/-- a call that saves -/
def SOut (F : Option ((Int32 ⊕ Nat) × Mem)) (Q : Int32 → (Nat → Int32) → Nat → Prop) (w : Nat → Int32) (n T k : Nat) (pa : Nat → Nat → Int32) (nn TT : Nat → Nat) (L : Nat) (tx : Nat → Int32) : Prop := ∃ v m2 w2 n2 T2, F = some (.inl v, m2) ∧ IS m2 w2 n2 T2 (svK k) (svF k pa w) (svF k nn n) (svF k TT T) L tx ∧ RFQ w w2 v ∧ Q v w2 n2
section RA
variable {m m2 mi : Mem} {n n0 n2 k L T T2 s t c r : Nat} {w w2 v tx : Nat → Int32} {pa : Nat → Nat → Int32} {nn TT : Nat → Nat} {l : List Nat} {F : Option ((Int32 ⊕ Nat) × Mem)} {Q : Int32 → (Nat → Int32) → Nat → Prop}
theorem jv_low (h : JV w n) (e : ∀ i, i < 9 * n ∨ (1081 ≤ i ∧ i < 1129) ∨ (1156 ≤ i ∧ i < 1159) → w2 i = w i) : JV w2 n := by
  obtain ⟨h1, h2, h3⟩ := h
  refine ⟨fun r hr t ht ho c hc => ?_, fun t ht c hc hl => ?_, fun t ht => ?_⟩
  · rw [e (9 * r) (by omega)] at ho
    rw [e (9 * r + 1 + c) (by omega), e (1081 + 8 * t + c) (by omega), e (1105 + 8 * t + c) (by omega)]
    exact h1 r hr t ht ho c hc
  · rw [e (1081 + 8 * t + c) (by omega)] at hl
    rw [e (1105 + 8 * t + c) (by omega)]
    exact h2 t ht c hc hl
  · rw [e (1156 + t) (by omega)]
    exact h3 t ht
theorem jv_list (h : JV v n0) (hl : l.length ≤ 120) (hm : ∀ i, i < l.length → gt0 l i < n0) : JV (lsW l v) l.length := by
  obtain ⟨h1, h2, h3⟩ := h
  refine ⟨fun r hr t ht ho c hc => ?_, fun t ht c hc hlt => ?_, fun t ht => ?_⟩
  · rw [lsW_row0 l v hr] at ho
    have e := lsW_row l v hr (k := 1 + c) (by omega)
    rw [← Nat.add_assoc, ← Nat.add_assoc] at e
    rw [e, lsW_hi (i := 1081 + 8 * t + c) v hl (by omega), lsW_hi (i := 1105 + 8 * t + c) v hl (by omega)]
    exact h1 _ (hm r hr) t ht ho c hc
  · rw [lsW_hi (i := 1081 + 8 * t + c) v hl (by omega)] at hlt
    rw [lsW_hi (i := 1105 + 8 * t + c) v hl (by omega)]
    exact h2 t ht c hc hlt
  · rw [lsW_hi (i := 1156 + t) v hl (by omega)]
    exact h3 t ht
theorem rfs_eq (e : ∀ i, 1171 ≤ i → i < 1174 → w2 i = w i) : RFS w2 = RFS w := by
  unfold RFS
  rw [e 1171 (by omega) (by omega), e 1172 (by omega) (by omega), e 1173 (by omega) (by omega)]
theorem rfs_rf (w : Nat → Int32) (ht : t < 3) : RFS (rfW w t) = RFS w + 1 := by
  unfold RFS rfW
  rcases (show t = 0 ∨ t = 1 ∨ t = 2 by omega) with rfl | rfl | rfl
  · rw [show 1171 + 0 = 1171 from rfl, upd_eq, upd_ne (j := 1172) _ (by omega), upd_ne (j := 1173) _ (by omega)]
    ac_rfl
  · rw [show 1171 + 1 = 1172 from rfl, upd_eq, upd_ne (j := 1171) _ (by omega), upd_ne (j := 1173) _ (by omega)]
    ac_rfl
  · rw [show 1171 + 2 = 1173 from rfl, upd_eq, upd_ne (j := 1171) _ (by omega), upd_ne (j := 1172) _ (by omega)]
    ac_rfl
theorem m1_le {a : Nat} (h : a < 2147483648) : (-1 : Int32) ≤ zI a := by
  rw [Int32.le_iff_toInt_le, zI_int h]
  have e : ((-1 : Int32)).toInt = -1 := by decide
  omega
theorem zI_le0 {a : Nat} (h : a < 2147483648) : (0 : Int32) ≤ zI a := Int32.not_lt.mp (zI_nn h)
theorem jv_saved (hJ : JV w n) (hp : ∀ j, j < k → JV (pa j) (nn j)) (hk : k ≤ 6) : ∀ j, j < svK k → JV (svF k pa w j) (svF k nn n j) := by
  intro j hj
  unfold svK at hj
  unfold svF
  by_cases h6 : k = 6
  · rw [if_pos h6] at hj
    rw [if_pos h6, if_pos h6]
    by_cases e : j = 5
    · rw [if_pos e, if_pos e]; exact hJ
    · rw [if_neg e, if_neg e]; exact hp (j + 1) (by omega)
  · rw [if_neg h6] at hj
    rw [if_neg h6, if_neg h6]
    by_cases e : j = k
    · rw [if_pos e, if_pos e]; exact hJ
    · rw [if_neg e, if_neg e]; exact hp j (by omega)
theorem so_val {v : Int32} (hA : AInv w n T k pa nn TT L tx) (hJ : JV w n) (hp : ∀ j, j < k → JV (pa j) (nn j)) (e : F = some (.inl v, m2)) (r1 : PRel m2 w2 n2 (svK k) (svF k pa w) (svF k nn n) L tx) (hW : WI w2 n2 T2) (hj : JV w2 n2) (hr : RFQ w w2 v) (hq : Q v w2 n2) : SOut F Q w n T k pa nn TT L tx :=
  ⟨v, m2, w2, n2, T2, e, ⟨r1, ainv_w hA.saved hW, hj, jv_saved hJ hp hA.2.1⟩, hr, hq⟩
theorem so_refuse (hA : AInv w n T k pa nn TT L tx) (hJ : JV w n) (hp : ∀ j, j < k → JV (pa j) (nn j)) (ht : t < 3) (cc : Int32) (hcc : -cc - 1 < -1 ∧ -30 < -cc - 1) {q : Nat} (h2 : PRel m2 w n (svK k) (svF k pa w) (svF k nn n) L tx) (hq : q = m2.2.1 6)
    (hP : ∀ m3, F_X2_refuse q t cc m2 = some (-cc - 1, m3) → F = some (.inl (-cc - 1), m3)) (hQ : Q (-cc - 1) (rfW w t) n) : SOut F Q w n T k pa nn TT L tx := by
  obtain ⟨m3, f1, f2, f3⟩ := p_refuse h2 (svK_le hA.2.1).1 ht cc
  have hn := hA.1.1
  exact so_val hA hJ hp (hP m3 (by rw [hq]; exact f1)) f2 (ainv_rf hA ht).1 (jv_low hJ (fun i hi => upd_ne _ (by omega) _)) (Or.inl ⟨hcc.1, hcc.2, rfs_rf w ht⟩) hQ
end RA
