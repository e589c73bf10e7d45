/-! the two sides of a call, together *-/
def St (m : Mem) : Prop := ∃ w n T k pa nn TT L tx, PRel m w n k pa nn L tx ∧ MRel m w k pa L tx ∧ AInv w n T k pa nn TT L tx
def CallOK (FL : Option (Int32 × Mem)) (G : Mem → Option (Int32 × Mem)) : Prop := ∃ v13 m14 v21 m22, FL = some (v13, m14) ∧ G m14 = some (v21, m22) ∧ m22.1 (3, 0, 0, 0) 6 = v13 ∧ (v13 = 0 → m22.2.2 = Int32.toInt64 v21) ∧ St m22
/-- what the reference's side of a call gives -/
def MOk (m' : Mem) (o : Option (Int32 × Mem)) (v code : Int32) (w1 : Nat → Int32) (n1 k1 : Nat) (pa1 : Nat → Nat → Int32) (L1 : Nat) (tx1 : Nat → Int32) : Prop := ∃ m2 w2, o = some (v, m2) ∧ MRel m2 w2 k1 pa1 L1 tx1 ∧ EQW n1 w2 w1 ∧ FrM m' m2 ∧ m2.1 (3, 0, 0, 0) 6 = code
section QI
variable {m m1 : Mem} {n n1 k k1 L L1 T T1 : Nat} {w w1 tx tx1 : Nat → Int32} {pa pa1 : Nat → Nat → Int32} {nn nn1 TT TT1 : Nat → Nat} {v code : Int32} {c : Nat} {F : Option ((Int32 ⊕ Nat) × Mem)} {G : Mem → Option (Int32 × Mem)} {f : Nat → Option Int32}
theorem mrel_frp (h : MRel m w k pa L tx) (hF : FrP m m1) : MRel m1 w k pa L tx := by
  obtain ⟨g1, g2, g3, g4, g5⟩ := h
  refine ⟨by rw [hF.1 _ (Or.inl rfl)]; exact g1, by rw [hF.1 _ (Or.inl rfl)]; exact g2, by rw [hF.1 _ (Or.inl rfl)]; exact g3, by rw [hF.1 _ (Or.inl rfl)]; exact g4, by rw [hF.1 _ (Or.inl rfl)]; exact g5⟩
theorem mrel_wO (h : MRel m w k pa L tx) (u : Int64) : MRel (wO m u) w k pa L tx := h
theorem prel_wO (h : PRel m w n k pa nn L tx) (u : Int64) : PRel (wO m u) w n k pa nn L tx := h
theorem prel_frm (h : PRel m w n k pa nn L tx) (hF : FrM m m1) : PRel m1 w n k pa nn L tx := by
  obtain ⟨g1, g2, g3, g4, g5, g6, g7⟩ := h
  have e3 : ∀ lb : Lb, lb.1 = 1 ∨ lb.1 = 2 → m1.1 lb = m.1 lb := fun lb hl => hF.1 lb (by omega)
  exact ⟨by rw [hF.2]; exact g1, by rw [hF.2]; exact g2, by rw [hF.1 _ (by decide)]; exact g3, by rw [hF.2]; exact g4.frame e3, fun j hj => by rw [hF.2]; exact (g5 j hj).frame e3, by rw [hF.1 _ (by decide)]; exact g6, fun i hi => by rw [hF.1 _ (by decide)]; exact g7 i hi⟩
theorem st_mk {m2 : Mem} {w2 : Nat → Int32} (hP : PRel m1 w1 n1 k1 pa1 nn1 L1 tx1) (hA : AInv w1 n1 T1 k1 pa1 nn1 TT1 L1 tx1) (hM : MRel m2 w2 k1 pa1 L1 tx1) (e : EQW n1 w2 w1) (hF : FrM m1 m2) : St m2 :=
  ⟨w2, n1, T1, k1, pa1, nn1, TT1, L1, tx1, prel_eqw (prel_frm hP hF) e, hM, ⟨wi_eqw hA.1 e, hA.2⟩⟩
end QI

