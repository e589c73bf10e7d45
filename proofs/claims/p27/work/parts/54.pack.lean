/-! pack -/
section QX
variable {m m1 m2 mi x : Mem} {n n0 k L T s q t r p c d : Nat} {w w1 w2 v tx : Nat → Int32} {pa : Nat → Nat → Int32} {nn TT : Nat → Nat}
/- what column c means goes to column d -/
def clW (w : Nat → Int32) (t c d : Nat) : Nat → Int32 := upd (upd (upd (upd (upd w (1081 + 8 * t + c) (-1)) (1081 + 8 * t + d) (w (1081 + 8 * t + c))) (1105 + 8 * t + d) (w (1105 + 8 * t + c))) (1129 + 8 * t + c) 0) (1129 + 8 * t + d) (w (1129 + 8 * t + c))
def mvW (w : Nat → Int32) (n t c d : Nat) : Nat → Int32 := shW (clW w t c d) n t (c + 1) (d + 1)
theorem clW_f (ht : t < 3) (hc : c < 8) (hd : d < c) : clW w t c d (1081 + 8 * t + d) = w (1081 + 8 * t + c) ∧ clW w t c d (1105 + 8 * t + d) = w (1105 + 8 * t + c) ∧ clW w t c d (1129 + 8 * t + d) = w (1129 + 8 * t + c) ∧ clW w t c d (1081 + 8 * t + c) = -1 ∧ clW w t c d (1129 + 8 * t + c) = 0 ∧ ∀ i, i ≠ 1081 + 8 * t + d → i ≠ 1105 + 8 * t + d → i ≠ 1129 + 8 * t + d → i ≠ 1081 + 8 * t + c → i ≠ 1129 + 8 * t + c → clW w t c d i = w i := by
  unfold clW
  refine ⟨?_, ?_, ?_, ?_, ?_, fun i h1 h2 h3 h4 h5 => ?_⟩
  · rw [upd_ne _ (by omega), upd_ne _ (by omega), upd_ne _ (by omega), upd_eq]
  · rw [upd_ne _ (by omega), upd_ne _ (by omega), upd_eq]
  · rw [upd_eq]
  · rw [upd_ne _ (by omega), upd_ne _ (by omega), upd_ne _ (by omega), upd_ne _ (by omega), upd_eq]
  · rw [upd_ne _ (by omega), upd_eq]
  · rw [upd_ne _ h3, upd_ne _ h5, upd_ne _ h2, upd_ne _ h1, upd_ne _ h4]
theorem wi_cl (h : WI w n T) (ht : t < 3) (hc : c < 8) (hd : d < c) (hl : w (1081 + 8 * t + c) ≠ -1) : WI (clW w t c d) n T := by
  obtain ⟨f1, f2, f3, f4, f5, f6⟩ := clW_f (w := w) ht hc hd
  obtain ⟨i1, i2, i3, i4, i5, i6, i7, i8, i9, -⟩ := id h
  have h1 : WI (upd (upd w (1081 + 8 * t + c) (-1)) (1129 + 8 * t + c) 0) n T := wi_cell h ht hc (Or.inl (by rw [upd_ne _ (by omega), upd_eq])) (Or.inl (by rw [upd_eq])) (fun i a _ b => by rw [upd_ne _ b, upd_ne _ a])
  refine wi_cell h1 ht (show d < 8 by omega) (Or.inr ⟨?_, fun c2 h2 h3 => ?_⟩) (by rw [f3]; exact i9 t ht c hc) (fun i a b e => ?_)
  · rw [f1]
    rcases i6 t ht c hc with h | h
    · exact absurd h hl
    · exact h
  · rw [f1, upd_ne _ (by omega)]
    by_cases e : c2 = c
    · rw [e, upd_eq]; exact fun h => hl h.symm
    · rw [upd_ne _ (by omega)]
      intro h4
      exact e (i5 t ht c2 h2 c hc h4 (by rw [h4]; exact hl))
  · by_cases e1 : i = 1081 + 8 * t + c
    · rw [e1, f4, upd_ne _ (by omega), upd_eq]
    · by_cases e2 : i = 1129 + 8 * t + c
      · rw [e2, f5, upd_eq]
      · rw [f6 i a b e e1 e2, upd_ne _ e2, upd_ne _ e1]
theorem wi_mv (h : WI w n T) (ht : t < 3) (hc : c < 8) (hd : d < c) (hl : w (1081 + 8 * t + c) ≠ -1) : WI (mvW w n t c d) n T := wi_shift (wi_cl h ht hc hd hl) hc (Or.inr (by omega))
/- the class moves a column -/
theorem p_mv (h : SR m.1 s w n) (hi : IX w) (ht : t < 3) (hc : c < 8) (hd : d < c) (hl : w (1081 + 8 * t + c) ≠ -1) : ∃ m3, F_X1_shiftValues s (zI t) (zI c) (zI d) (defM (defM m s t d (w (1081 + 8 * t + c)) (w (1105 + 8 * t + c)) (w (1129 + 8 * t + c))) s t c (-1) 0 0) = some ((), m3) ∧ FrT s m m3 ∧ SR m3.1 s (mvW w n t c d) n := by
  obtain ⟨f1, f2, f3, f4, f5, f6⟩ := clW_f (w := w) ht hc hd
  obtain ⟨wa, hwa⟩ : ∃ wa, wa = upd (upd (upd w (1081 + 8 * t + d) (w (1081 + 8 * t + c))) (1105 + 8 * t + d) (w (1105 + 8 * t + c))) (1129 + 8 * t + d) (w (1129 + 8 * t + c)) := ⟨_, rfl⟩
  have SA : SR (defM m s t d (w (1081 + 8 * t + c)) (w (1105 + 8 * t + c)) (w (1129 + 8 * t + c))).1 s wa n := sr_def h ht (show d < 8 by omega) (by rw [hwa, upd_ne _ (by omega), upd_ne _ (by omega), upd_eq]) (by rw [hwa, upd_eq]) (fun _ => by rw [hwa, upd_ne _ (by omega), upd_eq]) (fun i a b e => by rw [hwa, upd_ne _ e, upd_ne _ b, upd_ne _ a])
  have SB : SR (defM (defM m s t d (w (1081 + 8 * t + c)) (w (1105 + 8 * t + c)) (w (1129 + 8 * t + c))) s t c (-1) 0 0).1 s (clW w t c d) n := sr_def SA ht hc f4 f5 (fun h => absurd rfl h) (fun i a b e => by
    rw [hwa]
    by_cases e1 : i = 1081 + 8 * t + d
    · rw [e1, f1, upd_ne _ (by omega), upd_ne _ (by omega), upd_eq]
    · by_cases e2 : i = 1105 + 8 * t + d
      · rw [e2, f2, upd_ne _ (by omega), upd_eq]
      · by_cases e3 : i = 1129 + 8 * t + d
        · rw [e3, f3, upd_eq]
        · rw [f6 i e1 e2 e3 a e, upd_ne _ e3, upd_ne _ e2, upd_ne _ e1])
  obtain ⟨m3, o1, o2, o3⟩ := p_shift (to := zI d) (tk := d + 1) SB ht hc (Or.inr ⟨d, by omega, by omega, rfl, rfl⟩)
  exact ⟨m3, o1, ((frt_def m s t d _ _ _).tr (frt_def _ s t c _ _ _)).tr o2, o3⟩
/- the reference moves a column -/
/- packing, a column a step: where it goes next, how many went, the array -/
def pkS (n t : Nat) (c : Nat) (a : Nat × Nat × (Nat → Int32)) : Nat × Nat × (Nat → Int32) := if a.2.2 (1081 + 8 * t + c) = -1 then a else if c ≤ a.1 then (a.1 + 1, a.2.1, a.2.2) else (a.1 + 1, a.2.1 + 1, mvW a.2.2 n t c a.1)
def pkF (w : Nat → Int32) (n t c : Nat) : Nat × Nat × (Nat → Int32) := fo (pkS n t) c (0, 0, w)
theorem pk_inv (h : WI w n T) (ht : t < 3) : ∀ c, c ≤ 8 → WI (pkF w n t c).2.2 n T ∧ (pkF w n t c).1 ≤ c ∧ (pkF w n t c).2.1 ≤ c := by
  intro c
  induction c with
  | zero => exact fun _ => ⟨h, Nat.le_refl 0, Nat.le_refl 0⟩
  | succ c ih =>
    intro hc
    obtain ⟨h1, h2, h3⟩ := ih (by omega)
    show WI (pkS n t c (pkF w n t c)).2.2 n T ∧ (pkS n t c (pkF w n t c)).1 ≤ c + 1 ∧ (pkS n t c (pkF w n t c)).2.1 ≤ c + 1
    unfold pkS
    by_cases e : (pkF w n t c).2.2 (1081 + 8 * t + c) = -1
    · rw [if_pos e]; exact ⟨h1, by omega, by omega⟩
    · rw [if_neg e]
      by_cases e2 : c ≤ (pkF w n t c).1
      · rw [if_pos e2]; exact ⟨h1, by show (pkF w n t c).1 + 1 ≤ c + 1; omega, by show (pkF w n t c).2.1 ≤ c + 1; omega⟩
      · rw [if_neg e2]
        exact ⟨wi_mv h1 ht (by omega) (by omega) e, by show (pkF w n t c).1 + 1 ≤ c + 1; omega, by show (pkF w n t c).2.1 + 1 ≤ c + 1; omega⟩
end QX

