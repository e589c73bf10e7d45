/-! an answer by its place -/
section PM
variable {m : Mem} {n T nt : Nat} {w tl ts tn : Nat → Int32}
theorem less_eq (w : Nat → Int32) (c : Int32) (q r : Nat) : (if vl w q c = vl w r c then decide (q < r) else if vl w r c = -100000 then true else if vl w q c = -100000 then false else decide (vl w q c < vl w r c)) = ltB w c r q := by
  have b1 := Int32.toInt_lt (vl w q c)
  have b2 := Int32.toInt_lt (vl w r c)
  unfold ltB ky
  by_cases h1 : vl w q c = vl w r c
  · rw [if_pos h1, h1, decide_eq_false (show ¬ ((if vl w r c = -100000 then (10000000000 : Int) else (vl w r c).toInt) < (if vl w r c = -100000 then (10000000000 : Int) else (vl w r c).toInt)) from Int.lt_irrefl _), decide_eq_true rfl]; rfl
  · rw [if_neg h1]
    by_cases h2 : vl w r c = -100000
    · have h3 : vl w q c ≠ -100000 := fun h => h1 (h.trans h2.symm)
      rw [if_pos h2, if_pos h2, if_neg h3]
      symm
      rw [Bool.or_eq_true, decide_eq_true_eq]
      exact Or.inl (by omega)
    · rw [if_neg h2, if_neg h2]
      by_cases h3 : vl w q c = -100000
      · rw [if_pos h3, if_pos h3, decide_eq_false (by omega), decide_eq_false (by omega)]; rfl
      · rw [if_neg h3, if_neg h3]
        have h4 : (vl w q c).toInt ≠ (vl w r c).toInt := fun h => h1 (Int32.toInt_inj.mp h)
        rw [decide_eq_false h4, Bool.false_and, Bool.or_false]
        exact decide_eq_decide.mpr Int32.lt_iff_toInt_lt
theorem sd_rank {σ : Nat → Nat} {a : Nat} {c : Int32} (h : SD w c σ a) {j : Nat} (hj : j < a) : cn (fun i => ltB w c (σ j) (σ i)) a = j := by
  refine cn_low (by omega) (fun r hr => ltB_iff.mpr (h r j hr hj)) (fun r h1 h2 => ?_)
  cases hb : ltB w c (σ j) (σ r) with
  | false => rfl
  | true =>
    have h3 := ltB_iff.mp hb
    unfold ltK at h3
    by_cases hrj : r = j
    · rw [hrj] at h3; omega
    · have h4 := h j r (by omega) h2
      unfold ltK at h4
      omega
end PM

