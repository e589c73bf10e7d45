/-! the start -/
theorem sr_00 : SR f00 0 nowf 0 := by
  have z1 : nowf 1080 = zI 0 := by decide +kernel
  have h6 : ∀ t : Fin 3, ∀ c : Fin 8, nowf (1081 + 8 * t.1 + c.1) = -1 ∧ nowf (1129 + 8 * t.1 + c.1) = 0 ∧ m1f c.1 = -1 := by decide +kernel
  have h7 : ∀ t : Fin 3, nowf (1153 + t.1) = 20 ∧ nowf (1156 + t.1) = 5 ∧ nowf (1159 + t.1) = 0 ∧ nowf (1162 + t.1) = 0 ∧ nowf (1165 + t.1) = 0 ∧ nowf (1168 + t.1) = 0 ∧ nowf (1171 + t.1) = 0 := by decide +kernel
  refine ⟨Nat.zero_le _, z1, rfl, fun r hr => absurd hr (Nat.not_lt_zero r), fun r hr => absurd hr (Nat.not_lt_zero r), fun t ht c hc => ?_, fun t ht => ?_, fun r hr => absurd hr (Nat.not_lt_zero r)⟩
  · obtain ⟨a1, a2, a3⟩ := h6 ⟨t, ht⟩ ⟨c, hc⟩
    exact ⟨a3.trans a1.symm, a2.symm, fun h => absurd a1 h⟩
  · obtain ⟨a1, a2, a3, a4, a5, a6, a7⟩ := h7 ⟨t, ht⟩
    exact ⟨a1.symm, a2.symm, a3.symm, a4.symm, a5.symm, a6.symm, a7.symm⟩
theorem wi_00 : WI nowf 0 0 := by
  have z1 : nowf 1080 = zI 0 := by decide +kernel
  have h6 : ∀ t : Fin 3, ∀ c : Fin 8, nowf (1081 + 8 * t.1 + c.1) = -1 ∧ nowf (1129 + 8 * t.1 + c.1) = 0 := by decide +kernel
  have h7 : ∀ t : Fin 3, nowf (1153 + t.1) = 20 ∧ nowf (1159 + t.1) = 0 := by decide +kernel
  refine ⟨Nat.zero_le _, z1, fun r hr => absurd hr (Nat.not_lt_zero r), fun r hr => absurd hr (Nat.not_lt_zero r), fun t ht c hc c2 hc2 h1 h2 => absurd (h6 ⟨t, ht⟩ ⟨c, hc⟩).1 h2, fun t ht c hc => Or.inl (h6 ⟨t, ht⟩ ⟨c, hc⟩).1, fun t ht => Or.inl (h7 ⟨t, ht⟩).2, ⟨Nat.le_refl 0, fun r hr => absurd hr (Nat.not_lt_zero r), fun r _ hr => absurd hr (Nat.not_lt_zero r)⟩, fun t ht c hc => Or.inl (h6 ⟨t, ht⟩ ⟨c, hc⟩).2, fun t ht => ⟨20, by omega, (h7 ⟨t, ht⟩).1⟩, fun t ht => ⟨0, by omega, rfl⟩, Nat.zero_le _, fun r q _ hq => absurd hq (Nat.not_lt_zero q)⟩
theorem jv_00 : JV nowf 0 := by
  have h6 : ∀ t : Fin 3, ∀ c : Fin 8, nowf (1081 + 8 * t.1 + c.1) = -1 := by decide +kernel
  have h7 : ∀ t : Fin 3, nowf (1156 + t.1) = 5 := by decide +kernel
  exact ⟨fun r hr => absurd hr (Nat.not_lt_zero r), fun t ht c hc hl => absurd (h6 ⟨t, ht⟩ ⟨c, hc⟩) hl, fun t ht => ⟨5, by omega, h7 ⟨t, ht⟩⟩⟩
theorem good_00 : Good m00 := by
  have p0 : ∀ j, q00 j = if j = 6 then 0 else j + 1 := fun _ => rfl
  refine ⟨nowf, 0, 0, 0, fun _ _ => 0, fun _ => 0, fun _ => 0, fun _ => 0, ⟨fun j hj => ?_, fun i j hi hj he => ?_, rfl, sr_00, fun j hj => absurd hj (Nat.not_lt_zero j), rfl, fun i hi => absurd hi (Nat.not_lt_zero i)⟩, ⟨wi_00, Nat.zero_le _, fun j hj => absurd hj (Nat.not_lt_zero j), Nat.zero_le _, fun i hi => absurd hi (Nat.not_lt_zero i)⟩, jv_00, fun j hj => absurd hj (Nat.not_lt_zero j)⟩
  · show q00 j < 7
    rw [p0]
    by_cases e : j = 6
    · rw [if_pos e]; omega
    · rw [if_neg e]; omega
  · have he2 : q00 i = q00 j := he
    rw [p0, p0] at he2
    by_cases e : i = 6
    · rw [if_pos e] at he2
      by_cases e2 : j = 6
      · omega
      · rw [if_neg e2] at he2; omega
    · rw [if_neg e] at he2
      by_cases e2 : j = 6
      · rw [if_pos e2] at he2; omega
      · rw [if_neg e2] at he2; omega
