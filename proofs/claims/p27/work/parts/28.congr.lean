/-! only the first 1174 places count -/
section PQ
variable {f : Lb → Nat → Int32} {s n T : Nat} {w w2 : Nat → Int32}
theorem sr_congr (h : SR f s w n) (e : ∀ i, i < 1174 → w2 i = w i) : SR f s w2 n := by
  obtain ⟨h1, h2, h3, h4, h5, h6, h7, h8⟩ := h
  refine ⟨h1, by rw [e _ (by omega)]; exact h2, h3, fun r hr => by rw [e _ (by omega)]; exact h4 r hr, fun r hr c hc => by rw [e _ (by omega)]; exact h5 r hr c hc, fun t ht c hc => ?_, fun t ht => ?_, fun r hr => by rw [e _ (by omega)]; exact h8 r hr⟩
  · rw [e (1081 + 8 * t + c) (by omega), e (1129 + 8 * t + c) (by omega), e (1105 + 8 * t + c) (by omega)]
    exact h6 t ht c hc
  · rw [e (1153 + t) (by omega), e (1156 + t) (by omega), e (1159 + t) (by omega), e (1162 + t) (by omega), e (1165 + t) (by omega), e (1168 + t) (by omega), e (1171 + t) (by omega)]
    exact h7 t ht
theorem wi_congr (h : WI w n T) (e : ∀ i, i < 1174 → w2 i = w i) : WI w2 n T := by
  obtain ⟨h1, h2, h3, h4, h5, h6, h7, h8, h9, h10, h11, h12, h13⟩ := h
  have hm : ∀ r, r < n → mvd w2 r = mvd w r := by
    intro r hr
    obtain ⟨t, ht, hw⟩ := h3 r hr
    have hw2 : w2 (9 * r) = zI t := by rw [e _ (by omega)]; exact hw
    rw [mvd_of ht hw, mvd_of ht hw2, e _ (by omega)]
  have hc : ∀ r, r < n → cls w2 r = cls w r := by
    intro r hr
    unfold cls
    rw [hm r hr, e _ (by omega)]
  refine ⟨h1, by rw [e _ (by omega)]; exact h2, fun r hr => by rw [e _ (by omega)]; exact h3 r hr, fun r hr c hc => by rw [e _ (by omega)]; exact h4 r hr c hc, ?_, fun t ht c hc => by rw [e _ (by omega)]; exact h6 t ht c hc, fun t ht => by rw [e _ (by omega)]; exact h7 t ht, ?_, fun t ht c hc => by rw [e _ (by omega)]; exact h9 t ht c hc, fun t ht => by rw [e _ (by omega)]; exact h10 t ht, ?_, h12, ?_⟩
  · intro t ht c hc c2 hc2
    rw [e (1081 + 8 * t + c) (by omega), e (1081 + 8 * t + c2) (by omega)]
    exact h5 t ht c hc c2 hc2
  · exact ⟨h8.1, fun r hr => by rw [hm r (Nat.lt_of_lt_of_le hr h8.1)]; exact h8.2.1 r hr, fun r h1 h2 => by rw [hm r h2]; exact h8.2.2 r h1 h2⟩
  · intro t ht
    have e2 : rwsOf w2 n t = rwsOf w n t := by
      unfold rwsOf
      exact sg_congr (fun r hr => by rw [e _ (by omega)])
    rw [e2]
    exact h11 t ht
  · intro r q hrq hq
    rw [hc r (by omega), hc q hq]
    exact h13 r q hrq hq
end PQ

