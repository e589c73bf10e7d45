/-! index, put, ask -/
section QN
variable {m m2 mi x : Mem} {n k L T s t c r nt : Nat} {w w2 tx tl ts tn : Nat → Int32} {pa : Nat → Nat → Int32} {nn TT : Nat → Nat} {a b v u : Int32}
theorem sr_idx (h : SR m.1 s w n) (ht : t < 3) (hc : c < 8) (v : Int32) : SR (wI m (2, s, t, 3) c v).1 s (upd w (1129 + 8 * t + c) v) n := by
  obtain ⟨a1, a2, a3, a4, a5, a6, a7, a8⟩ := h
  refine ⟨a1, by rw [upd_ne _ (by omega)]; exact a2, by rw [wI_ne lb12_ne]; exact a3, fun r hr => by rw [wI_ne lb12_ne, upd_ne _ (by omega)]; exact a4 r hr, fun r hr c hc => by rw [wI_ne lb12_ne, upd_ne _ (by omega)]; exact a5 r hr c hc, fun t2 ht2 c2 hc2 => ?_, fun t2 ht2 => ?_, fun r hr => by rw [upd_ne _ (by omega)]; exact a8 r hr⟩
  · rw [wI_ne (b := (2, s, t2, 1)) (lb2_ne (Or.inr (by decide))), wI_ne (b := (2, s, t2, 2)) (lb2_ne (Or.inr (by decide))), upd_ne (j := 1081 + 8 * t2 + c2) _ (by omega), upd_ne (j := 1105 + 8 * t2 + c2) _ (by omega)]
    obtain ⟨b1, b2, b3⟩ := a6 t2 ht2 c2 hc2
    refine ⟨b1, ?_, b3⟩
    by_cases e : t2 = t
    · subst e
      rw [wI_eq]
      by_cases e2 : c2 = c
      · subst e2; rw [upd_eq, upd_eq]
      · rw [upd_ne _ e2, upd_ne _ (by omega)]; exact b2
    · rw [wI_ne (lb2_ne (Or.inl e)), upd_ne _ (by omega)]; exact b2
  · rw [wI_ne (lb2_ne (Or.inr (by decide))), upd_ne _ (by omega), upd_ne _ (by omega), upd_ne _ (by omega), upd_ne _ (by omega), upd_ne _ (by omega), upd_ne _ (by omega), upd_ne _ (by omega)]
    exact a7 t2 ht2
def ftK (kd v : Int32) : Int32 := if kd = 0 then (if v < -999 then 0 else if 999 < v then 0 else 1) else if kd = 1 then (if v < 0 then 0 else if 1 < v then 0 else 1) else (if v < 0 then 0 else if 3650 < v then 0 else 1)
theorem p_fits (kd v : Int32) (m : Mem) : F_X3_fits kd v m = some (ftK kd v) := by
  unfold F_X3_fits ftK
  by_cases h0 : kd = 0
  · rw [if_pos h0, if_pos h0]
    by_cases h1 : v < -999
    · rw [if_pos h1, if_pos h1]; rfl
    · rw [if_neg h1, if_neg h1]
      by_cases h2 : 999 < v
      · rw [if_pos h2, if_pos h2]; rfl
      · rw [if_neg h2, if_neg h2]; rfl
  · rw [if_neg h0, if_neg h0]
    by_cases h1 : kd = 1
    · rw [if_pos h1, if_pos h1]
      by_cases h2 : v = 0
      · rw [if_pos h2, h2]; rfl
      · rw [if_neg h2]
        by_cases h3 : v = 1
        · rw [if_pos h3, h3]; rfl
        · rw [if_neg h3]
          by_cases h4 : v < 0
          · rw [if_pos h4]; rfl
          · have h5 : 1 < v := by
              have e := zI_of (Int32.not_lt.mp h4)
              have n0 : v.toNatClampNeg ≠ 0 := fun h => h2 (by rw [e, h]; rfl)
              have n1 : v.toNatClampNeg ≠ 1 := fun h => h3 (by rw [e, h]; rfl)
              rw [e]
              show zI 1 < _
              rw [zI_lt (by omega) (Int32.toNatClampNeg_lt v)]
              omega
            rw [if_neg h4, if_pos h5]; rfl
    · rw [if_neg h1, if_neg h1]
      by_cases h4 : v < 0
      · rw [if_pos h4, if_pos h4]; rfl
      · rw [if_neg h4, if_neg h4]
        by_cases h5 : 3650 < v
        · rw [if_pos h5, if_pos h5]; rfl
        · rw [if_neg h5, if_neg h5]; rfl
theorem ite3 {p q : Prop} [Decidable p] [Decidable q] : (if p then (0 : Int32) else if q then 0 else 1) = 0 ∨ (if p then (0 : Int32) else if q then 0 else 1) = 1 := by
  by_cases h : p
  · rw [if_pos h]; exact Or.inl rfl
  · rw [if_neg h]
    by_cases h2 : q
    · rw [if_pos h2]; exact Or.inl rfl
    · rw [if_neg h2]; exact Or.inr rfl
theorem sr_val (h : SR m.1 s w n) (hr : r < n) (hc : c < 8) {u v : Int32} (hu : v = pv u) : SR (wI m (1, s, 0, 3) (r * 8 + c) v).1 s (upd w (9 * r + 1 + c) u) n := by
  obtain ⟨a1, a2, a3, a4, a5, a6, a7, a8⟩ := h
  have d3 : ∀ k, k ≠ 3 → ((1, s, 0, k) : Lb) ≠ (1, s, 0, 3) := fun k hk e => hk (by injection e with _ e; injection e with _ e; injection e)
  have d2 : ∀ p q, ((2, s, p, q) : Lb) ≠ (1, s, 0, 3) := fun p q e => by injection e with e _; exact absurd e (by decide)
  refine ⟨a1, by rw [upd_ne _ (by omega)]; exact a2, by rw [wI_ne (d3 0 (by decide))]; exact a3, fun q hq => by rw [wI_ne (d3 2 (by decide)), upd_ne _ (by omega)]; exact a4 q hq, fun q hq c2 hc2 => ?_, fun t2 ht2 c2 hc2 => ?_, fun t2 ht2 => ?_, fun q hq => by rw [upd_ne _ (by omega)]; exact a8 q hq⟩
  · rw [wI_eq]
    by_cases e : q = r ∧ c2 = c
    · obtain ⟨rfl, rfl⟩ := e
      rw [upd_eq, upd_eq]; exact hu
    · rw [upd_ne _ (by omega), upd_ne _ (by omega)]; exact a5 q hq c2 hc2
  · rw [wI_ne (d2 _ _), wI_ne (d2 _ _), wI_ne (d2 _ _), upd_ne _ (by omega), upd_ne _ (by omega), upd_ne _ (by omega)]
    exact a6 t2 ht2 c2 hc2
  · rw [wI_ne (d2 _ _), upd_ne _ (by omega), upd_ne _ (by omega), upd_ne _ (by omega), upd_ne _ (by omega), upd_ne _ (by omega), upd_ne _ (by omega), upd_ne _ (by omega)]
    exact a7 t2 ht2
theorem wi_vs (h : WI w n T) (h0 : ∀ r, r < n → w2 (9 * r) = w (9 * r)) (e : ∀ i, 1080 ≤ i → i < 1174 → w2 i = w i) (hv : VS w2 n) : WI w2 n T := by
  obtain ⟨h1, h2, h3, h4, h5, h6, h7, h8, h9, h10, h11, h12, h13⟩ := h
  have hm : ∀ r, r < n → mvd w2 r = mvd w r := by
    intro r hr
    obtain ⟨t, ht, hw⟩ := h3 r hr
    have hw2 : w2 (9 * r) = zI t := by rw [h0 r hr]; exact hw
    rw [mvd_of ht hw, mvd_of ht hw2, e _ (by omega) (by omega)]
  have hc : ∀ r, r < n → cls w2 r = cls w r := by
    intro r hr
    unfold cls
    rw [hm r hr, h0 r hr]
  refine ⟨h1, by rw [e _ (by omega) (by omega)]; exact h2, fun r hr => by rw [h0 r hr]; exact h3 r hr, hv, ?_, fun t ht c hc => by rw [e _ (by omega) (by omega)]; exact h6 t ht c hc, fun t ht => by rw [e _ (by omega) (by omega)]; exact h7 t ht, ?_, fun t ht c hc => by rw [e _ (by omega) (by omega)]; exact h9 t ht c hc, fun t ht => by rw [e _ (by omega) (by omega)]; exact h10 t ht, ?_, h12, ?_⟩
  · intro t ht c hc c2 hc2
    rw [e (1081 + 8 * t + c) (by omega) (by omega), e (1081 + 8 * t + c2) (by omega) (by omega)]
    exact h5 t ht c hc c2 hc2
  · exact ⟨h8.1, fun r hr => by rw [hm r (Nat.lt_of_lt_of_le hr h8.1)]; exact h8.2.1 r hr, fun r h1 h2 => by rw [hm r h2]; exact h8.2.2 r h1 h2⟩
  · intro t ht
    have e2 : rwsOf w2 n t = rwsOf w n t := by
      unfold rwsOf
      exact sg_congr (fun r hr => by rw [h0 r hr])
    rw [e2]
    exact h11 t ht
  · intro r q hrq hq
    rw [hc r (by omega), hc q hq]
    exact h13 r q hrq hq
theorem p_setV (h : SR m.1 s w n) (hr : r < n) (hc : c < 8) (v : Int32) : F_X1_setValue s (zI r) (zI c) v m = some ((), wI m (1, s, 0, 3) (r * 8 + c) v) := by
  obtain ⟨a1, a2, a3, a4, a5, a6, a7, a8⟩ := h
  simp (discharger := omega) only [F_X1_setValue, J_X1_setValue_34, a3, bd_e, bo_e, bm_e, bts_l, bts_r, btm_l, btm_r, bp_lt, ck_ib, ck_z, ck_o, ifT, ifF, n10, n01, pv_v, if_pos, if_neg, zI_nat, zI_add, zI_mul, zI_addl, zI_laddl, zI_mull, zI_lmul, zI_subl, zI_pred, zI_le, zI_lt, zI_eq, zI_lel, zI_lle, zI_ltl, zI_llt, zI_eql, zI_leq, zI_ne1, zI_1ne]
end QN

