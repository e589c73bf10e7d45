/-! one field, one column's cells of a tenant change -/
section QL
variable {m m2 mi x : Mem} {n k L T s t c : Nat} {w w2 tx : Nat → Int32} {pa : Nat → Nat → Int32} {nn TT : Nat → Nat} {v : Int32}
theorem lb2_ne {s t t2 a b : Nat} (h : t2 ≠ t ∨ a ≠ b) : ((2, s, t2, a) : Lb) ≠ (2, s, t, b) := by
  intro e
  injection e with _ e
  injection e with _ e
  injection e with e1 e2
  rcases h with h | h
  · exact h e1
  · exact h e2
theorem lb12_ne {s a b s2 t2 d : Nat} : ((1, s, a, b) : Lb) ≠ (2, s2, t2, d) := by
  intro e
  injection e with e _
  exact absurd e (by decide)
theorem sr_field (h : SR m.1 s w n) (ht : t < 3) {j : Nat} (h3 : 3 ≤ j) (h10 : j < 10) (v : Int32) : SR (wI m (2, s, t, 0) j v).1 s (upd w (1153 + 3 * (j - 3) + t) v) n := by
  obtain ⟨a1, a2, a3, a4, a5, a6, a7, a8⟩ := h
  refine ⟨a1, by rw [upd_ne _ (by omega)]; exact a2, by rw [wI_ne lb12_ne]; exact a3, fun r hr => by rw [wI_ne lb12_ne, upd_ne _ (by omega)]; exact a4 r hr, fun r hr c hc => by rw [wI_ne lb12_ne, upd_ne _ (by omega)]; exact a5 r hr c hc, fun t2 ht2 c hc => ?_, fun t2 ht2 => ?_, fun r hr => by rw [upd_ne _ (by omega)]; exact a8 r hr⟩
  · rw [wI_ne (lb2_ne (Or.inr (by decide))), wI_ne (lb2_ne (Or.inr (by decide))), wI_ne (lb2_ne (Or.inr (by decide))), upd_ne _ (by omega), upd_ne _ (by omega), upd_ne _ (by omega)]
    exact a6 t2 ht2 c hc
  · have old : ∀ i, 3 ≤ i → i < 10 → m.1 (2, s, t2, 0) i = w (1153 + 3 * (i - 3) + t2) := by
      intro i h1 h2
      obtain ⟨b3, b4, b5, b6, b7, b8, b9⟩ := a7 t2 ht2
      rcases (show i = 3 ∨ i = 4 ∨ i = 5 ∨ i = 6 ∨ i = 7 ∨ i = 8 ∨ i = 9 by omega) with rfl | rfl | rfl | rfl | rfl | rfl | rfl
      · exact b3
      · exact b4
      · exact b5
      · exact b6
      · exact b7
      · exact b8
      · exact b9
    have new : ∀ i, 3 ≤ i → i < 10 → (wI m (2, s, t, 0) j v).1 (2, s, t2, 0) i = upd w (1153 + 3 * (j - 3) + t) v (1153 + 3 * (i - 3) + t2) := by
      intro i h1 h2
      by_cases e : t2 = t
      · subst e
        rw [wI_eq]
        by_cases e2 : i = j
        · subst e2; rw [upd_eq, upd_eq]
        · rw [upd_ne _ e2, upd_ne _ (by omega)]; exact old i h1 h2
      · rw [wI_ne (lb2_ne (Or.inl e)), upd_ne _ (by omega)]; exact old i h1 h2
    exact ⟨new 3 (by omega) (by omega), new 4 (by omega) (by omega), new 5 (by omega) (by omega), new 6 (by omega) (by omega), new 7 (by omega) (by omega), new 8 (by omega) (by omega), new 9 (by omega) (by omega)⟩
/- a row's parts that the invariant speaks of, without letters, indexes, limits -/
theorem wi_parts (h : WI w n T) (hu : UL w2) (hl : LR w2) (hx : IX w2) (hlm : LM w2) (e : ∀ i, i < 9 * n ∨ i = 1080 ∨ (1159 ≤ i ∧ i < 1162) → w2 i = w i) : WI w2 n T := by
  obtain ⟨h1, h2, h3, h4, h5, h6, h7, h8, h9, h10, h11, h12, h13⟩ := h
  have hm : ∀ r, r < n → mvd w2 r = mvd w r := by
    intro r hr
    obtain ⟨t, ht, hw⟩ := h3 r hr
    have hw2 : w2 (9 * r) = zI t := by rw [e _ (by omega)]; exact hw
    rw [mvd_of ht hw, mvd_of ht hw2, e _ (by omega)]
  have hc : ∀ r, r < n → cls w2 r = cls w r := by
    intro r hr
    unfold cls
    rw [hm r hr, e _ (by omega)]
  refine ⟨h1, by rw [e _ (by omega)]; exact h2, fun r hr => by rw [e _ (by omega)]; exact h3 r hr, fun r hr c hc => by rw [e _ (by omega)]; exact h4 r hr c hc, hu, hl, fun t ht => by rw [e _ (by omega)]; exact h7 t ht, ?_, hx, hlm, ?_, h12, ?_⟩
  · exact ⟨h8.1, fun r hr => by rw [hm r (Nat.lt_of_lt_of_le hr h8.1)]; exact h8.2.1 r hr, fun r h1 h2 => by rw [hm r h2]; exact h8.2.2 r h1 h2⟩
  · intro t ht
    have e2 : rwsOf w2 n t = rwsOf w n t := by
      unfold rwsOf
      exact sg_congr (fun r hr => by rw [e _ (by omega)])
    rw [e2]
    exact h11 t ht
  · intro r q hrq hq
    rw [hc r (by omega), hc q hq]
    exact h13 r q hrq hq
theorem wi_lm (h : WI w n T) (hlm : LM w2) (e : ∀ i, i < 9 * n ∨ (1080 ≤ i ∧ i < 1105) ∨ (1129 ≤ i ∧ i < 1153) ∨ (1159 ≤ i ∧ i < 1162) → w2 i = w i) : WI w2 n T := by
  obtain ⟨h1, h2, h3, h4, h5, h6, h7, h8, h9, h10, h11, h12, h13⟩ := id h
  refine wi_parts h ?_ (fun t ht c hc => by rw [e _ (by omega)]; exact h6 t ht c hc) (fun t ht c hc => by rw [e _ (by omega)]; exact h9 t ht c hc) hlm (fun i hi => e i (by omega))
  intro t ht c hc c2 hc2
  rw [e (1081 + 8 * t + c) (by omega), e (1081 + 8 * t + c2) (by omega)]
  exact h5 t ht c hc c2 hc2
theorem mrel_1 (h : MRel x w k pa L tx) (i : Nat) (v : Int32) : MRel (wI x (3, 0, 0, 1) i v) (upd w i v) k pa L tx := by
  obtain ⟨g1, g2, g3, g4, g5⟩ := h
  exact ⟨by rw [wI_eq, g1], by rw [wI_ne (by decide)]; exact g2, by rw [wI_ne (by decide)]; exact g3, by rw [wI_ne (by decide)]; exact g4, by rw [wI_ne (by decide)]; exact g5⟩
def rfW (w : Nat → Int32) (t : Nat) : Nat → Int32 := upd w (1171 + t) (w (1171 + t) + 1)
theorem ainv_w (hA : AInv w n T k pa nn TT L tx) {T2 n2 : Nat} (h : WI w2 n2 T2) : AInv w2 n2 T2 k pa nn TT L tx := ⟨h, hA.2⟩
theorem ainv_rf (hA : AInv w n T k pa nn TT L tx) (ht : t < 3) : AInv (rfW w t) n T k pa nn TT L tx := by
  have hn := hA.1.1
  exact ainv_w hA (wi_low hA.1 (fun i hi => upd_ne _ (by omega) _))
theorem p_refuse (h : PRel m w n k pa nn L tx) (hk : k ≤ 6) (ht : t < 3) (cc : Int32) : ∃ m2, F_X2_refuse (m.2.1 6) t cc m = some (-cc - 1, m2) ∧ PRel m2 (rfW w t) n k pa nn L tx ∧ FrP m m2 := by
  have e9 := (h.2.2.2.1.2.2.2.2.2.2.1 t ht).2.2.2.2.2.2
  have hS := sr_field h.2.2.2.1 ht (j := 9) (by omega) (by omega) (w (1171 + t) + 1)
  refine ⟨wI m (2, m.2.1 6, t, 0) 9 (w (1171 + t) + 1), ?_, h.step hk (frt_wI (wr2 _ _ _) m 9 _) hS⟩
  simp (discharger := omega) only [F_X2_refuse, e9, bd_e, bo_e, bm_e, bts_l, bts_r, btm_l, btm_r, bp_lt, ck_ib, ck_z, ck_o, ifT, ifF, n10, n01, pv_v, if_pos, if_neg, zI_nat, zI_add, zI_mul, zI_addl, zI_laddl, zI_mull, zI_lmul, zI_subl, zI_pred, zI_le, zI_lt, zI_eq, zI_lel, zI_lle, zI_ltl, zI_llt, zI_eql, zI_leq, zI_ne1, zI_1ne]
/- behind the saving -/
theorem mok_1 {x2 : Mem} {k2 : Nat} {pa2 : Nat → Nat → Int32} (h : MRel x2 w k2 pa2 L tx) (hF : FrM x x2) (h6 : x2.1 (3, 0, 0, 0) 6 = 0) (i : Nat) (u : Int32) (v : Int32) (n2 : Nat) : MOk x (some (v, wI x2 (3, 0, 0, 1) i u)) v 0 (upd w i u) n2 k2 pa2 L tx :=
  ⟨_, _, rfl, mrel_1 h i u, eqw_rf _ _, frm_tr hF (frm_wI rfl x2 i u), by rw [wI_ne (by decide)]; exact h6⟩
end QL

