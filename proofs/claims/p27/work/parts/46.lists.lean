/-! rows taken by a list of numbers -/
def lsW (l : List Nat) (v : Nat → Int32) : Nat → Int32 := fun i => if i < 9 * l.length then v (9 * gt0 l (i / 9) + i % 9) else if i = 1080 then zI l.length else v i
theorem lsW_row (l : List Nat) (v : Nat → Int32) {i k : Nat} (hi : i < l.length) (hk : k < 9) : lsW l v (9 * i + k) = v (9 * gt0 l i + k) := by
  unfold lsW
  rw [if_pos (by omega), show (9 * i + k) / 9 = i by omega, show (9 * i + k) % 9 = k by omega]
theorem lsW_row0 (l : List Nat) (v : Nat → Int32) {i : Nat} (hi : i < l.length) : lsW l v (9 * i) = v (9 * gt0 l i) := lsW_row l v (k := 0) hi (by omega)
theorem lsW_hi {l : List Nat} (v : Nat → Int32) (hl : l.length ≤ 120) {i : Nat} (hi : 1080 < i) : lsW l v i = v i := by
  unfold lsW
  rw [if_neg (by omega), if_neg (by omega)]
theorem lsW_n {l : List Nat} (v : Nat → Int32) (hl : l.length ≤ 120) : lsW l v 1080 = zI l.length := by
  unfold lsW
  rw [if_neg (by omega), if_pos rfl]
theorem cn_front (p : Nat → Bool) (n : Nat) : cn p (n + 1) = (if p 0 = true then 1 else 0) + cn (fun j => p (j + 1)) n := by
  induction n with
  | zero => exact Nat.add_comm 0 _
  | succ n ih =>
    show cn p (n + 1) + (if p (n + 1) = true then 1 else 0) = _ + (cn (fun j => p (j + 1)) n + (if p (n + 1) = true then 1 else 0))
    rw [ih]; omega
theorem cl_eq (P : Nat → Bool) (l : List Nat) : cn (fun j => P (gt0 l j)) l.length = l.countP P := by
  induction l with
  | nil => rfl
  | cons a l ih =>
    rw [List.length_cons, cn_front, List.countP_cons, ← ih, Nat.add_comm]
    rfl
theorem cn_range (P : Nat → Bool) (n : Nat) : (List.range n).countP P = cn P n := by
  induction n with
  | zero => rfl
  | succ n ih =>
    rw [List.range_succ, List.countP_append, ih, List.countP_cons, List.countP_nil]
    show cn P n + (0 + _) = cn P n + _
    rw [Nat.zero_add]
theorem gt0_range {n i : Nat} (h : i < n) : gt0 (List.range n) i = i := by
  unfold gt0
  rw [List.getD_eq_getElem?_getD, List.getElem?_eq_getElem (by rw [List.length_range]; exact h), List.getElem_range]
  rfl
theorem gt0_app {l l2 : List Nat} {i : Nat} : gt0 (l ++ l2) i = if i < l.length then gt0 l i else gt0 l2 (i - l.length) := by
  unfold gt0
  rw [List.getD_eq_getElem?_getD, List.getD_eq_getElem?_getD, List.getD_eq_getElem?_getD]
  by_cases h : i < l.length
  · rw [if_pos h, List.getElem?_append_left h]
  · rw [if_neg h, List.getElem?_append_right (by omega)]
section QP1
variable {m m1 m2 mi x : Mem} {n n0 k L T s t : Nat} {w w2 v tx : Nat → Int32} {l : List Nat}
/- a state whose rows were taken by a list -/
theorem sr_list (h : SR m1.1 s v n0) (hl : l.length ≤ 120) (hm : ∀ i, i < l.length → gt0 l i < n0) (h3 : m2.1 (1, s, 0, 0) 3 = zI l.length) (ho : ∀ i, i < l.length → m2.1 (1, s, 0, 2) i = v (9 * gt0 l i)) (hv : ∀ i, i < l.length → ∀ c, c < 8 → m2.1 (1, s, 0, 3) (i * 8 + c) = pv (v (9 * gt0 l i + 1 + c))) (ht : ∀ a b, m2.1 (2, s, a, b) = m1.1 (2, s, a, b)) : SR m2.1 s (lsW l v) l.length := by
  obtain ⟨a1, a2, a3, a4, a5, a6, a7, a8⟩ := h
  refine ⟨hl, lsW_n v hl, h3, fun r hr => by rw [lsW_row0 l v hr]; exact ho r hr, fun r hr c hc => by rw [show 9 * r + 1 + c = 9 * r + (1 + c) by omega, lsW_row l v hr (by omega), ← Nat.add_assoc]; exact hv r hr c hc, fun t ht2 c hc => ?_, fun t ht2 => ?_, fun r hr => by rw [lsW_row0 l v hr]; exact a8 _ (hm r hr)⟩
  · rw [ht, ht, ht, lsW_hi v hl (by omega), lsW_hi v hl (by omega), lsW_hi v hl (by omega)]
    exact a6 t ht2 c hc
  · rw [ht, lsW_hi v hl (by omega), lsW_hi v hl (by omega), lsW_hi v hl (by omega), lsW_hi v hl (by omega), lsW_hi v hl (by omega), lsW_hi v hl (by omega), lsW_hi v hl (by omega)]
    exact a7 t ht2
theorem cls_0 (w : Nat → Int32) (r : Nat) : cls w r = 0 ↔ mvd w r = 0 := by
  unfold cls
  by_cases h : mvd w r = 0
  · rw [if_pos h]; exact ⟨fun _ => h, fun _ => rfl⟩
  · rw [if_neg h]; exact ⟨fun h2 => absurd h2 (by omega), fun h2 => absurd h2 h⟩
theorem cn_anti {p : Nat → Bool} {n : Nat} (h : ∀ i j, i < j → j < n → p j = true → p i = true) : (∀ r, r < cn p n → p r = true) ∧ ∀ r, cn p n ≤ r → r < n → p r = false := by
  have : ∃ T, T ≤ n ∧ (∀ r, r < T → p r = true) ∧ ∀ r, T ≤ r → r < n → p r = false := by
    induction n with
    | zero => exact ⟨0, Nat.le_refl 0, fun r hr => absurd hr (Nat.not_lt_zero r), fun r _ hr => absurd hr (Nat.not_lt_zero r)⟩
    | succ n ih =>
      obtain ⟨T, h1, h2, h3⟩ := ih (fun i j hij hj => h i j hij (by omega))
      cases hp : p n with
      | true =>
        have hT : T = n := by
          rcases Nat.lt_or_ge T n with h4 | h4
          · have := h3 T (Nat.le_refl T) h4
            rw [h T n h4 (Nat.lt_succ_self n) hp] at this
            cases this
          · omega
        subst hT
        refine ⟨T + 1, Nat.le_refl _, fun r hr => ?_, fun r h4 h5 => by omega⟩
        by_cases e : r = T
        · rw [e]; exact hp
        · exact h2 r (by omega)
      | false =>
        refine ⟨T, by omega, h2, fun r h4 h5 => ?_⟩
        by_cases e : r = n
        · rw [e]; exact hp
        · exact h3 r h4 (by omega)
  obtain ⟨T, h1, h2, h3⟩ := this
  have e := cn_low h1 h2 h3
  rw [e]
  exact ⟨h2, h3⟩
theorem wi_list (ho : OW v n0) (hvs : VS v n0) (hu : UL v) (hlr : LR v) (hmv : MV v) (hix : IX v) (hlm : LM v) (hl : l.length ≤ 120) (hm : ∀ i, i < l.length → gt0 l i < n0) (hso : ∀ i j, i < j → j < l.length → cls v (gt0 l i) ≤ cls v (gt0 l j)) (hrt : ∀ t, t < 3 → l.countP (fun r => decide (v (9 * r) = zI t)) ≤ 40) (hT : l.countP (fun r => decide (mvd v r = 0)) ≤ 40) : ∃ T, WI (lsW l v) l.length T := by
  have hmd : ∀ r, r < l.length → mvd (lsW l v) r = mvd v (gt0 l r) := by
    intro r hr
    obtain ⟨t, ht, hw⟩ := ho _ (hm r hr)
    have hw2 : lsW l v (9 * r) = zI t := by rw [lsW_row0 l v hr]; exact hw
    rw [mvd_of ht hw, mvd_of ht hw2, lsW_hi v hl (by omega)]
  have hcl : ∀ r, r < l.length → cls (lsW l v) r = cls v (gt0 l r) := by
    intro r hr
    unfold cls
    rw [hmd r hr, lsW_row0 l v hr]
  have anti : ∀ i j, i < j → j < l.length → decide (mvd v (gt0 l j) = 0) = true → decide (mvd v (gt0 l i) = 0) = true := by
    intro i j hij hj h
    rw [decide_eq_true_eq] at h ⊢
    have h1 := hso i j hij hj
    rw [(cls_0 v _).mpr h] at h1
    exact (cls_0 v _).mp (by omega)
  obtain ⟨b1, b2⟩ := cn_anti (p := fun i => decide (mvd v (gt0 l i) = 0)) anti
  refine ⟨cn (fun i => decide (mvd v (gt0 l i) = 0)) l.length, hl, lsW_n v hl, fun r hr => ?_, fun r hr c hc => ?_, ?_, fun t ht c hc => by rw [lsW_hi v hl (by omega)]; exact hlr t ht c hc, fun t ht => by rw [lsW_hi v hl (by omega)]; exact hmv t ht, ⟨cn_le _ _, fun r hr => ?_, fun r h1 h2 => ?_⟩, fun t ht c hc => by rw [lsW_hi v hl (by omega)]; exact hix t ht c hc, fun t ht => by rw [lsW_hi v hl (by omega)]; exact hlm t ht, fun t ht => ?_, ?_, fun r q h1 h2 => by rw [hcl r (by omega), hcl q h2]; exact hso r q h1 h2⟩
  · rw [lsW_row0 l v hr]; exact ho _ (hm r hr)
  · rw [show 9 * r + 1 + c = 9 * r + (1 + c) by omega, lsW_row l v hr (by omega), ← Nat.add_assoc]; exact hvs _ (hm r hr) c hc
  · intro t ht c hc c2 hc2
    rw [lsW_hi v hl (by omega), lsW_hi v hl (by omega)]
    exact hu t ht c hc c2 hc2
  · rw [hmd r (Nat.lt_of_lt_of_le hr (cn_le _ _))]
    exact of_decide_eq_true (b1 r hr)
  · rw [hmd r h2]
    have h0 := of_decide_eq_false (b2 r h1 h2)
    obtain ⟨t, ht, hw⟩ := ho _ (hm r h2)
    rw [mvd_of ht hw] at h0 ⊢
    rcases hmv t ht with h | h
    · exact absurd h h0
    · exact h
  · refine ⟨l.countP (fun r => decide (v (9 * r) = zI t)), hrt t ht, ?_⟩
    unfold rwsOf
    rw [← cl_eq]
    refine sg_cn (fun r hr => ?_)
    rw [lsW_row0 l v hr]
    by_cases e : v (9 * gt0 l r) = zI t
    · rw [if_pos e, decide_eq_true e]; rfl
    · rw [if_neg e, decide_eq_false e]; rfl
  · rw [cl_eq (fun r => decide (mvd v r = 0)) l]; exact hT
/- the counts of a state, as numbers -/
theorem rt_cn (h : WI w n T) (ht : t < 3) : (List.range n).countP (fun r => decide (w (9 * r) = zI t)) ≤ 40 := by
  obtain ⟨a, ha, e⟩ := h.2.2.2.2.2.2.2.2.2.2.1 t ht
  have hn := h.1
  have e2 : rwsOf w n t = zI (cn (fun r => decide (w (9 * r) = zI t)) n) := by
    unfold rwsOf
    refine sg_cn (fun r hr => ?_)
    by_cases e : w (9 * r) = zI t
    · rw [if_pos e, decide_eq_true e]; rfl
    · rw [if_neg e, decide_eq_false e]; rfl
  have h3 := cn_le (fun r => decide (w (9 * r) = zI t)) n
  rw [cn_range]
  rw [e] at e2
  have := zI_inj (by omega) (by omega) e2
  omega
theorem t_cn (h : WI w n T) : cn (fun r => decide (mvd w r = 0)) n = T := by
  obtain ⟨h1, h2, h3, h4, h5, h6, h7, h8, h9, h10, h11, h12, h13⟩ := h
  refine cn_low h8.1 (fun r hr => decide_eq_true (h8.2.1 r hr)) (fun r h1 h2 => decide_eq_false (fun e => ?_))
  rw [h8.2.2 r h1 h2] at e
  exact absurd e (by decide)
/- a list that keeps the order, over the same state -/
theorem wi_sub (h : WI w n T) (hs : l.Sublist (List.range n)) : ∃ T2, WI (lsW l w) l.length T2 := by
  obtain ⟨h1, h2, h3, h4, h5, h6, h7, h8, h9, h10, h11, h12, h13⟩ := id h
  have hl : l.length ≤ n := by have := hs.length_le; rw [List.length_range] at this; exact this
  have hm : ∀ i, i < l.length → gt0 l i < n := fun i hi => List.mem_range.mp (hs.subset (gt0_mem hi))
  have hp : l.Pairwise (· < ·) := List.Pairwise.sublist hs List.pairwise_lt_range
  refine wi_list h3 h4 h5 h6 h7 h9 h10 (by omega) hm (fun i j hij hj => ?_) (fun t ht => Nat.le_trans hs.countP_le (rt_cn h ht)) (Nat.le_trans hs.countP_le (by rw [cn_range, t_cn h]; exact h12))
  have hlt : gt0 l i < gt0 l j := by
    have := List.pairwise_iff_getElem.mp hp i j (by omega) hj hij
    unfold gt0
    rw [List.getD_eq_getElem?_getD, List.getElem?_eq_getElem (by omega), List.getD_eq_getElem?_getD, List.getElem?_eq_getElem hj]
    exact this
  exact h13 _ _ hlt (hm j hj)
end QP1

