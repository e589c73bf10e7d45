/-! a state is copied into another one -/
section QB
variable {m : Mem} {n : Nat} {w : Nat → Int32} {i0 j0 i1 j1 : Nat}
theorem p_define {c : Nat} (hc : c < 8) {v : Int32} (hv : v = 0 ∨ v = 1) (a b : Int32) : F_X2_define i0 j0 (zI c) a b v m = some ((), wI (wI (wI m (2, i0, j0, 1) c a) (2, i0, j0, 2) c b) (2, i0, j0, 3) c v) := by
  simp (discharger := omega) only [F_X2_define, J_X2_define_32, ck_b hv, bd_e, bo_e, bm_e, bts_l, bts_r, btm_l, btm_r, bp_lt, ck_ib, ck_z, ck_o, ifT, ifF, n10, n01, pv_v, if_pos, if_neg, zI_nat, zI_add, zI_mul, zI_addl, zI_laddl, zI_mull, zI_lmul, zI_subl, zI_pred, zI_le, zI_lt, zI_eq, zI_lel, zI_lle, zI_ltl, zI_llt, zI_eql, zI_leq, zI_ne1, zI_1ne]
/-- the cells of a tenant -/
def CT (f : Lb → Nat → Int32) (i j : Nat) (g : Lb → Nat → Int32) (i2 j2 : Nat) (c : Nat) : Prop := ∀ r, r < c → f (2, i, j, 1) r = g (2, i2, j2, 1) r ∧ f (2, i, j, 2) r = g (2, i2, j2, 2) r ∧ f (2, i, j, 3) r = g (2, i2, j2, 3) r
def NT (i j : Nat) (lb : Lb) : Prop := ∀ k, lb ≠ (2, i, j, k)
theorem p_tcopy (h01 : i0 ≠ i1) (hb : ∀ c, c < 8 → m.1 (2, i1, j1, 3) c = 0 ∨ m.1 (2, i1, j1, 3) c = 1) (hm : m.1 (2, i1, j1, 0) 5 = 0 ∨ m.1 (2, i1, j1, 0) 5 = 1) :
    ∃ m2, F_X2_copyFrom i0 j0 i1 j1 m = some ((), m2) ∧ m2.2 = m.2 ∧ (∀ lb, NT i0 j0 lb → m2.1 lb = m.1 lb) ∧ CT m2.1 i0 j0 m.1 i1 j1 8 ∧ ∀ k, 3 ≤ k → k < 10 → m2.1 (2, i0, j0, 0) k = m.1 (2, i1, j1, 0) k := by
  have src : ∀ a b : Nat, ((2, i1, j1, a) : Lb) ≠ (2, i0, j0, b) := fun a b e => h01 (by injection e with _ e; injection e with e _; exact e.symm)
  have dst : ∀ a b : Nat, a ≠ b → ((2, i0, j0, a) : Lb) ≠ (2, i0, j0, b) := fun a b hab e => hab (by injection e with _ e; injection e with _ e; injection e)
  unfold F_X2_copyFrom
  refine loop_ex (L := fun k x i => L_X2_copyFrom_2 i0 j0 i1 j1 k i x) (P := fun r x => x.2 = m.2 ∧ (∀ lb, NT i0 j0 lb → x.1 lb = m.1 lb) ∧ CT x.1 i0 j0 m.1 i1 j1 r) (R := fun y => ∃ m2, y = some ((), m2) ∧ m2.2 = m.2 ∧ (∀ lb, NT i0 j0 lb → m2.1 lb = m.1 lb) ∧ CT m2.1 i0 j0 m.1 i1 j1 8 ∧ ∀ k, 3 ≤ k → k < 10 → m2.1 (2, i0, j0, 0) k = m.1 (2, i1, j1, 0) k) (n := 8) ?_ ?_ 8 0 fu m (by omega) (by rw [fu_eq]; omega) ⟨rfl, fun _ _ => rfl, fun r hr => absurd hr (Nat.not_lt_zero r)⟩
  · intro k x r hr hp
    obtain ⟨p1, p2, p3⟩ := hp
    have s1 := p2 (2, i1, j1, 1) (fun k => src 1 k)
    have s2 := p2 (2, i1, j1, 2) (fun k => src 2 k)
    have s3 := p2 (2, i1, j1, 3) (fun k => src 3 k)
    refine Or.inl ⟨wI (wI (wI x (2, i0, j0, 1) r (m.1 (2, i1, j1, 1) r)) (2, i0, j0, 2) r (m.1 (2, i1, j1, 2) r)) (2, i0, j0, 3) r (m.1 (2, i1, j1, 3) r), ⟨p1, ?_, ?_⟩, ?_⟩
    · intro lb hl
      rw [wI_ne (hl 3), wI_ne (hl 2), wI_ne (hl 1)]
      exact p2 lb hl
    · intro q hq
      rw [wI_ne (dst 1 3 (by decide)), wI_ne (dst 1 2 (by decide)), wI_eq, wI_ne (dst 2 3 (by decide)), wI_eq, wI_eq, wI_ne (dst 2 1 (by decide)), wI_ne (dst 3 2 (by decide)), wI_ne (dst 3 1 (by decide))]
      unfold upd
      by_cases e : q = r
      · rw [if_pos e, if_pos e, if_pos e, e]; exact ⟨rfl, rfl, rfl⟩
      · rw [if_neg e, if_neg e, if_neg e]; exact p3 q (by omega)
    · have hd := fun a b => p_define (m := x) (i0 := i0) (j0 := j0) hr (hb r hr) a b
      simp (discharger := omega) only [L_X2_copyFrom_2, s1, s2, s3, hd, bd_e, bo_e, bm_e, bts_l, bts_r, btm_l, btm_r, bp_lt, ck_ib, ck_z, ck_o, ifT, ifF, n10, n01, pv_v, if_pos, if_neg, zI_nat, zI_add, zI_mul, zI_addl, zI_laddl, zI_mull, zI_lmul, zI_subl, zI_pred, zI_le, zI_lt, zI_eq, zI_lel, zI_lle, zI_ltl, zI_llt, zI_eql, zI_leq, zI_ne1, zI_1ne]
  · intro k x hp
    obtain ⟨p1, p2, p3⟩ := hp
    have s0 := p2 (2, i1, j1, 0) (fun k => src 0 k)
    have e : ∀ (y : Mem) (k : Nat) (v : Int32), (wI y (2, i0, j0, 0) k v).1 (2, i1, j1, 0) = y.1 (2, i1, j1, 0) := fun y k v => wI_ne (src 0 0) y k v
    refine ⟨wA x (2, i0, j0, 0) (upd (upd (upd (upd (upd (upd (upd (x.1 (2, i0, j0, 0)) 3 (m.1 (2, i1, j1, 0) 3)) 4 (m.1 (2, i1, j1, 0) 4)) 5 (m.1 (2, i1, j1, 0) 5)) 6 (m.1 (2, i1, j1, 0) 6)) 7 (m.1 (2, i1, j1, 0) 7)) 8 (m.1 (2, i1, j1, 0) 8)) 9 (m.1 (2, i1, j1, 0) 9)), ?_, p1, ?_, ?_, ?_⟩
    · have h8 : (8 : Int32) ≤ zI 8 := by decide
      simp (discharger := omega) only [L_X2_copyFrom_2, C_X2_copyFrom_37, e, s0, ck_b hm, h8, bd_e, bo_e, bm_e, bts_l, bts_r, btm_l, btm_r, bp_lt, ck_ib, ck_z, ck_o, ifT, ifF, n10, n01, pv_v, if_pos, if_neg, zI_nat, zI_add, zI_mul, zI_addl, zI_laddl, zI_mull, zI_lmul, zI_subl, zI_pred, zI_le, zI_lt, zI_eq, zI_lel, zI_lle, zI_ltl, zI_llt, zI_eql, zI_leq, zI_ne1, zI_1ne]
      simp only [wI_wI, wI_wA, wA_wA, wA_wI, wA_self, wI_eq]
    · intro lb hl
      rw [wA_ne _ _ (hl 0)]
      exact p2 lb hl
    · intro q hq
      rw [wA_ne _ _ (dst 1 0 (by decide)), wA_ne _ _ (dst 2 0 (by decide)), wA_ne _ _ (dst 3 0 (by decide))]
      exact p3 q hq
    · intro q h3 h10
      rw [wA_self]
      rcases (show q = 3 ∨ q = 4 ∨ q = 5 ∨ q = 6 ∨ q = 7 ∨ q = 8 ∨ q = 9 by omega) with rfl | rfl | rfl | rfl | rfl | rfl | rfl <;> rfl
theorem p_copy (h : SR m.1 i1 w n) (hi : IX w) (hv : MV w) (h01 : i0 ≠ i1) : ∃ m2, F_X1_copyFrom i0 i1 m = some ((), m2) ∧ SR m2.1 i0 w n ∧ m2.2 = m.2 ∧ ∀ lb : Lb, ((lb.1 = 1 ∨ lb.1 = 2) → lb.2.1 ≠ i0) → m2.1 lb = m.1 lb := by
  obtain ⟨a1, a2, a3, a4, a5, a6, a7, a8⟩ := h
  have fr : ∀ {j : Nat} {lb : Lb}, ((lb.1 = 1 ∨ lb.1 = 2) → lb.2.1 ≠ i0) → NT i0 j lb := by
    intro j lb hl k e
    subst e
    exact hl (Or.inr rfl) rfl
  unfold F_X1_copyFrom
  refine loop_ex (L := fun k x i => L_X1_copyFrom_2 i0 i1 k i x) (P := fun r x => x.2 = m.2 ∧ (∀ lb : Lb, ((lb.1 = 1 ∨ lb.1 = 2) → lb.2.1 ≠ i0) → x.1 lb = m.1 lb) ∧ ∀ t, t < r → CT x.1 i0 t m.1 i1 t 8 ∧ ∀ k, 3 ≤ k → k < 10 → x.1 (2, i0, t, 0) k = m.1 (2, i1, t, 0) k) (R := fun y => ∃ m2, y = some ((), m2) ∧ SR m2.1 i0 w n ∧ m2.2 = m.2 ∧ ∀ lb : Lb, ((lb.1 = 1 ∨ lb.1 = 2) → lb.2.1 ≠ i0) → m2.1 lb = m.1 lb) (n := 3) ?_ ?_ 3 0 fu m (by omega) (by rw [fu_eq]; omega) ⟨rfl, fun _ _ => rfl, fun r hr => absurd hr (Nat.not_lt_zero r)⟩
  · intro k x r hr hp
    obtain ⟨p1, p2, p3⟩ := hp
    have src : ∀ a b c, x.1 (a, i1, b, c) = m.1 (a, i1, b, c) := fun a b c => p2 _ (fun _ => Ne.symm h01)
    have hb : ∀ c, c < 8 → x.1 (2, i1, r, 3) c = 0 ∨ x.1 (2, i1, r, 3) c = 1 := fun c hc => by
      rw [src, (a6 r hr c hc).2.1]; exact hi r hr c hc
    have hm5 : x.1 (2, i1, r, 0) 5 = 0 ∨ x.1 (2, i1, r, 0) 5 = 1 := by
      rw [src, (a7 r hr).2.2.1]; exact hv r hr
    obtain ⟨m2, e1, e2, e3, e4, e5⟩ := p_tcopy (m := x) (i0 := i0) (j0 := r) (i1 := i1) (j1 := r) h01 hb hm5
    refine Or.inl ⟨m2, ⟨e2.trans p1, fun lb hl => (e3 lb (fr hl)).trans (p2 lb hl), fun t ht => ?_⟩, ?_⟩
    · by_cases htr : t = r
      · subst htr
        refine ⟨fun c hc => ?_, fun k h3 h10 => ?_⟩
        · have := e4 c hc
          rw [src, src, src] at this
          exact this
        · rw [e5 k h3 h10, src]
      · have nt : ∀ k, NT i0 r (2, i0, t, k) := fun k b e => htr (by injection e with _ e; injection e with _ e; injection e)
        unfold CT
        rw [e3 _ (nt 0), e3 _ (nt 1), e3 _ (nt 2), e3 _ (nt 3)]
        exact p3 t (by omega)
    · simp (discharger := omega) only [L_X1_copyFrom_2, e1, bd_e, bo_e, bm_e, bts_l, bts_r, btm_l, btm_r, bp_lt, ck_ib, ck_z, ck_o, ifT, ifF, n10, n01, pv_v, if_pos, if_neg, zI_nat, zI_add, zI_mul, zI_addl, zI_laddl, zI_mull, zI_lmul, zI_subl, zI_pred, zI_le, zI_lt, zI_eq, zI_lel, zI_lle, zI_ltl, zI_llt, zI_eql, zI_leq, zI_ne1, zI_1ne]
  · intro k x hp
    obtain ⟨p1, p2, p3⟩ := hp
    have src : ∀ a b c, x.1 (a, i1, b, c) = m.1 (a, i1, b, c) := fun a b c => p2 _ (fun _ => Ne.symm h01)
    have ne1 : ∀ a b c d e f : Nat, ((a, i1, b, c) : Lb) ≠ (d, i0, e, f) := fun a b c d e f q => h01 (by injection q with _ q; injection q with q _; exact q.symm)
    have d3 : ((1, i0, 0, 3) : Lb) ≠ (1, i0, 0, 2) := by intro e; injection e with _ e; injection e with _ e; injection e with _ e; exact absurd e (by decide)
    have d23 : ((1, i0, 0, 2) : Lb) ≠ (1, i0, 0, 3) := fun e => d3 e.symm
    have d0 : ((1, i0, 0, 0) : Lb) ≠ (1, i0, 0, 2) := by intro e; injection e with _ e; injection e with _ e; injection e with _ e; exact absurd e (by decide)
    have d03 : ((1, i0, 0, 0) : Lb) ≠ (1, i0, 0, 3) := by intro e; injection e with _ e; injection e with _ e; injection e with _ e; exact absurd e (by decide)
    have d20 : ((1, i0, 0, 2) : Lb) ≠ (1, i0, 0, 0) := fun e => d0 e.symm
    have d30 : ((1, i0, 0, 3) : Lb) ≠ (1, i0, 0, 0) := fun e => d03 e.symm
    obtain ⟨x4, hx4⟩ : ∃ x4, x4 = wI x (1, i0, 0, 0) 3 (zI n) := ⟨_, rfl⟩
    obtain ⟨x6, hx6⟩ : ∃ x6, x6 = wA x4 (1, i0, 0, 2) (va_cpy (x4.1 (1, i1, 0, 2)) (x4.1 (1, i0, 0, 2)) 0 0 n) := ⟨_, rfl⟩
    obtain ⟨x9, hx9⟩ : ∃ x9, x9 = wA x6 (1, i0, 0, 3) (va_cpy (x6.1 (1, i1, 0, 3)) (x6.1 (1, i0, 0, 3)) 0 0 (n * 8)) := ⟨_, rfl⟩
    have f4 : ∀ lb : Lb, lb ≠ (1, i0, 0, 0) → x4.1 lb = x.1 lb := fun lb hl => by rw [hx4, wI_ne hl]
    have f6 : ∀ lb : Lb, lb ≠ (1, i0, 0, 2) → x6.1 lb = x4.1 lb := fun lb hl => by rw [hx6, wA_ne _ _ hl]
    have f9 : ∀ lb : Lb, lb ≠ (1, i0, 0, 3) → x9.1 lb = x6.1 lb := fun lb hl => by rw [hx9, wA_ne _ _ hl]
    have n4 : x4.1 (1, i0, 0, 0) 3 = zI n := by rw [hx4, wI_eq, upd_eq]
    have n6 : x6.1 (1, i0, 0, 0) 3 = zI n := by rw [f6 _ d0]; exact n4
    have n9 : x9.1 (1, i0, 0, 0) 3 = zI n := by rw [f9 _ d03]; exact n6
    refine ⟨x9, ?_, ⟨a1, a2, n9, fun r hr => ?_, fun r hr c hc => ?_, fun t ht c hc => ?_, fun t ht => ?_, a8⟩, ?_, fun lb hl => ?_⟩
    · have h3 : (3 : Int32) ≤ zI 3 := by decide
      have g3 : x.1 (1, i1, 0, 0) 3 = zI n := by rw [src]; exact a3
      have z0 : Int32.toNatClampNeg 0 = 0 := rfl
      have ek1 : ∀ {α : Type} (y : Option α), ck (!decide ((0 : Nat) < 0) && !decide ((0 : Nat) < 0) && !decide (zI n < 0) && decide (Int32.toNatClampNeg 0 + Int32.toNatClampNeg (zI n) ≤ 120) && decide (Int32.toNatClampNeg 0 + Int32.toNatClampNeg (zI n) ≤ 120)) y = y := fun y => ck_cpy (by decide) (by decide) (zI_nn (by omega)) zI_zero.symm zI_zero.symm rfl (by omega) (by omega) (by omega) (by omega)
      have ek2 : ∀ {α : Type} (y : Option α), ck (!decide ((0 : Nat) < 0) && !decide ((0 : Nat) < 0) && !decide (zI (n * 8) < 0) && decide (Int32.toNatClampNeg 0 + Int32.toNatClampNeg (zI (n * 8)) ≤ 960) && decide (Int32.toNatClampNeg 0 + Int32.toNatClampNeg (zI (n * 8)) ≤ 960)) y = y := fun y => ck_cpy (by decide) (by decide) (zI_nn (by omega)) zI_zero.symm zI_zero.symm rfl (by omega) (by omega) (by omega) (by omega)
      rw [z0] at ek2
      unfold L_X1_copyFrom_2
      rw [if_pos h3]
      unfold C_X1_copyFrom_28
      simp only [bd_e]
      rw [g3, ← hx4, n4, ek1, zI_nat (by omega), z0, ← hx6, n6, zI_mull, ek2, zI_nat (by omega), ← hx9]
    · rw [f9 _ d23, hx6, wA_self, cpy_in _ _ (Nat.zero_le r) (by omega), f4 _ (ne1 1 0 2 1 0 0), src, show 0 + (r - 0) = r by omega]
      exact a4 r hr
    · rw [hx9, wA_self, cpy_in _ _ (Nat.zero_le _) (by omega), f6 _ (ne1 1 0 3 1 0 2), f4 _ (ne1 1 0 3 1 0 0), src, show 0 + (r * 8 + c - 0) = r * 8 + c by omega]
      exact a5 r hr c hc
    · have g : ∀ k, x9.1 (2, i0, t, k) = x.1 (2, i0, t, k) := fun k => by
        rw [f9 _ (fun e => by injection e with e _; exact absurd e (by decide)), f6 _ (fun e => by injection e with e _; exact absurd e (by decide)), f4 _ (fun e => by injection e with e _; exact absurd e (by decide))]
      rw [g, g, g]
      obtain ⟨q1, q2, q3⟩ := (p3 t ht).1 c hc
      rw [q1, q2, q3]
      exact a6 t ht c hc
    · have g : ∀ k, x9.1 (2, i0, t, k) = x.1 (2, i0, t, k) := fun k => by
        rw [f9 _ (fun e => by injection e with e _; exact absurd e (by decide)), f6 _ (fun e => by injection e with e _; exact absurd e (by decide)), f4 _ (fun e => by injection e with e _; exact absurd e (by decide))]
      have q := (p3 t ht).2
      rw [g, q 3 (by omega) (by omega), q 4 (by omega) (by omega), q 5 (by omega) (by omega), q 6 (by omega) (by omega), q 7 (by omega) (by omega), q 8 (by omega) (by omega), q 9 (by omega) (by omega)]
      exact a7 t ht
    · rw [hx9, hx6, hx4]; exact p1
    · have nl : ∀ k, lb ≠ (1, i0, 0, k) := fun k e => by subst e; exact hl (Or.inl rfl) rfl
      rw [f9 _ (nl 3), f6 _ (nl 2), f4 _ (nl 0)]
      exact p2 lb hl
end QB

