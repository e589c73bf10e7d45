/-! digest, the class's side -/
theorem fo_app {α : Type} (g : Nat → α → α) (a b : Nat) (x : α) : fo g (a + b) x = fo (fun j => g (a + j)) b (fo g a x) := by
  induction b with
  | zero => rfl
  | succ b ih =>
    show g (a + b) (fo g (a + b) x) = g (a + b) (fo (fun j => g (a + j)) b (fo g a x))
    rw [ih]
theorem fo_mul {α : Type} (G : Nat → Nat → α → α) (c : Nat) (x : α) : fo (fun k a => G (k / 6) (k % 6) a) (6 * c) x = fo (fun i a => fo (fun j b => G i j b) 6 a) c x := by
  induction c with
  | zero => rfl
  | succ c ih =>
    rw [show 6 * (c + 1) = 6 * c + 6 by omega, fo_app, ih]
    show _ = fo (fun j b => G c j b) 6 _
    refine fo_congr (fun r b hr => ?_)
    rw [show (6 * c + r) / 6 = c by omega, show (6 * c + r) % 6 = r by omega]
def mxI (f : Nat → Int32) (j : Nat) (a : Int64) : Int64 := 31 * a + Int32.toInt64 (f j)
def rowH (w : Nat → Int32) (n : Nat) (a : Int64) : Int64 := fo (fun r b => fo (mxI (rowT w r)) 10 b) n a
def tenH (w : Nat → Int32) (n t : Nat) (a : Int64) : Int64 := fo (fun c b => fo (mxI (colT w n t c)) 6 b) 8 (fo (mxI (tenT w n t)) 9 a)
def ansH (w : Nat → Int32) (n nt : Nat) (tl ts tn : Nat → Int32) (t : Nat) (a : Int64) : Int64 := fo (fun r b => if an w nt tl ts tn t r = true then 31 * b + Int32.toInt64 (zI r) else b) n a
theorem ansH_eq (w : Nat → Int32) (n nt : Nat) (tl ts tn : Nat → Int32) (t : Nat) (a : Int64) : fo (mxI (fun j => zI (gt0 (aL w nt tl ts tn t n) j))) (aL w nt tl ts tn t n).length a = ansH w n nt tl ts tn t a := by
  unfold ansH
  induction n with
  | zero => rfl
  | succ n ih =>
    show _ = (if an w nt tl ts tn t n = true then 31 * _ + Int32.toInt64 (zI n) else _)
    by_cases h : an w nt tl ts tn t n = true
    · rw [if_pos h, aL_succ, if_pos h, List.length_append]
      show mxI (fun j => zI (gt0 (aL w nt tl ts tn t n ++ [n]) j)) (aL w nt tl ts tn t n).length (fo (mxI (fun j => zI (gt0 (aL w nt tl ts tn t n ++ [n]) j))) (aL w nt tl ts tn t n).length a) = _
      have e : fo (mxI (fun j => zI (gt0 (aL w nt tl ts tn t n ++ [n]) j))) (aL w nt tl ts tn t n).length a = fo (mxI (fun j => zI (gt0 (aL w nt tl ts tn t n) j))) (aL w nt tl ts tn t n).length a := fo_congr (fun r b hr => by
        simp only [mxI]
        rw [gt0_app, if_pos hr])
      rw [e, ih]
      simp only [mxI]
      rw [gt0_app, if_neg (Nat.lt_irrefl _), Nat.sub_self]
      rfl
    · rw [if_neg h, aL_succ, if_neg h, List.append_nil]
      exact ih
/-- the answers' part: asked or not, the first three by the first letter's values -/
def qsH (b : Bool) (w : Nat → Int32) (n nt : Nat) (tl ts tn : Nat → Int32) (σ : Nat → Nat) (t : Nat) (a : Int64) : Int64 :=
  31 * (31 * (31 * fo (mxI (fun p => if b = true then (if p < (aL w nt tl ts tn t n).length then zI (σ p) else -1) else -1)) 3 (if b = true then ansH w n nt tl ts tn t a else a) + Int32.toInt64 (if b = true then lkT w n nt tl ts tn t (w (1159 + t)) (-1) else -1)) + Int32.toInt64 (if b = true then lkT w n nt tl ts tn t 1 (-1) else -1)) + Int32.toInt64 (if b = true then bst w n nt tl ts tn t else -1)
def goodS (w : Nat → Int32) (n nt : Nat) (tl ts tn : Nat → Int32) (σ : Nat → Nat) (t : Nat) : Prop := SD w (cO w t 0) σ (aL w nt tl ts tn t n).length ∧ SP σ (gt0 (aL w nt tl ts tn t n)) (aL w nt tl ts tn t n).length
def digV (b : Bool) (w : Nat → Int32) (n T k nt : Nat) (tl ts tn : Nat → Int32) (σs : Nat → Nat → Nat) (L : Nat) (tx : Nat → Int32) : Int64 :=
  fo (mxI tx) L (31 * (31 * fo (fun t a => qsH b w n nt tl ts tn (σs t) t (tenH w n t a)) 3 (rowH w n (fo (mxI (cntT w n T (zI k))) 8 3049)) + UInt64.toInt64 (shV w T)) + Int32.toInt64 (zI L))
section QZ
variable {m mi x : Mem} {n k L T nt : Nat} {w tx tl ts tn : Nat → Int32} {pa : Nat → Nat → Int32} {nn' TT : Nat → Nat}
theorem p_mix (a b : Int64) (m : Mem) : F_X3_mix a b m = some (31 * a + b) := rfl
theorem cl_count (h : PRel m w n k pa nn' L tx) (hI : WI w n T) : F_X3_digest m = C_X3_digest_29 m (fo (mxI (cntT w n T (zI k))) 8 3049) := by
  have hs := h.1 6 (by omega)
  unfold F_X3_digest
  refine loop_fo0 (L := fun k2 a i => L_X3_digest_6 m k2 a i) (g := mxI (cntT w n T (zI k))) (c := C_X3_digest_29 m) (n := 8) ?_ ?_ fu (by rw [fu_eq]; omega) 3049
  · intro k2 a r hr
    have e := p_count h.2.2.2.1 hs hI hr
    rw [h.2.2.1] at e
    simp (discharger := omega) only [L_X3_digest_6, e, p_mix, bd_e, bo_e, bm_e, bts_l, bts_r, btm_l, btm_r, bp_lt, ck_ib, ck_z, ck_o, ifT, ifF, n10, n01, pv_v, if_pos, if_neg, zI_nat, zI_add, zI_mul, zI_addl, zI_laddl, zI_mull, zI_lmul, zI_subl, zI_pred, zI_le, zI_lt, zI_eq, zI_lel, zI_lle, zI_ltl, zI_llt, zI_eql, zI_leq, zI_ne1, zI_1ne] <;> rfl
  · intro k2 a
    simp (discharger := omega) only [L_X3_digest_6, bd_e, bo_e, bm_e, bts_l, bts_r, btm_l, btm_r, bp_lt, ck_ib, ck_z, ck_o, ifT, ifF, n10, n01, pv_v, if_pos, if_neg, zI_nat, zI_add, zI_mul, zI_addl, zI_laddl, zI_mull, zI_lmul, zI_subl, zI_pred, zI_le, zI_lt, zI_eq, zI_lel, zI_lle, zI_ltl, zI_llt, zI_eql, zI_leq, zI_ne1, zI_1ne]
theorem cl_rows (h : PRel m w n k pa nn' L tx) (hI : WI w n T) (a : Int64) : C_X3_digest_29 m a = C_X3_digest_77 m (rowH w n a) := by
  have hs := h.1 6 (by omega)
  have hn := hI.1
  have h3 := h.2.2.2.1.2.2.1
  unfold C_X3_digest_29 rowH
  refine loop_fo0 (L := fun k2 a i => L_X3_digest_31 m k2 a i) (g := fun r b => fo (mxI (rowT w r)) 10 b) (c := C_X3_digest_77 m) (n := n) ?_ ?_ fu (by rw [fu_eq]; omega) a
  · intro k2 b r hr
    have inner : ∀ kb, L_X3_digest_45 m (zI r) kb fu b 0 = C_X3_digest_71 (zI r) kb (fo (mxI (rowT w r)) 10 b) := fun kb => by
      refine loop_fo0 (L := fun k2 a i => L_X3_digest_45 m (zI r) kb k2 a i) (g := mxI (rowT w r)) (c := C_X3_digest_71 (zI r) kb) (n := 10) ?_ ?_ fu (by rw [fu_eq]; omega) b
      · intro k3 a2 j hj
        have e := p_rowOf h.2.2.2.1 hs hI hr hj
        simp (discharger := omega) only [L_X3_digest_45, e, p_mix, bd_e, bo_e, bm_e, bts_l, bts_r, btm_l, btm_r, bp_lt, ck_ib, ck_z, ck_o, ifT, ifF, n10, n01, pv_v, if_pos, if_neg, zI_nat, zI_add, zI_mul, zI_addl, zI_laddl, zI_mull, zI_lmul, zI_subl, zI_pred, zI_le, zI_lt, zI_eq, zI_lel, zI_lle, zI_ltl, zI_llt, zI_eql, zI_leq, zI_ne1, zI_1ne] <;> rfl
      · intro k3 a2
        simp (discharger := omega) only [L_X3_digest_45, bd_e, bo_e, bm_e, bts_l, bts_r, btm_l, btm_r, bp_lt, ck_ib, ck_z, ck_o, ifT, ifF, n10, n01, pv_v, if_pos, if_neg, zI_nat, zI_add, zI_mul, zI_addl, zI_laddl, zI_mull, zI_lmul, zI_subl, zI_pred, zI_le, zI_lt, zI_eq, zI_lel, zI_lle, zI_ltl, zI_llt, zI_eql, zI_leq, zI_ne1, zI_1ne]
    have hlt : ¬ n ≤ r := by omega
    simp (discharger := omega) only [L_X3_digest_31, hs, h3, hlt, inner, C_X3_digest_71, bd_e, bo_e, bm_e, bts_l, bts_r, btm_l, btm_r, bp_lt, ck_ib, ck_z, ck_o, ifT, ifF, n10, n01, pv_v, if_pos, if_neg, zI_nat, zI_add, zI_mul, zI_addl, zI_laddl, zI_mull, zI_lmul, zI_subl, zI_pred, zI_le, zI_lt, zI_eq, zI_lel, zI_lle, zI_ltl, zI_llt, zI_eql, zI_leq, zI_ne1, zI_1ne]
  · intro k2 b
    simp (discharger := omega) only [L_X3_digest_31, hs, h3, Nat.le_refl, bd_e, bo_e, bm_e, bts_l, bts_r, btm_l, btm_r, bp_lt, ck_ib, ck_z, ck_o, ifT, ifF, n10, n01, pv_v, if_pos, if_neg, zI_nat, zI_add, zI_mul, zI_addl, zI_laddl, zI_mull, zI_lmul, zI_subl, zI_pred, zI_le, zI_lt, zI_eq, zI_lel, zI_lle, zI_ltl, zI_llt, zI_eql, zI_leq, zI_ne1, zI_1ne]
theorem cl_tenant (h : PRel m w n k pa nn' L tx) (hI : WI w n T) {t : Nat} (ht : t < 3) (a : Int64) : F_X3_mixTenant a (zI t) m = some (tenH w n t a) := by
  have hs := h.1 6 (by omega)
  have e1 : F_X3_mixTenant a (zI t) m = C_X3_mixTenant_34 (zI t) m (fo (mxI (tenT w n t)) 9 a) := by
    unfold F_X3_mixTenant
    refine loop_fo0 (L := fun k2 a i => L_X3_mixTenant_6 (zI t) m k2 a i) (g := mxI (tenT w n t)) (c := C_X3_mixTenant_34 (zI t) m) (n := 9) ?_ ?_ fu (by rw [fu_eq]; omega) a
    · intro k3 a2 j hj
      have e := p_tenant h.2.2.2.1 hs hI ht hj
      simp (discharger := omega) only [L_X3_mixTenant_6, e, p_mix, bd_e, bo_e, bm_e, bts_l, bts_r, btm_l, btm_r, bp_lt, ck_ib, ck_z, ck_o, ifT, ifF, n10, n01, pv_v, if_pos, if_neg, zI_nat, zI_add, zI_mul, zI_addl, zI_laddl, zI_mull, zI_lmul, zI_subl, zI_pred, zI_le, zI_lt, zI_eq, zI_lel, zI_lle, zI_ltl, zI_llt, zI_eql, zI_leq, zI_ne1, zI_1ne] <;> rfl
    · intro k3 a2
      simp (discharger := omega) only [L_X3_mixTenant_6, bd_e, bo_e, bm_e, bts_l, bts_r, btm_l, btm_r, bp_lt, ck_ib, ck_z, ck_o, ifT, ifF, n10, n01, pv_v, if_pos, if_neg, zI_nat, zI_add, zI_mul, zI_addl, zI_laddl, zI_mull, zI_lmul, zI_subl, zI_pred, zI_le, zI_lt, zI_eq, zI_lel, zI_lle, zI_ltl, zI_llt, zI_eql, zI_leq, zI_ne1, zI_1ne]
  rw [e1]
  unfold C_X3_mixTenant_34 tenH
  refine loop_fo0 (L := fun k2 a i => L_X3_mixTenant_37 (zI t) m k2 a i) (g := fun c b => fo (mxI (colT w n t c)) 6 b) (c := some) (n := 8) ?_ ?_ fu (by rw [fu_eq]; omega) _
  · intro k2 b c hc
    have inner : ∀ kb, L_X3_mixTenant_47 (zI t) m (zI c) kb fu b 0 = C_X3_mixTenant_76 (zI c) kb (fo (mxI (colT w n t c)) 6 b) := fun kb => by
      refine loop_fo0 (L := fun k2 a i => L_X3_mixTenant_47 (zI t) m (zI c) kb k2 a i) (g := mxI (colT w n t c)) (c := C_X3_mixTenant_76 (zI c) kb) (n := 6) ?_ ?_ fu (by rw [fu_eq]; omega) b
      · intro k3 a2 j hj
        have e := p_column h.2.2.2.1 hs hI ht hc hj
        simp (discharger := omega) only [L_X3_mixTenant_47, e, p_mix, bd_e, bo_e, bm_e, bts_l, bts_r, btm_l, btm_r, bp_lt, ck_ib, ck_z, ck_o, ifT, ifF, n10, n01, pv_v, if_pos, if_neg, zI_nat, zI_add, zI_mul, zI_addl, zI_laddl, zI_mull, zI_lmul, zI_subl, zI_pred, zI_le, zI_lt, zI_eq, zI_lel, zI_lle, zI_ltl, zI_llt, zI_eql, zI_leq, zI_ne1, zI_1ne] <;> rfl
      · intro k3 a2
        simp (discharger := omega) only [L_X3_mixTenant_47, bd_e, bo_e, bm_e, bts_l, bts_r, btm_l, btm_r, bp_lt, ck_ib, ck_z, ck_o, ifT, ifF, n10, n01, pv_v, if_pos, if_neg, zI_nat, zI_add, zI_mul, zI_addl, zI_laddl, zI_mull, zI_lmul, zI_subl, zI_pred, zI_le, zI_lt, zI_eq, zI_lel, zI_lle, zI_ltl, zI_llt, zI_eql, zI_leq, zI_ne1, zI_1ne]
    simp (discharger := omega) only [L_X3_mixTenant_37, inner, C_X3_mixTenant_76, bd_e, bo_e, bm_e, bts_l, bts_r, btm_l, btm_r, bp_lt, ck_ib, ck_z, ck_o, ifT, ifF, n10, n01, pv_v, if_pos, if_neg, zI_nat, zI_add, zI_mul, zI_addl, zI_laddl, zI_mull, zI_lmul, zI_subl, zI_pred, zI_le, zI_lt, zI_eq, zI_lel, zI_lle, zI_ltl, zI_llt, zI_eql, zI_leq, zI_ne1, zI_1ne]
  · intro k2 b
    simp (discharger := omega) only [L_X3_mixTenant_37, C_X3_mixTenant_82, Nat.le_refl, bd_e, bo_e, bm_e, bts_l, bts_r, btm_l, btm_r, bp_lt, ck_ib, ck_z, ck_o, ifT, ifF, n10, n01, pv_v, if_pos, if_neg, zI_nat, zI_add, zI_mul, zI_addl, zI_laddl, zI_mull, zI_lmul, zI_subl, zI_pred, zI_le, zI_lt, zI_eq, zI_lel, zI_lle, zI_ltl, zI_llt, zI_eql, zI_leq, zI_ne1, zI_1ne]
theorem cl_three {y : Mem} (p2 p3 : Int32) (q1 q2 a : Nat) (σ : Nat → Nat) (g : Nat → Int32) (ha : a ≤ 120) (hg : ∀ j, j < a → g j = zI (σ j)) (h0 : Int64) (hy : y = wA m (0, 0, 0, 4) g) : L_X3_mixAnswers_77 p2 p3 q1 q2 (zI a) y fu h0 0 = C_X3_mixAnswers_105 p2 p3 q1 q2 y (fo (mxI (fun p => if p < a then zI (σ p) else -1)) 3 h0) := by
  refine loop_fo0 (L := fun k2 b i => L_X3_mixAnswers_77 p2 p3 q1 q2 (zI a) y k2 b i) (g := mxI (fun p => if p < a then zI (σ p) else -1)) (c := C_X3_mixAnswers_105 p2 p3 q1 q2 y) (n := 3) ?_ ?_ fu (by rw [fu_eq]; omega) h0
  · intro k2 b r hr
    have e := p_answerAt (m := m) (p := r) ha (by omega) hg
    rw [← hy] at e
    have h2 : ¬ 2 < r := by omega
    simp (discharger := omega) only [L_X3_mixAnswers_77, e, p_mix, h2, bd_e, bo_e, bm_e, bts_l, bts_r, btm_l, btm_r, bp_lt, ck_ib, ck_z, ck_o, ifT, ifF, n10, n01, pv_v, if_pos, if_neg, zI_nat, zI_add, zI_mul, zI_addl, zI_laddl, zI_mull, zI_lmul, zI_subl, zI_pred, zI_le, zI_lt, zI_eq, zI_lel, zI_lle, zI_ltl, zI_llt, zI_eql, zI_leq, zI_ne1, zI_1ne] <;> rfl
  · intro k2 b
    have h2 : (2 : Int32) < zI 3 := by decide
    simp (discharger := omega) only [L_X3_mixAnswers_77, h2, bd_e, bo_e, bm_e, bts_l, bts_r, btm_l, btm_r, bp_lt, ck_ib, ck_z, ck_o, ifT, ifF, n10, n01, pv_v, if_pos, if_neg, zI_nat, zI_add, zI_mul, zI_addl, zI_laddl, zI_mull, zI_lmul, zI_subl, zI_pred, zI_le, zI_lt, zI_eq, zI_lel, zI_lle, zI_ltl, zI_llt, zI_eql, zI_leq, zI_ne1, zI_1ne]
theorem cl_ans1 (hP : PRel m w n k pa nn' L tx) (hA : AInv w n T k pa nn' TT L tx) (hq : QP m.1 nt tl ts tn) (hk : TK nt tl ts tn) {t : Nat} (ht : t < 3) (a : Int64) : ∃ (m2 : Mem) (σ : Nat → Nat) (g : Nat → Int32), F_X3_mixAnswers a (zI t) 1 m = some (qsH true w n nt tl ts tn σ t a, m2) ∧ m2 = wA m (0, 0, 0, 4) g ∧ goodS w n nt tl ts tn σ t := by
  have hs := hP.1 6 (by omega)
  obtain ⟨i1, i2, i3, i4, i5, i6, i7, i8, i9, i10, i11, i12⟩ := id hA.1
  obtain ⟨g, c1, c2, c3, g2, σ, c5, c6, c7, c8⟩ := p_answered hP hA hq hk ht (cO_isC w t 0)
  obtain ⟨la, hla⟩ : ∃ la, la = (aL w nt tl ts tn t n).length := ⟨_, rfl⟩
  rw [← hla] at c1 c2 c3 c5 c6
  obtain ⟨m4, hm4⟩ : ∃ m4, m4 = wA m (0, 0, 0, 4) g := ⟨_, rfl⟩
  obtain ⟨m9, hm9⟩ : ∃ m9, m9 = wA m (0, 0, 0, 4) g2 := ⟨_, rfl⟩
  rw [← hm4] at c1 c5
  rw [← hm9] at c5
  obtain ⟨P4, -⟩ := prel_4 hP hA.2.1 g
  obtain ⟨P9, -⟩ := prel_4 hP hA.2.1 g2
  rw [← hm4] at P4
  rw [← hm9] at P9
  have hs9 := P9.1 6 (by omega)
  have q9 : QP m9.1 nt tl ts tn := by rw [hm9]; exact qp_wA hq g2
  have s4 : m4.2.1 6 = m.2.1 6 := by rw [hm4]; rfl
  have s9 : m9.2.1 6 = m.2.1 6 := by rw [hm9]; rfl
  have l33 : L_X3_mixAnswers_33 (zI t) 1 (m.2.1 6) t (zI la) m4 fu a 0 = C_X3_mixAnswers_62 (zI t) 1 (m.2.1 6) t (zI la) m4 (ansH w n nt tl ts tn t a) := by
    have e0 := ansH_eq w n nt tl ts tn t a
    rw [← hla] at e0
    rw [← e0]
    refine loop_fo0 (L := fun k2 b i => L_X3_mixAnswers_33 (zI t) 1 (m.2.1 6) t (zI la) m4 k2 b i) (g := mxI (fun j => zI (gt0 (aL w nt tl ts tn t n) j))) (c := C_X3_mixAnswers_62 (zI t) 1 (m.2.1 6) t (zI la) m4) (n := la) ?_ ?_ fu (by rw [fu_eq]; omega) a
    · intro k2 b r hr
      have e := p_answerAt (m := m) (p := r) c2 (by omega) c3
      rw [← hm4, if_pos hr] at e
      have h2 : ¬ la ≤ r := by omega
      simp (discharger := omega) only [L_X3_mixAnswers_33, e, p_mix, h2, bd_e, bo_e, bm_e, bts_l, bts_r, btm_l, btm_r, bp_lt, ck_ib, ck_z, ck_o, ifT, ifF, n10, n01, pv_v, if_pos, if_neg, zI_nat, zI_add, zI_mul, zI_addl, zI_laddl, zI_mull, zI_lmul, zI_subl, zI_pred, zI_le, zI_lt, zI_eq, zI_lel, zI_lle, zI_ltl, zI_llt, zI_eql, zI_leq, zI_ne1, zI_1ne] <;> rfl
    · intro k2 b
      simp (discharger := omega) only [L_X3_mixAnswers_33, Nat.le_refl, bd_e, bo_e, bm_e, bts_l, bts_r, btm_l, btm_r, bp_lt, ck_ib, ck_z, ck_o, ifT, ifF, n10, n01, pv_v, if_pos, if_neg, zI_nat, zI_add, zI_mul, zI_addl, zI_laddl, zI_mull, zI_lmul, zI_subl, zI_pred, zI_le, zI_lt, zI_eq, zI_lel, zI_lle, zI_ltl, zI_llt, zI_eql, zI_leq, zI_ne1, zI_1ne]
  have col := p_columnOf P4.2.2.2.1 i5 ht (l := 0) (by decide)
  rw [s4] at col
  have l77 := cl_three (m := m) (y := m9) (zI t) 1 (m.2.1 6) t la σ g2 c2 c6 (ansH w n nt tl ts tn t a) hm9
  have f5 := (P9.2.2.2.1.2.2.2.2.2.2.1 t ht).2.2.1
  rw [s9] at f5
  have lk := p_looks P9.2.2.2.1 hs9 hA.1 q9 hk ht
  have bs := p_best P9.2.2.2.1 hs9 hA.1 q9 hk ht
  refine ⟨m9, σ, g2, ?_, hm9, by rw [← hla] at c7 c8; unfold goodS; rw [← hla]; exact ⟨c7, c8⟩⟩
  unfold qsH
  rw [← hla]
  simp (discharger := omega) only [F_X3_mixAnswers, hs, c1, J_X3_mixAnswers_28, l33, C_X3_mixAnswers_62, col, c5, bm_someU, l77, C_X3_mixAnswers_105, f5, lk, p_mix, J_X3_mixAnswers_130, J_X3_mixAnswers_156, bs, J_X3_mixAnswers_180, bd_e, bo_e, bm_e, bts_l, bts_r, btm_l, btm_r, bp_lt, ck_ib, ck_z, ck_o, ifT, ifF, n10, n01, pv_v, if_pos, if_neg, zI_nat, zI_add, zI_mul, zI_addl, zI_laddl, zI_mull, zI_lmul, zI_subl, zI_pred, zI_le, zI_lt, zI_eq, zI_lel, zI_lle, zI_ltl, zI_llt, zI_eql, zI_leq, zI_ne1, zI_1ne] <;> rfl
theorem cl_ans0 (hP : PRel m w n k pa nn' L tx) (hA : AInv w n T k pa nn' TT L tx) {t : Nat} (ht : t < 3) (σ : Nat → Nat) (a : Int64) : ∃ (m2 : Mem) (g : Nat → Int32), F_X3_mixAnswers a (zI t) 0 m = some (qsH false w n nt tl ts tn σ t a, m2) ∧ m2 = wA m (0, 0, 0, 4) g := by
  have hs := hP.1 6 (by omega)
  obtain ⟨i1, i2, i3, i4, i5, i6, i7, i8, i9, i10, i11, i12⟩ := id hA.1
  obtain ⟨g2, σ2, c5, c6, -, -⟩ := p_sort (a := 0) (α := fun _ => 0) hP.2.2.2.1 hs hA.1 (cO_isC w t 0) (by omega) (fun i j _ hj => absurd hj (Nat.not_lt_zero j)) (fun j hj => absurd hj (Nat.not_lt_zero j)) (m.1 (0, 0, 0, 4)) (fun j hj => absurd hj (Nat.not_lt_zero j))
  rw [wA_self2] at c5
  obtain ⟨m9, hm9⟩ : ∃ m9, m9 = wA m (0, 0, 0, 4) g2 := ⟨_, rfl⟩
  rw [← hm9] at c5
  have c5' : F_X3_sortAnswers 0 (cO w t 0) m = some ((), m9) := c5
  have l33 : L_X3_mixAnswers_33 (zI t) 0 (m.2.1 6) t 0 m fu a 0 = C_X3_mixAnswers_62 (zI t) 0 (m.2.1 6) t 0 m a := by
    refine loop_fo0 (L := fun k2 b i => L_X3_mixAnswers_33 (zI t) 0 (m.2.1 6) t 0 m k2 b i) (g := fun _ b => b) (c := C_X3_mixAnswers_62 (zI t) 0 (m.2.1 6) t 0 m) (n := 0) ?_ ?_ fu (by rw [fu_eq]; omega) a
    · intro k2 b r hr
      exact absurd hr (Nat.not_lt_zero r)
    · intro k2 b
      have h0 : (0 : Int32) ≤ zI 0 := by decide
      simp (discharger := omega) only [L_X3_mixAnswers_33, h0, bd_e, bo_e, bm_e, bts_l, bts_r, btm_l, btm_r, bp_lt, ck_ib, ck_z, ck_o, ifT, ifF, n10, n01, pv_v, if_pos, if_neg, zI_nat, zI_add, zI_mul, zI_addl, zI_laddl, zI_mull, zI_lmul, zI_subl, zI_pred, zI_le, zI_lt, zI_eq, zI_lel, zI_lle, zI_ltl, zI_llt, zI_eql, zI_leq, zI_ne1, zI_1ne]
  have col := p_columnOf hP.2.2.2.1 i5 ht (l := 0) (by decide)
  have l77 := cl_three (m := m) (y := m9) (zI t) 0 (m.2.1 6) t 0 σ g2 (by omega) (fun j hj => absurd hj (Nat.not_lt_zero j)) a hm9
  have l77' : L_X3_mixAnswers_77 (zI t) 0 (m.2.1 6) t 0 m9 fu a 0 = C_X3_mixAnswers_105 (zI t) 0 (m.2.1 6) t m9 (fo (mxI (fun p => if p < 0 then zI (σ p) else -1)) 3 a) := l77
  have m1 : Int32.toInt64 (-1) = -1 := by decide
  have ef : fo (mxI (fun p => if p < 0 then zI (σ p) else -1)) 3 a = fo (mxI (fun _ => -1)) 3 a := fo_congr (fun r b _ => by
    simp only [mxI]
    rw [if_neg (Nat.not_lt_zero r)])
  rw [ef] at l77'
  have q0 : qsH false w n nt tl ts tn σ t a = 31 * (31 * (31 * fo (mxI (fun _ => -1)) 3 a + -1) + -1) + -1 := by
    unfold qsH
    simp only [Bool.false_eq_true, ifF, m1]
  refine ⟨m9, g2, ?_, hm9⟩
  rw [q0]
  simp (discharger := omega) only [F_X3_mixAnswers, hs, J_X3_mixAnswers_28, l33, C_X3_mixAnswers_62, col, c5', bm_someU, l77', C_X3_mixAnswers_105, p_mix, J_X3_mixAnswers_130, J_X3_mixAnswers_156, J_X3_mixAnswers_180, bd_e, bo_e, bm_e, bts_l, bts_r, btm_l, btm_r, bp_lt, ck_ib, ck_z, ck_o, ifT, ifF, n10, n01, pv_v, if_pos, if_neg, zI_nat, zI_add, zI_mul, zI_addl, zI_laddl, zI_mull, zI_lmul, zI_subl, zI_pred, zI_le, zI_lt, zI_eq, zI_lel, zI_lle, zI_ltl, zI_llt, zI_eql, zI_leq, zI_ne1, zI_1ne]
end QZ
