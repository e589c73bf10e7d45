/-! digest, both sides -/
section RB
variable {m mi x : Mem} {n k L T nt : Nat} {w tx tl ts tn : Nat → Int32} {pa : Nat → Nat → Int32} {nn' TT : Nat → Nat}
theorem cl_text (hP : PRel m w n k pa nn' L tx) (hL : L ≤ 40) (a : Int64) : L_X3_digest_139 m fu a 0 = some (fo (mxI tx) L a, m) := by
  obtain ⟨g1, g2, g3, g4, g5, g6, g7⟩ := hP
  refine loop_fo0 (L := fun k2 a i => L_X3_digest_139 m k2 a i) (g := mxI tx) (c := fun b => some (b, m)) (n := L) ?_ ?_ fu (by rw [fu_eq]; omega) a
  · intro k3 b r hr
    have e := g7 r hr
    have h1 : ¬ L ≤ r := by omega
    have h2 : ¬ 40 ≤ r := by omega
    simp (discharger := omega) only [L_X3_digest_139, g6, h1, h2, e, p_mix, bd_e, bo_e, bm_e, bts_l, bts_r, btm_l, btm_r, bp_lt, ck_ib, ck_z, ck_o, ifT, ifF, n10, n01, pv_v, if_pos, if_neg, zI_nat, zI_add, zI_mul, zI_addl, zI_laddl, zI_mull, zI_lmul, zI_subl, zI_pred, zI_le, zI_lt, zI_eq, zI_lel, zI_lle, zI_ltl, zI_llt, zI_eql, zI_leq, zI_ne1, zI_1ne] <;> rfl
  · intro k3 b
    simp (discharger := omega) only [L_X3_digest_139, C_X3_digest_174, g6, Nat.le_refl, bd_e, bo_e, bm_e, bts_l, bts_r, btm_l, btm_r, bp_lt, ck_ib, ck_z, ck_o, ifT, ifF, n10, n01, pv_v, if_pos, if_neg, zI_nat, zI_add, zI_mul, zI_addl, zI_laddl, zI_mull, zI_lmul, zI_subl, zI_pred, zI_le, zI_lt, zI_eq, zI_lel, zI_lle, zI_ltl, zI_llt, zI_eql, zI_leq, zI_ne1, zI_1ne]
theorem cl_tail (hP : PRel m w n k pa nn' L tx) (hI : WI w n T) (hL : L ≤ 40) (a : Int64) : C_X3_digest_114 a m = some (fo (mxI tx) L (31 * (31 * a + UInt64.toInt64 (shV w T)) + Int32.toInt64 (zI L)), m) := by
  have hs := hP.1 6 (by omega)
  have e1 := p_share hP.2.2.2.1 hs hI
  have e2 := p_bits hI m
  have e3 := cl_text hP hL (31 * (31 * a + UInt64.toInt64 (shV w T)) + Int32.toInt64 (zI L))
  have g6 := hP.2.2.2.2.2.1
  simp (discharger := omega) only [C_X3_digest_114, e1, e2, p_mix, g6, e3, bd_e, bo_e, bm_e, bts_l, bts_r, btm_l, btm_r, bp_lt, ck_ib, ck_z, ck_o, ifT, ifF, n10, n01, pv_v, if_pos, if_neg, zI_nat, zI_add, zI_mul, zI_addl, zI_laddl, zI_mull, zI_lmul, zI_subl, zI_pred, zI_le, zI_lt, zI_eq, zI_lel, zI_lle, zI_ltl, zI_llt, zI_eql, zI_leq, zI_ne1, zI_1ne]
theorem cl_ten (b : Bool) (v5 : Int32) (hb : v5 = if b = true then 1 else 0) (hP : PRel m w n k pa nn' L tx) (hA : AInv w n T k pa nn' TT L tx) (hq : b = true → QP m.1 nt tl ts tn) (hK : b = true → TK nt tl ts tn) (a : Int64) : ∃ (σs : Nat → Nat → Nat) (m2 : Mem), L_X3_digest_85 v5 fu a 0 m = C_X3_digest_114 (fo (fun t a => qsH b w n nt tl ts tn (σs t) t (tenH w n t a)) 3 a) m2 ∧ PRel m2 w n k pa nn' L tx ∧ FrP m m2 ∧ (b = true → ∀ t, t < 3 → goodS w n nt tl ts tn (σs t) t) := by
  refine loop_ex (L := fun k2 (x : Int64 × Mem) i => L_X3_digest_85 v5 k2 x.1 i x.2) (P := fun j x => ∃ (σs : Nat → Nat → Nat), x.1 = fo (fun t a => qsH b w n nt tl ts tn (σs t) t (tenH w n t a)) j a ∧ PRel x.2 w n k pa nn' L tx ∧ FrP m x.2 ∧ (b = true → QP x.2.1 nt tl ts tn) ∧ (b = true → ∀ t, t < j → goodS w n nt tl ts tn (σs t) t)) (R := fun o => ∃ (σs : Nat → Nat → Nat) (m2 : Mem), o = C_X3_digest_114 (fo (fun t a => qsH b w n nt tl ts tn (σs t) t (tenH w n t a)) 3 a) m2 ∧ PRel m2 w n k pa nn' L tx ∧ FrP m m2 ∧ (b = true → ∀ t, t < 3 → goodS w n nt tl ts tn (σs t) t)) (n := 3) ?_ ?_ 3 0 fu (a, m) (by omega) (by rw [fu_eq]; omega) ⟨fun _ _ => 0, rfl, hP, frp_rf m, hq, fun _ t ht => absurd ht (Nat.not_lt_zero t)⟩
  · rintro k2 ⟨h, y⟩ t ht ⟨σs, p1, p2, p3, p4, p5⟩
    simp only at p1 p2 p3 p4 p5
    refine Or.inl ?_
    have n3 : ¬ (3 : Int32) ≤ zI t := by show ¬ zI 3 ≤ zI t; rw [zI_le (by omega) (by omega)]; omega
    have e1 := cl_tenant p2 hA.1 ht h
    cases b with
    | true =>
      rw [if_pos rfl] at hb
      obtain ⟨m2, σ, g, c1, c2, c3⟩ := cl_ans1 p2 hA (p4 rfl) (hK rfl) ht (tenH w n t h)
      obtain ⟨r1, r2⟩ := prel_4 p2 hA.2.1 g
      rw [← c2] at r1 r2
      refine ⟨(qsH true w n nt tl ts tn σ t (tenH w n t h), m2), ⟨fun t2 => if t2 = t then σ else σs t2, ?_, r1, frp_tr p3 r2, fun _ => by rw [c2]; exact qp_wA (p4 rfl) g, fun _ t2 h2 => ?_⟩, ?_⟩
      · show _ = qsH true w n nt tl ts tn (if t = t then σ else σs t) t (tenH w n t (fo (fun t1 a => qsH true w n nt tl ts tn (if t1 = t then σ else σs t1) t1 (tenH w n t1 a)) t a))
        rw [if_pos rfl, p1]
        have e : fo (fun t1 a => qsH true w n nt tl ts tn (if t1 = t then σ else σs t1) t1 (tenH w n t1 a)) t a = fo (fun t1 a => qsH true w n nt tl ts tn (σs t1) t1 (tenH w n t1 a)) t a := fo_congr (fun r b2 hr => by rw [if_neg (show ¬ r = t by omega)])
        rw [e]
      · show goodS w n nt tl ts tn (if t2 = t then σ else σs t2) t2
        by_cases e : t2 = t
        · rw [if_pos e, e]; exact c3
        · rw [if_neg e]; exact p5 rfl t2 (by omega)
      · rw [L_X3_digest_85, if_neg n3, e1, bo_e, hb, c1, bm_e, bd_e, zI_addl]
    | false =>
      rw [if_neg Bool.false_ne_true] at hb
      obtain ⟨m2, g, c1, c2⟩ := cl_ans0 (nt := nt) (tl := tl) (ts := ts) (tn := tn) p2 hA ht (σs t) (tenH w n t h)
      obtain ⟨r1, r2⟩ := prel_4 p2 hA.2.1 g
      rw [← c2] at r1 r2
      refine ⟨(qsH false w n nt tl ts tn (σs t) t (tenH w n t h), m2), ⟨σs, by rw [p1]; rfl, r1, frp_tr p3 r2, fun h => absurd h Bool.false_ne_true, fun h => absurd h Bool.false_ne_true⟩, ?_⟩
      rw [L_X3_digest_85, if_neg n3, e1, bo_e, hb, c1, bm_e, bd_e, zI_addl]
  · rintro k2 ⟨h, y⟩ ⟨σs, p1, p2, p3, p4, p5⟩
    simp only at p1 p2 p3 p4 p5
    refine ⟨σs, y, ?_, p2, p3, p5⟩
    have y3 : (3 : Int32) ≤ zI 3 := by decide
    rw [L_X3_digest_85, if_pos y3, p1]
theorem dig_both (b : Bool) (v5 : Int32) (hb : v5 = if b = true then 1 else 0) (hP : PRel m w n k pa nn' L tx) (hM : MRel m w k pa L tx) (hA : AInv w n T k pa nn' TT L tx) (hK : b = true → TK nt tl ts tn) (hp : ∃ m2, F_X3_readQuestion m = some (v5, m2) ∧ FrQ m m2 ∧ (b = true → QP m2.1 nt tl ts tn)) (hm : ∀ x, MRel x w k pa L tx → ∃ x2, F_X4_isText x = some (v5, x2) ∧ FrX x x2 ∧ (b = true → QM x2.1 nt tl ts tn)) : ∃ v m1 m2, F_X3_digest m = some (v, m1) ∧ F_X4_digest m1 = some (v, m2) ∧ St m2 := by
  obtain ⟨m6, o1, o2, o3⟩ := hp
  obtain ⟨P6, F6⟩ := prel_frq hP o2
  have hL := hA.2.2.2.1
  obtain ⟨σs, m7, c1, c2, c3, c4⟩ := cl_ten b v5 hb P6 hA o3 hK (rowH w n (fo (mxI (cntT w n T (zI k))) 8 3049))
  have e1 : F_X3_digest m = some (digV b w n T k nt tl ts tn σs L tx, m7) := by
    rw [cl_count hP hA.1, cl_rows hP hA.1]
    unfold C_X3_digest_77
    rw [o1, bm_e, c1, cl_tail c2 hA.1 hL]
    rfl
  have M7 := mrel_frp hM (frp_tr F6 c3)
  obtain ⟨x2, z1, z2, z3⟩ := hm _ (mrel_6 M7 0)
  obtain ⟨r1, r2⟩ := mrel_frx (mrel_6 M7 0) z2
  have hW := mw_of r1 hA.1
  have e2 : F_X4_digest m7 = some (digV b w n T k nt tl ts tn σs L tx, x2) := by
    unfold F_X4_digest
    rw [bd_e, z1, bm_e, md_head v5 hW hA.1 r1.2.1, md_loop b v5 hb r1 hA z3 hK σs c4, md_tail r1 hA.1 hL]
    rfl
  exact ⟨_, m7, x2, e1, e2, st_mk c2 hA r1 (eqw_rf n w) (frm_tr (frm_wI rfl m7 6 0) r2)⟩
theorem call_digest (h : St mi) : ∃ v m1 m2, F_X3_digest mi = some (v, m1) ∧ F_X4_digest m1 = some (v, m2) ∧ St m2 := by
  obtain ⟨w, n, T, k, pa, nn, TT, L, tx, hP, hM, hA⟩ := h
  rcases quest hA with ⟨nt, tl, ts, tn, hK, qp, qm⟩ | ⟨qp, qm⟩
  · refine dig_both (nt := nt) (tl := tl) (ts := ts) (tn := tn) true 1 rfl hP hM hA (fun _ => hK) ?_ (fun x hx => ?_)
    · obtain ⟨m2, o1, o2, o3⟩ := qp mi hP
      exact ⟨m2, o1, o2, fun _ => o3⟩
    · obtain ⟨x2, o1, o2, o3⟩ := qm x hx
      exact ⟨x2, o1, o2, fun _ => o3⟩
  · refine dig_both (nt := 0) (tl := fun _ => 0) (ts := fun _ => 0) (tn := fun _ => 0) false 0 rfl hP hM hA (fun h => absurd h Bool.false_ne_true) ?_ (fun x hx => ?_)
    · obtain ⟨m2, o1, o2⟩ := qp mi hP
      exact ⟨m2, o1, o2, fun h => absurd h Bool.false_ne_true⟩
    · obtain ⟨x2, o1, o2⟩ := qm x hx
      exact ⟨x2, o1, o2, fun h => absurd h Bool.false_ne_true⟩
end RB
