/-! row; what depends on the cells below 1162 alone; ask, undo *-/
section RD
variable {m m2 mi : Mem} {n k L T t l r c nt : Nat} {w w1 w2 tx tl ts tn : Nat → Int32} {pa : Nat → Nat → Int32} {nn TT : Nat → Nat}
theorem s_row (h : IS mi w n T k pa nn TT L tx) (ht : t < 3) : SOut (F_X3_row (zI t) mi) (fun v _ n2 => (v < 0 ∧ n2 = n) ∨ (0 ≤ v ∧ n2 = n + 1)) w n T k pa nn TT L tx := by
  obtain ⟨hP, hA, hJ, hp⟩ := h
  have hkk := svK_le hA.2.1
  obtain ⟨i1, i2, i3, i4, i5, i6, i7, i8, i9, i10, i11, i12, i13⟩ := id hA.1
  obtain ⟨q5, m2, e1, e2, e3, e4, e5, e6, e7, e8⟩ := p_save hP hA.2.1 i9 i7
  have hs2 := e5.1 6 (by omega)
  have f3 := (e5.2.2.2.1.2.2.2.2.2.2.1 t ht).1
  have f5 := (e5.2.2.2.1.2.2.2.2.2.2.1 t ht).2.2.1
  have fr := p_rowsOf2 e5.2.2.2.1 ht
  have ftr := p_tableRows e5.2.2.2.1 i7
  have hT := inTb_T i3 i7 i8
  have eo := own_cn w n t
  obtain ⟨lm, hlm, elm⟩ := i10 t ht
  have hcl := cn_le (fun r => decide (w (9 * r) = zI t)) n
  by_cases hlt : rwsOf w n t < w (1153 + t)
  · have hlt2 : cn (fun r => decide (w (9 * r) = zI t)) n < lm := by
      rw [eo, elm, zI_lt (by omega) (by omega)] at hlt
      exact hlt
    have rt : ∀ t2, t2 < 3 → cn (fun r => decide (w (9 * r) = zI t2)) n ≤ 40 := fun t2 h2 => by
      have := rt_cn hA.1 h2
      rw [cn_range] at this
      exact this
    have hn : n < 120 := by
      have h0 := own_sum w n i3 i1
      have r0 := rt 0 (by omega)
      have r1 := rt 1 (by omega)
      have r2 := rt 2 (by omega)
      rcases (show t = 0 ∨ t = 1 ∨ t = 2 by omega) with rfl | rfl | rfl <;> omega
    have fin : (w (1159 + t) = 0 → T < 40) → F_X3_row (zI t) mi = J_X3_row_68 (zI t) m2 → SOut (F_X3_row (zI t) mi) (fun v _ n2 => (v < 0 ∧ n2 = n) ∨ (0 ≤ v ∧ n2 = n + 1)) w n T k pa nn TT L tx := by
      intro hT40 hF
      obtain ⟨p, p1, p2, p3, p4⟩ := p_place e5.2.2.2.1 i13 ht
      obtain ⟨m5, c1, c2, c3, c4, c5, c6⟩ := p_insert e5.2.2.2.1 hn p1 ht
      obtain ⟨w1, hw1⟩ : ∃ w1, w1 = nwW w n t := ⟨_, rfl⟩
      have wr : ∀ i, i < 9 * n → w1 i = w i := fun i hi => by
        rw [hw1]; unfold nwW
        rw [if_neg (by omega), if_neg (by omega), if_neg (by omega)]
      have wn : w1 (9 * n) = zI t := by
        rw [hw1]; unfold nwW
        rw [if_neg (by omega), if_pos rfl]
      have wv : ∀ c, c < 8 → w1 (9 * n + 1 + c) = -100000 := fun c hc => by
        rw [hw1]; unfold nwW
        rw [if_neg (by omega), if_neg (by omega), if_pos (by omega)]
      have wh : ∀ i, 1080 < i → w1 i = w i := fun i hi => by
        rw [hw1]; unfold nwW
        rw [if_neg (by omega), if_neg (by omega), if_neg (by omega)]
      have w80 : w1 1080 = zI (n + 1) := by
        rw [hw1]; unfold nwW
        rw [if_pos rfl]
      have oV : OW w1 (n + 1) := fun r hr => by
        by_cases e : r = n
        · rw [e, wn]; exact ⟨t, ht, rfl⟩
        · rw [wr _ (by omega)]; exact i3 r (by omega)
      have mV : MV w1 := fun t2 h2 => by rw [wh _ (by omega)]; exact i7 t2 h2
      have md : ∀ r, r < n → mvd w1 r = mvd w r := fun r hr => by
        obtain ⟨t2, h2, how⟩ := i3 r hr
        rw [mvd_of h2 how, mvd_of h2 (by rw [wr _ (by omega)]; exact how), wh _ (by omega)]
      have cl : ∀ r, r < n → cls w1 r = cls w r := fun r hr => by
        unfold cls
        rw [md r hr, wr _ (by omega)]
      have cln : cls w1 n = tcl w t := by
        rw [cls_own ht wn]
        unfold tcl
        rw [wh _ (by omega)]
      have hsl : slp (cls w1) (n + 1) 4 = inL p n := inL_slp p1 (fun r hr => cls_lt oV hr) (fun a b h1 h2 => by rw [cl a (by omega), cl b h2]; exact i13 a b h1 h2) (fun r hr => by rw [cl r (by omega), cln]; exact p2 r hr) (fun r h1 h2 => by rw [cl r h2, cln]; exact p3 r h1 h2)
      have hlen := inL_len p1
      have gl : ∀ i, i < (inL p n).length → gt0 (inL p n) i = if i < p then i else if i = p then n else i - 1 := fun i hi => inL_gt p1 (by omega)
      have gm : ∀ i, i < (inL p n).length → gt0 (inL p n) i < n + 1 := fun i hi => by
        rw [gl i hi]
        by_cases a : i < p
        · rw [if_pos a]; omega
        · rw [if_neg a]
          by_cases b : i = p
          · rw [if_pos b]; omega
          · rw [if_neg b]; omega
      have S5 : SR m5.1 (m2.2.1 6) (lsW (inL p n) w1) (inL p n).length := by
        refine sr_list2 (n0 := n + 1) e5.2.2.2.1 (fun i h1 _ => wh i h1) oV (by omega) gm (by rw [c4, hlen]) (fun i hi => ?_) (fun i hi c hc => ?_) c3
        · rw [c5 i (by omega), gl i hi]
          by_cases a : i < p
          · rw [if_pos a, if_pos a, wr _ (by omega)]
          · rw [if_neg a, if_neg a]
            by_cases b : i = p
            · rw [if_pos b, if_pos b, wn]
            · rw [if_neg b, if_neg b, wr _ (by omega)]
        · rw [c6 i (by omega) c hc, gl i hi]
          by_cases a : i < p
          · rw [if_pos a, if_pos a, wr _ (by omega)]
          · rw [if_neg a, if_neg a]
            by_cases b : i = p
            · rw [if_pos b, if_pos b, wv c hc]; rfl
            · rw [if_neg b, if_neg b, wr _ (by omega)]
      obtain ⟨r1, r2⟩ := e5.step hkk.1 c2 S5
      have vS : VS w1 (n + 1) := fun r hr c hc => by
        by_cases e : r = n
        · rw [e, wv c hc]; exact Or.inl rfl
        · rw [wr _ (by omega)]; exact i4 r (by omega) c hc
      have hso : ∀ i j, i < j → j < (inL p n).length → cls w1 (gt0 (inL p n) i) ≤ cls w1 (gt0 (inL p n) j) := by
        intro i j hij hj
        have h2 := List.pairwise_iff_getElem.mp (slp_sorted (cls w1) (n + 1) 4) i j (by rw [hsl]; omega) (by rw [hsl]; exact hj) hij
        simp only [hsl] at h2
        unfold gt0
        rw [List.getD_eq_getElem?_getD, List.getElem?_eq_getElem (by omega), List.getD_eq_getElem?_getD, List.getElem?_eq_getElem hj]
        exact h2
      have cnt : ∀ P : Nat → Bool, (inL p n).countP P = cn P n + (if P n = true then 1 else 0) := fun P => by
        rw [(inL_perm p1).countP_eq, cn_range]; rfl
      obtain ⟨T2, hW⟩ := wi_list (l := inL p n) oV vS (fun t1 h1 c hc c2 hc2 => by
          rw [wh (1081 + 8 * t1 + c) (by omega), wh (1081 + 8 * t1 + c2) (by omega)]; exact i5 t1 h1 c hc c2 hc2) (fun t1 h1 c hc => by rw [wh _ (by omega)]; exact i6 t1 h1 c hc) mV (fun t1 h1 c hc => by rw [wh _ (by omega)]; exact i9 t1 h1 c hc) (fun t1 h1 => by rw [wh _ (by omega)]; exact i10 t1 h1) (by omega) gm hso (fun t1 h1 => by
          rw [cnt, cn_congr (q := fun r => decide (w (9 * r) = zI t1)) (fun r hr => by rw [wr _ (by omega)]), wn]
          by_cases e : t = t1
          · rw [← e, if_pos (decide_eq_true rfl)]; omega
          · rw [if_neg (by rw [decide_eq_true_eq, zI_eq (by omega) (by omega)]; exact e)]
            exact rt t1 h1) (by
          rw [cnt, cn_congr (q := fun r => decide (mvd w r = 0)) (fun r hr => by rw [md r hr]), t_cn hA.1, mvd_of ht wn, wh _ (by omega)]
          by_cases e : w (1159 + t) = 0
          · have := hT40 e
            rw [e, if_pos (decide_eq_true rfl)]; omega
          · rw [if_neg (by rw [decide_eq_true_eq]; exact e)]; exact i12)
      have e : F_X3_row (zI t) mi = some (.inl (zI p), m5) := by
        rw [hF]
        have en := e5.2.2.2.1.2.2.1
        have ei : F_X1_insertRow (m2.2.1 6) (zI t) m2 = some (zI p, m5) := by
          unfold F_X1_insertRow
          rw [en, bd_e, if_pos (by show zI n < zI 120; rw [zI_lt (by omega) (by omega)]; exact hn), p4, c1]
        simp (discharger := omega) only [J_X3_row_68, hs2, ei, bd_e, bo_e, bm_e, bts_l, bts_r, btm_l, btm_r, bp_lt, ck_ib, ck_z, ck_o, ifT, ifF, n10, n01, pv_v, if_pos, if_neg, zI_nat, zI_add, zI_mul, zI_addl, zI_laddl, zI_mull, zI_lmul, zI_subl, zI_pred, zI_le, zI_lt, zI_eq, zI_lel, zI_lle, zI_ltl, zI_llt, zI_eql, zI_leq, zI_ne1, zI_1ne]
      have jv1 : JV w1 (n + 1) := by
        refine ⟨fun r hr t1 h1 ho c2 hc2 => ?_, fun t1 h1 c2 hc2 hl2 => ?_, fun t1 h1 => ?_⟩
        · by_cases e : r = n
          · subst e
            exact Or.inl (wv c2 hc2)
          · rw [wr _ (by omega)] at ho
            rw [wr (9 * r + 1 + c2) (by omega), wh (1081 + 8 * t1 + c2) (by omega), wh (1105 + 8 * t1 + c2) (by omega)]
            exact hJ.1 r (by omega) t1 h1 ho c2 hc2
        · rw [wh _ (by omega)] at hl2
          rw [wh _ (by omega)]
          exact hJ.2.1 t1 h1 c2 hc2 hl2
        · rw [wh _ (by omega)]
          exact hJ.2.2 t1 h1
      exact so_val hA hJ hp e r1 hW (jv_list jv1 (by omega) gm) (Or.inr ⟨m1_le (by omega), (rfs_list w1 (by omega)).trans (rfs_eq (fun i h1 h2 => wh i (by omega)))⟩) (Or.inr ⟨zI_le0 (by omega), hlen⟩)
    rcases i7 t ht with hv | hv
    · by_cases hT4 : T < 40
      · have c40 : inTb w n < 40 := by rw [hT]; show _ < zI 40; rw [zI_lt (by omega) (by omega)]; exact hT4
        refine fin (fun _ => hT4) ?_
        rw [hv] at f5
        simp (discharger := omega) only [F_X3_row, p_isT ht, p_req1, e1, e2, hs2, fr, f3, hlt, f5, ftr, c40, bd_e, bo_e, bm_e, bts_l, bts_r, btm_l, btm_r, bp_lt, ck_ib, ck_z, ck_o, ifT, ifF, n10, n01, pv_v, if_pos, if_neg, zI_nat, zI_add, zI_mul, zI_addl, zI_laddl, zI_mull, zI_lmul, zI_subl, zI_pred, zI_le, zI_lt, zI_eq, zI_lel, zI_lle, zI_ltl, zI_llt, zI_eql, zI_leq, zI_ne1, zI_1ne]
      · have c40 : ¬ inTb w n < 40 := by rw [hT]; show ¬ _ < zI 40; rw [zI_lt (by omega) (by omega)]; exact hT4
        refine so_refuse hA hJ hp ht 2 (by decide) e5 rfl (fun m3 z => ?_) (Or.inl ⟨by decide, rfl⟩)
        rw [hv] at f5
        simp (discharger := omega) only [F_X3_row, p_isT ht, p_req1, e1, e2, hs2, fr, f3, hlt, f5, ftr, c40, z, bd_e, bo_e, bm_e, bts_l, bts_r, btm_l, btm_r, bp_lt, ck_ib, ck_z, ck_o, ifT, ifF, n10, n01, pv_v, if_pos, if_neg, zI_nat, zI_add, zI_mul, zI_addl, zI_laddl, zI_mull, zI_lmul, zI_subl, zI_pred, zI_le, zI_lt, zI_eq, zI_lel, zI_lle, zI_ltl, zI_llt, zI_eql, zI_leq, zI_ne1, zI_1ne]
    · have hv0 : ¬ w (1159 + t) = 0 := by rw [hv]; decide
      refine fin (fun h => absurd h hv0) ?_
      rw [hv] at f5
      simp (discharger := omega) only [F_X3_row, p_isT ht, p_req1, e1, e2, hs2, fr, f3, hlt, f5, bd_e, bo_e, bm_e, bts_l, bts_r, btm_l, btm_r, bp_lt, ck_ib, ck_z, ck_o, ifT, ifF, n10, n01, pv_v, if_pos, if_neg, zI_nat, zI_add, zI_mul, zI_addl, zI_laddl, zI_mull, zI_lmul, zI_subl, zI_pred, zI_le, zI_lt, zI_eq, zI_lel, zI_lle, zI_ltl, zI_llt, zI_eql, zI_leq, zI_ne1, zI_1ne]
  · refine so_refuse hA hJ hp ht 1 (by decide) e5 rfl (fun m3 z => ?_) (Or.inl ⟨by decide, rfl⟩)
    simp (discharger := omega) only [F_X3_row, p_isT ht, p_req1, e1, e2, hs2, fr, f3, hlt, z, bd_e, bo_e, bm_e, bts_l, bts_r, btm_l, btm_r, bp_lt, ck_ib, ck_z, ck_o, ifT, ifF, n10, n01, pv_v, if_pos, if_neg, zI_nat, zI_add, zI_mul, zI_addl, zI_laddl, zI_mull, zI_lmul, zI_subl, zI_pred, zI_le, zI_lt, zI_eq, zI_lel, zI_lle, zI_ltl, zI_llt, zI_eql, zI_leq, zI_ne1, zI_1ne]
-- what depends on the cells below 1162 alone
def LC (w w2 : Nat → Int32) : Prop := ∀ i, i < 1162 → w2 i = w i
theorem vl_lc (h : LC w w2) {r : Nat} (hr : r < 120) {c : Int32} (hc : isC c) : vl w2 r c = vl w r c := by
  rcases hc with rfl | ⟨k, hk, rfl⟩
  · rfl
  · rw [vl_c w2 r hk, vl_c w r hk, h _ (by omega)]
theorem cO_lc (h : LC w w2) {t : Nat} (ht : t < 3) (l : Int32) : cO w2 t l = cO w t l := by
  unfold cO
  exact fo_congr (fun c b hc => by rw [h _ (by omega)])
theorem rwsOf_lc (h : LC w w2) {n : Nat} (hn : n ≤ 120) (t : Nat) : rwsOf w2 n t = rwsOf w n t := by
  unfold rwsOf
  exact sg_congr (fun r hr => by rw [h _ (by omega)])
theorem inTb_lc (h : LC w w2) {n : Nat} (hn : n ≤ 120) : inTb w2 n = inTb w n := by
  unfold inTb
  exact sg_congr (fun t ht => by rw [h _ (by omega), rwsOf_lc h hn])
theorem rwsWith_lc (h : LC w w2) {n : Nat} (hn : n ≤ 120) (t : Nat) {c : Int32} (hc : isC c) (v : Int32) : rwsWith w2 n t c v = rwsWith w n t c v := by
  unfold rwsWith
  exact sg_congr (fun r hr => by rw [h _ (by omega), vl_lc h (by omega) hc])
theorem cdP_lc (h : LC w w2) (ht : t < 3) (lm : Int32) (j : Nat) : cdP w2 tl ts t lm j = cdP w tl ts t lm j := by
  unfold cdP
  rw [cO_lc h ht]
  rcases cO_isC w t (tl j) with e | ⟨c, hc, e⟩
  · rw [e]; simp
  · rw [e, zI_nat (by omega), h _ (by omega)]
theorem lkT_lc (h : LC w w2) (hn : n ≤ 120) (ht : t < 3) (b lm : Int32) : lkT w2 n nt tl ts tn t b lm = lkT w n nt tl ts tn t b lm := by
  unfold lkT
  rw [rwsOf_lc h hn]
  by_cases hb : b = 0
  · rw [if_pos hb, if_pos hb]
    unfold lkP
    rw [inTb_lc h hn]
    refine fo_congr (fun j a _ => ?_)
    unfold lkS itK
    rw [cdP_lc h ht, cO_lc h ht, rwsWith_lc h hn t (cO_isC w t (tl j))]
  · rw [if_neg hb, if_neg hb]
theorem s_ask (h : IS mi w n T k pa nn TT L tx) (ht : t < 3) (hK : TK nt tl ts tn) (qp : ∀ m, PRel m w n k pa nn L tx → ∃ m2, F_X3_readQuestion m = some (1, m2) ∧ FrQ m m2 ∧ QP m2.1 nt tl ts tn) :
    SOut (F_X3_ask (zI t) mi) (fun v w2 n2 => n2 = n ∧ v = zI (aL w nt tl ts tn t n).length ∧ LC w w2 ∧ w2 (1165 + t) = w (1165 + t) + lkT w n nt tl ts tn t (w (1159 + t)) (-1)) w n T k pa nn TT L tx := by
  obtain ⟨hP, hA, hJ, hp⟩ := h
  obtain ⟨m3, o1, o2, hQ⟩ := qp mi hP
  obtain ⟨hP3, hF3⟩ := prel_frq hP o2
  have hkk := svK_le hA.2.1
  obtain ⟨i1, i2, i3, i4, i5, i6, i7, i8, i9, i10, i11, i12⟩ := id hA.1
  obtain ⟨q5, m6, e1, e2, e3, e4, e5, e6, e7, e8⟩ := p_save hP3 hA.2.1 i9 i7
  have hs6 := e5.1 6 (by omega)
  have hQ6 := qp_sv hQ e8
  obtain ⟨g, c1, -⟩ := p_collect e5.2.2.2.1 hs6 hA.1 hQ6 hK ht
  obtain ⟨a, ha⟩ : ∃ a, a = (aL w nt tl ts tn t n).length := ⟨_, rfl⟩
  have hle := aL_len w nt tl ts tn t n
  rw [← ha] at c1 hle
  obtain ⟨m10, hm10⟩ : ∃ m10, m10 = wA m6 (0, 0, 0, 4) g := ⟨_, rfl⟩
  rw [← hm10] at c1
  have F10 : FrT (m6.2.1 6) m6 m10 := by rw [hm10]; exact frt_wA (wr4 _) m6 g
  have S10 : SR m10.1 (m6.2.1 6) w n := by rw [hm10]; exact sr_wA e5.2.2.2.1 4 g
  have s10 : m10.2.1 6 = m6.2.1 6 := by rw [F10.2]
  obtain ⟨w1, hw1⟩ : ∃ w1, w1 = upd w (1162 + t) (w (1162 + t) + 1) := ⟨_, rfl⟩
  have C1 : LC w w1 := fun i hi => by rw [hw1]; exact upd_ne _ (by omega) _
  obtain ⟨m13, hm13⟩ : ∃ m13, m13 = wI m10 (2, m6.2.1 6, t, 0) 6 (w (1162 + t) + 1) := ⟨_, rfl⟩
  have F13 : FrT (m6.2.1 6) m6 m13 := by rw [hm13]; exact F10.tr (frt_wI (wr2 _ _ _) m10 6 _)
  have S13 : SR m13.1 (m6.2.1 6) w1 n := by rw [hm13, hw1]; exact sr_field S10 ht (j := 6) (by omega) (by omega) _
  have s13 : m13.2.1 6 = m6.2.1 6 := by rw [F13.2]
  have I1 : WI w1 n T := by rw [hw1]; exact wi_low hA.1 (fun i hi => upd_ne _ (by omega) _)
  have lk := p_looks (m := m13) (by rw [s13]; exact S13) (by rw [s13]; exact hs6) I1 (qp_frt hQ6 F13) hK ht (w1 (1159 + t)) (-1)
  obtain ⟨lv, hlv⟩ : ∃ lv, lv = lkT w1 n nt tl ts tn t (w1 (1159 + t)) (-1) := ⟨_, rfl⟩
  rw [← hlv] at lk
  obtain ⟨w2, hw2⟩ : ∃ w2, w2 = upd w1 (1165 + t) (w1 (1165 + t) + lv) := ⟨_, rfl⟩
  obtain ⟨m18, hm18⟩ : ∃ m18, m18 = wI m13 (2, m6.2.1 6, t, 0) 7 (w1 (1165 + t) + lv) := ⟨_, rfl⟩
  have F18 : FrT (m6.2.1 6) m6 m18 := by rw [hm18]; exact F13.tr (frt_wI (wr2 _ _ _) m13 7 _)
  have S18 : SR m18.1 (m6.2.1 6) w2 n := by rw [hm18, hw2]; exact sr_field S13 ht (j := 7) (by omega) (by omega) _
  obtain ⟨w3, hw3⟩ : ∃ w3, w3 = upd w2 (1168 + t) (w2 (1168 + t) + zI a) := ⟨_, rfl⟩
  obtain ⟨m21, hm21⟩ : ∃ m21, m21 = wI m18 (2, m6.2.1 6, t, 0) 8 (w2 (1168 + t) + zI a) := ⟨_, rfl⟩
  have F21 : FrT (m6.2.1 6) m6 m21 := by rw [hm21]; exact F18.tr (frt_wI (wr2 _ _ _) m18 8 _)
  have S21 : SR m21.1 (m6.2.1 6) w3 n := by rw [hm21, hw3]; exact sr_field S18 ht (j := 8) (by omega) (by omega) _
  have f6 := (S10.2.2.2.2.2.2.1 t ht).2.2.2.1
  have f7 := (S13.2.2.2.2.2.2.1 t ht).2.2.2.2.1
  have f5 := (S13.2.2.2.2.2.2.1 t ht).2.2.1
  have f8 := (S18.2.2.2.2.2.2.1 t ht).2.2.2.2.2.1
  have e : F_X3_ask (zI t) mi = some (.inl (zI a), m21) := by
    simp (discharger := omega) only [F_X3_ask, p_isT ht, o1, J_X3_ask_19, p_req1, e1, e2, hs6, c1, f6, bd_e, bo_e, bm_e, bts_l, bts_r, btm_l, btm_r, bp_lt, ck_ib, ck_z, ck_o, ifT, ifF, n10, n01, pv_v, if_pos, if_neg, zI_nat, zI_add, zI_mul, zI_addl, zI_laddl, zI_mull, zI_lmul, zI_subl, zI_pred, zI_le, zI_lt, zI_eq, zI_lel, zI_lle, zI_ltl, zI_llt, zI_eql, zI_leq, zI_ne1, zI_1ne]
    rw [← hm13]
    simp (discharger := omega) only [f7, f5, lk, bd_e, bo_e, bm_e, bts_l, bts_r, btm_l, btm_r, bp_lt, ck_ib, ck_z, ck_o, ifT, ifF, n10, n01, pv_v, if_pos, if_neg, zI_nat, zI_add, zI_mul, zI_addl, zI_laddl, zI_mull, zI_lmul, zI_subl, zI_pred, zI_le, zI_lt, zI_eq, zI_lel, zI_lle, zI_ltl, zI_llt, zI_eql, zI_leq, zI_ne1, zI_1ne]
    rw [← hm18]
    simp (discharger := omega) only [f8, bd_e, bo_e, bm_e, bts_l, bts_r, btm_l, btm_r, bp_lt, ck_ib, ck_z, ck_o, ifT, ifF, n10, n01, pv_v, if_pos, if_neg, zI_nat, zI_add, zI_mul, zI_addl, zI_laddl, zI_mull, zI_lmul, zI_subl, zI_pred, zI_le, zI_lt, zI_eq, zI_lel, zI_lle, zI_ltl, zI_llt, zI_eql, zI_leq, zI_ne1, zI_1ne]
    rw [← hm21]
  obtain ⟨r1, r2⟩ := e5.step hkk.1 F21 S21
  have I3 : WI w3 n T := by
    rw [hw3, hw2]
    exact wi_low I1 (fun i hi => by rw [upd_ne _ (by omega), upd_ne _ (by omega)])
  have C3 : LC w w3 := fun i hi => by rw [hw3, upd_ne _ (by omega), hw2, upd_ne _ (by omega)]; exact C1 i hi
  have e65 : w3 (1165 + t) = w (1165 + t) + lkT w n nt tl ts tn t (w (1159 + t)) (-1) := by
    rw [hw3, upd_ne _ (by omega), hw2, upd_eq, hlv, lkT_lc C1 i1 ht, C1 (1159 + t) (by omega), hw1, upd_ne _ (by omega)]
  exact so_val hA hJ hp e r1 I3 (jv_low hJ (fun i hi => C3 i (by omega))) (Or.inr ⟨m1_le (by omega), rfs_eq (fun i h1 h2 => by rw [hw3, upd_ne _ (by omega), hw2, upd_ne _ (by omega), hw1, upd_ne _ (by omega)])⟩) ⟨rfl, by rw [ha], C3, e65⟩
/-- undo, as the law calls it -/
theorem s_undo (h : IS mi w n T k pa nn TT L tx) : (k = 0 ∧ F_L_undo mi = some (-30, mi)) ∨ ∃ m2, F_L_undo mi = some (zI (k - 1), m2) ∧ IS m2 (pa (k - 1)) (nn (k - 1)) (TT (k - 1)) (k - 1) pa nn TT L tx := by
  obtain ⟨hP, hA, hJ, hp⟩ := h
  by_cases hk : k = 0
  · subst hk
    have g3 := hP.2.2.1
    have e : F_X3_undo mi = some (.inr 1, mi) := by
      simp (discharger := omega) only [F_X3_undo, g3, bd_e, bo_e, bm_e, bts_l, bts_r, btm_l, btm_r, bp_lt, ck_ib, ck_z, ck_o, ifT, ifF, n10, n01, pv_v, if_pos, if_neg, zI_nat, zI_add, zI_mul, zI_addl, zI_laddl, zI_mull, zI_lmul, zI_subl, zI_pred, zI_le, zI_lt, zI_eq, zI_lel, zI_lle, zI_ltl, zI_llt, zI_eql, zI_leq, zI_ne1, zI_1ne]
    refine Or.inl ⟨rfl, ?_⟩
    unfold F_L_undo
    rw [e]
    rfl
  · obtain ⟨m2, e1, e2, e3⟩ := p_undo hP (by omega) hA.2.1
    have hA2 : AInv (pa (k - 1)) (nn (k - 1)) (TT (k - 1)) (k - 1) pa nn TT L tx := ⟨hA.2.2.1 _ (by omega), by have := hA.2.1; omega, fun j hj => hA.2.2.1 j (by omega), hA.2.2.2⟩
    refine Or.inr ⟨m2, ?_, e2, hA2, hp _ (by omega), fun j hj => hp j (by omega)⟩
    unfold F_L_undo
    rw [e1]
    rfl
end RD
