/-! the reference reads a text -/
def FrX (x x2 : Mem) : Prop := (∀ lb : Lb, lb ≠ (3, 0, 0, 0) → lb ≠ (3, 0, 0, 5) → x2.1 lb = x.1 lb) ∧ x2.2 = x.2 ∧ ∀ j, j ≠ 7 → j ≠ 8 → j ≠ 10 → x2.1 (3, 0, 0, 0) j = x.1 (3, 0, 0, 0) j
def TD (x : Mem) (k : Nat) (tl ts tn : Nat → Int32) : Prop := ∀ j, j < k → x.1 (3, 0, 0, 5) (3 * j) = tl j ∧ x.1 (3, 0, 0, 5) (3 * j + 1) = ts j ∧ x.1 (3, 0, 0, 5) (3 * j + 2) = tn j
/-- the text lies there -/
def TX (c : Nat → Nat) (L : Nat) (x : Mem) : Prop := x.1 (3, 0, 0, 0) 5 = zI L ∧ ∀ j, j < L → x.1 (3, 0, 0, 4) j = zI (c j)
def flg (p L : Nat) : Int32 := if p < L then 1 else 0
/-- a term is read, or it is not -/
def TR (c : Nat → Nat) (L k p : Nat) (x : Mem) (o : Option (Int32 × Mem)) (r : RT7) : Prop :=
  (∃ x2, o = some (0, x2) ∧ FrX x x2 ∧ x2.1 (3, 0, 0, 0) 7 = zI r.1 ∧ x2.1 (3, 0, 0, 0) 8 = flg r.1 L ∧ r.2.1 = false) ∨
  (∃ x2 e ng v tl ts tn, o = some (1, x2) ∧ FrX x x2 ∧ x2.1 (3, 0, 0, 0) 7 = zI e ∧ x2.1 (3, 0, 0, 0) 10 = zI k ∧ p < e ∧ e ≤ L ∧ 4 * (k + 1) ≤ e + 1 ∧ r = rn c (L - e) e 4 (k + 1) ng v tl ts tn ∧ TD x2 (k + 1) tl ts tn ∧ ¬ ((0 < v ∧ v < 1000) ∧ e < L ∧ 48 ≤ c e ∧ c e ≤ 57))
section QG
variable {m x y : Mem} {c : Nat → Nat} {L p k : Nat} {ng : Bool} {tl ts tn : Nat → Int32}
theorem frx_tr {a b d : Mem} (h1 : FrX a b) (h2 : FrX b d) : FrX a d := ⟨fun lb p q => (h2.1 lb p q).trans (h1.1 lb p q), h2.2.1.trans h1.2.1, fun j p q r => (h2.2.2 j p q r).trans (h1.2.2 j p q r)⟩
theorem frx_told (x : Mem) (i : Nat) (u : Int32) : FrX x (wI x (3, 0, 0, 5) i u) := ⟨fun lb p q => wI_ne q x i u, rfl, fun j _ _ _ => by rw [wI_ne (by decide)]⟩
theorem frx_0 (x : Mem) {i : Nat} (h : i = 7 ∨ i = 8 ∨ i = 10) (u : Int32) : FrX x (wI x (3, 0, 0, 0) i u) := ⟨fun lb p q => wI_ne p x i u, rfl, fun j a b d => by rw [wI_eq, upd_ne _ (by omega)]⟩
theorem tx_frx (h : TX c L x) (hF : FrX x y) : TX c L y := ⟨by rw [hF.2.2 5 (by decide) (by decide) (by decide)]; exact h.1, fun j hj => by rw [hF.1 _ (by decide) (by decide)]; exact h.2 j hj⟩
theorem m_isAt (lo hi : Nat) (hl : lo < 127) (hh : hi < 127) (h7 : x.1 (3, 0, 0, 0) 7 = zI p) (hT : TX c L x) (hp : p ≤ L) (hL : L ≤ 40) (hc : ∀ j, j < L → c j < 127) : F_X4_isAt (zI lo) (zI hi) x = some (if p < L ∧ lo ≤ c p ∧ c p ≤ hi then 1 else 0) := by
  have h5 := hT.1
  by_cases h1 : p < L
  · have e := hT.2 p h1
    have hcp := hc p h1
    by_cases h2 : lo ≤ c p
    · by_cases h3 : c p ≤ hi
      · rw [if_pos ⟨h1, h2, h3⟩]
        simp (discharger := omega) only [F_X4_isAt, J_X4_isAt_33, h7, h5, e, m_in, bd_e, bo_e, bm_e, bts_l, bts_r, btm_l, btm_r, bp_lt, ck_ib, ck_z, ck_o, ifT, ifF, n10, n01, pv_v, if_pos, if_neg, zI_nat, zI_add, zI_mul, zI_addl, zI_laddl, zI_mull, zI_lmul, zI_subl, zI_pred, zI_le, zI_lt, zI_eq, zI_lel, zI_lle, zI_ltl, zI_llt, zI_eql, zI_leq, zI_ne1, zI_1ne]
      · rw [if_neg (fun h => h3 h.2.2)]
        simp (discharger := omega) only [F_X4_isAt, J_X4_isAt_32, J_X4_isAt_33, h7, h5, e, m_in, bd_e, bo_e, bm_e, bts_l, bts_r, btm_l, btm_r, bp_lt, ck_ib, ck_z, ck_o, ifT, ifF, n10, n01, pv_v, if_pos, if_neg, zI_nat, zI_add, zI_mul, zI_addl, zI_laddl, zI_mull, zI_lmul, zI_subl, zI_pred, zI_le, zI_lt, zI_eq, zI_lel, zI_lle, zI_ltl, zI_llt, zI_eql, zI_leq, zI_ne1, zI_1ne]
    · rw [if_neg (fun h => h2 h.2.1)]
      simp (discharger := omega) only [F_X4_isAt, J_X4_isAt_32, J_X4_isAt_33, h7, h5, e, m_in, bd_e, bo_e, bm_e, bts_l, bts_r, btm_l, btm_r, bp_lt, ck_ib, ck_z, ck_o, ifT, ifF, n10, n01, pv_v, if_pos, if_neg, zI_nat, zI_add, zI_mul, zI_addl, zI_laddl, zI_mull, zI_lmul, zI_subl, zI_pred, zI_le, zI_lt, zI_eq, zI_lel, zI_lle, zI_ltl, zI_llt, zI_eql, zI_leq, zI_ne1, zI_1ne]
  · rw [if_neg (fun h => h1 h.1)]
    simp (discharger := omega) only [F_X4_isAt, J_X4_isAt_32, J_X4_isAt_33, h7, h5, bd_e, bo_e, bm_e, bts_l, bts_r, btm_l, btm_r, bp_lt, ck_ib, ck_z, ck_o, ifT, ifF, n10, n01, pv_v, if_pos, if_neg, zI_nat, zI_add, zI_mul, zI_addl, zI_laddl, zI_mull, zI_lmul, zI_subl, zI_pred, zI_le, zI_lt, zI_eq, zI_lel, zI_lle, zI_ltl, zI_llt, zI_eql, zI_leq, zI_ne1, zI_1ne]
theorem at_letter (h7 : x.1 (3, 0, 0, 0) 7 = zI p) (hT : TX c L x) (hp : p ≤ L) (hL : L ≤ 40) (hc : ∀ j, j < L → c j < 127) : F_X4_isAt 97 104 x = some (if p < L ∧ 97 ≤ c p ∧ c p ≤ 104 then 1 else 0) := m_isAt 97 104 (by omega) (by omega) h7 hT hp hL hc
theorem at_sign (h7 : x.1 (3, 0, 0, 0) 7 = zI p) (hT : TX c L x) (hp : p ≤ L) (hL : L ≤ 40) (hc : ∀ j, j < L → c j < 127) : F_X4_isAt 60 62 x = some (if p < L ∧ 60 ≤ c p ∧ c p ≤ 62 then 1 else 0) := m_isAt 60 62 (by omega) (by omega) h7 hT hp hL hc
theorem at_minus (h7 : x.1 (3, 0, 0, 0) 7 = zI p) (hT : TX c L x) (hp : p ≤ L) (hL : L ≤ 40) (hc : ∀ j, j < L → c j < 127) : F_X4_isAt 45 45 x = some (if p < L ∧ 45 ≤ c p ∧ c p ≤ 45 then 1 else 0) := m_isAt 45 45 (by omega) (by omega) h7 hT hp hL hc
theorem at_digit (h7 : x.1 (3, 0, 0, 0) 7 = zI p) (hT : TX c L x) (hp : p ≤ L) (hL : L ≤ 40) (hc : ∀ j, j < L → c j < 127) : F_X4_isAt 48 57 x = some (if p < L ∧ 48 ≤ c p ∧ c p ≤ 57 then 1 else 0) := m_isAt 48 57 (by omega) (by omega) h7 hT hp hL hc
theorem at_and (h7 : x.1 (3, 0, 0, 0) 7 = zI p) (hT : TX c L x) (hp : p ≤ L) (hL : L ≤ 40) (hc : ∀ j, j < L → c j < 127) : F_X4_isAt 38 38 x = some (if p < L ∧ 38 ≤ c p ∧ c p ≤ 38 then 1 else 0) := m_isAt 38 38 (by omega) (by omega) h7 hT hp hL hc
theorem m_stops (h7 : x.1 (3, 0, 0, 0) 7 = zI p) (h5 : x.1 (3, 0, 0, 0) 5 = zI L) (hp : p ≤ L) (hL : L ≤ 40) : F_X4_stops x = some (0, wI x (3, 0, 0, 0) 8 (flg p L)) := by
  unfold flg
  by_cases h1 : p < L
  · simp (discharger := omega) only [F_X4_stops, J_X4_stops_17, h7, h5, h1, bd_e, bo_e, bm_e, bts_l, bts_r, btm_l, btm_r, bp_lt, ck_ib, ck_z, ck_o, ifT, ifF, n10, n01, pv_v, if_pos, if_neg, zI_nat, zI_add, zI_mul, zI_addl, zI_laddl, zI_mull, zI_lmul, zI_subl, zI_pred, zI_le, zI_lt, zI_eq, zI_lel, zI_lle, zI_ltl, zI_llt, zI_eql, zI_leq, zI_ne1, zI_1ne]
  · simp (discharger := omega) only [F_X4_stops, J_X4_stops_17, h7, h5, h1, bd_e, bo_e, bm_e, bts_l, bts_r, btm_l, btm_r, bp_lt, ck_ib, ck_z, ck_o, ifT, ifF, n10, n01, pv_v, if_pos, if_neg, zI_nat, zI_add, zI_mul, zI_addl, zI_laddl, zI_mull, zI_lmul, zI_subl, zI_pred, zI_le, zI_lt, zI_eq, zI_lel, zI_lle, zI_ltl, zI_llt, zI_eql, zI_leq, zI_ne1, zI_1ne]
theorem rn_stop {d i rd nt v : Nat} (hi : i + d = L) (h4 : rd ≠ 4) (h : d = 0 ∨ ((rd = 0 → ¬ (97 ≤ c i ∧ c i ≤ 104)) ∧ (rd = 1 → ¬ (60 ≤ c i ∧ c i ≤ 62)) ∧ (rd = 2 → ¬ c i = 45) ∧ (2 ≤ rd → ¬ (48 ≤ c i ∧ c i ≤ 57)))) : (rn c d i rd nt ng v tl ts tn).1 = i ∧ (rn c d i rd nt ng v tl ts tn).2.1 = false := by
  cases d with
  | zero => exact ⟨rfl, decide_eq_false h4⟩
  | succ d =>
    rcases h with h | ⟨h0, h1, h2, h3⟩
    · omega
    · rw [rn]
      by_cases e0 : rd = 0
      · rw [if_pos e0, if_neg (h0 e0)]; exact ⟨rfl, rfl⟩
      · rw [if_neg e0]
        by_cases e1 : rd = 1
        · rw [if_pos e1, if_neg (h1 e1)]; exact ⟨rfl, rfl⟩
        · rw [if_neg e1, if_neg (fun h => h2 h.1 h.2), if_neg (fun h => h4 h.1), if_neg (fun h => h3 (by omega) h.2)]
          exact ⟨rfl, rfl⟩
theorem tr_stop {r : RT7} (hr : r.1 = p ∧ r.2.1 = false) (h7 : x.1 (3, 0, 0, 0) 7 = zI p) : TR c L k p x (some (0, wI x (3, 0, 0, 0) 8 (flg p L))) r :=
  Or.inl ⟨_, rfl, frx_0 x (Or.inr (Or.inl rfl)) _, by rw [wI_eq, upd_ne _ (by decide), h7, hr.1], by rw [wI_eq, upd_eq, hr.1], hr.2⟩
theorem tr_tr {q : Nat} {o : Option (Int32 × Mem)} {r : RT7} (hF : FrX x y) (hq : p ≤ q) (h : TR c L k q y o r) : TR c L k p x o r := by
  rcases h with ⟨x2, e1, e2, e3⟩ | ⟨x2, e, ng, v, tl, ts, tn, e1, e2, e3, e4, e5, e6⟩
  · exact Or.inl ⟨x2, e1, frx_tr hF e2, e3⟩
  · exact Or.inr ⟨x2, e, ng, v, tl, ts, tn, e1, frx_tr hF e2, e3, e4, by omega, e6⟩
theorem m_digits : ∀ (d a v : Nat) (tn : Nat → Int32) (x : Mem) (n : Nat) (v21 : Int32), a + d = L → L ≤ 40 → (∀ j, j < L → c j < 127) → d < n → v < 10000 → x.1 (3, 0, 0, 0) 7 = zI a → TX c L x → tn k = sn ng v →
    ∃ e v' tn' x2, L_X4_isTerm_163 v21 n (zI v) x = C_X4_isTerm_216 v21 (zI v') x2 ∧ FrX x x2 ∧ x2.1 (3, 0, 0, 0) 7 = zI e ∧ x2.1 (3, 0, 0, 0) 10 = x.1 (3, 0, 0, 0) 10 ∧ x2.1 (3, 0, 0, 5) = x.1 (3, 0, 0, 5) ∧ a ≤ e ∧ e ≤ L ∧ v' < 10000 ∧ rn c d a 4 (k + 1) ng v tl ts tn = rn c (L - e) e 4 (k + 1) ng v' tl ts tn' ∧ tn' k = sn ng v' ∧ (∀ j, j ≠ k → tn' j = tn j) ∧ ¬ ((0 < v' ∧ v' < 1000) ∧ e < L ∧ 48 ≤ c e ∧ c e ≤ 57) := by
  intro d
  induction d with
  | zero =>
    intro a v tn x n v21 ha hL hc hn hv h7 hT ht
    obtain ⟨n2, rfl⟩ : ∃ n2, n = n2 + 1 := ⟨n - 1, by omega⟩
    have hd := at_digit h7 hT (by omega) hL hc
    rw [if_neg (by omega)] at hd
    refine ⟨a, v, tn, x, ?_, ⟨fun _ _ _ => rfl, rfl, fun _ _ _ _ => rfl⟩, h7, rfl, rfl, Nat.le_refl _, by omega, hv, by rw [show L - a = 0 by omega], ht, fun _ _ => rfl, by omega⟩
    by_cases g0 : v ≤ 0
    · simp (discharger := omega) only [L_X4_isTerm_163, g0, bd_e, bo_e, bm_e, bts_l, bts_r, btm_l, btm_r, bp_lt, ck_ib, ck_z, ck_o, ifT, ifF, n10, n01, pv_v, if_pos, if_neg, zI_nat, zI_add, zI_mul, zI_addl, zI_laddl, zI_mull, zI_lmul, zI_subl, zI_pred, zI_le, zI_lt, zI_eq, zI_lel, zI_lle, zI_ltl, zI_llt, zI_eql, zI_leq, zI_ne1, zI_1ne]
    · by_cases g1 : 1000 ≤ v
      · simp (discharger := omega) only [L_X4_isTerm_163, g0, g1, bd_e, bo_e, bm_e, bts_l, bts_r, btm_l, btm_r, bp_lt, ck_ib, ck_z, ck_o, ifT, ifF, n10, n01, pv_v, if_pos, if_neg, zI_nat, zI_add, zI_mul, zI_addl, zI_laddl, zI_mull, zI_lmul, zI_subl, zI_pred, zI_le, zI_lt, zI_eq, zI_lel, zI_lle, zI_ltl, zI_llt, zI_eql, zI_leq, zI_ne1, zI_1ne]
      · simp (discharger := omega) only [L_X4_isTerm_163, g0, g1, hd, bd_e, bo_e, bm_e, bts_l, bts_r, btm_l, btm_r, bp_lt, ck_ib, ck_z, ck_o, ifT, ifF, n10, n01, pv_v, if_pos, if_neg, zI_nat, zI_add, zI_mul, zI_addl, zI_laddl, zI_mull, zI_lmul, zI_subl, zI_pred, zI_le, zI_lt, zI_eq, zI_lel, zI_lle, zI_ltl, zI_llt, zI_eql, zI_leq, zI_ne1, zI_1ne]
  | succ d ih =>
    intro a v tn x n v21 ha hL hc hn hv h7 hT ht
    obtain ⟨n2, rfl⟩ : ∃ n2, n = n2 + 1 := ⟨n - 1, by omega⟩
    have hd := at_digit h7 hT (by omega) hL hc
    by_cases hg : (0 < v ∧ v < 1000) ∧ 48 ≤ c a ∧ c a ≤ 57
    · rw [if_pos ⟨by omega, hg.2⟩] at hd
      have g0 : ¬ v ≤ 0 := by omega
      have g1 : ¬ 1000 ≤ v := by omega
      have hta := hT.2 a (by omega)
      have hF : FrX x (wI x (3, 0, 0, 0) 7 (zI (a + 1))) := frx_0 x (Or.inl rfl) _
      have e10 : (wI x (3, 0, 0, 0) 7 (zI (a + 1))).1 (3, 0, 0, 0) 10 = x.1 (3, 0, 0, 0) 10 := by rw [wI_eq, upd_ne _ (by decide)]
      obtain ⟨e, v', tn', x2, e1, e2, e3, e4, e5, e6, e7, e8, e9, e11, e12, e13⟩ := ih (a + 1) (v * 10 + (c a - 48)) (upd tn k (sn ng (v * 10 + (c a - 48)))) (wI x (3, 0, 0, 0) 7 (zI (a + 1))) n2 v21 (by omega) hL hc (by omega) (by omega) (by rw [wI_eq, upd_eq]) (tx_frx hT hF) (upd_eq _ _ _)
      refine ⟨e, v', tn', x2, ?_, frx_tr hF e2, e3, e4.trans e10, e5.trans (wI_ne (by decide) _ _ _), by omega, e7, e8, ?_, e11, fun j hj => (e12 j hj).trans (upd_ne _ hj _), e13⟩
      · rw [← e1]
        have ev : 10 * v + c a - 48 = v * 10 + (c a - 48) := by omega
        simp (discharger := omega) only [L_X4_isTerm_163, g0, g1, hd, h7, hta, ev, bd_e, bo_e, bm_e, bts_l, bts_r, btm_l, btm_r, bp_lt, ck_ib, ck_z, ck_o, ifT, ifF, n10, n01, pv_v, if_pos, if_neg, zI_nat, zI_add, zI_mul, zI_addl, zI_laddl, zI_mull, zI_lmul, zI_subl, zI_pred, zI_le, zI_lt, zI_eq, zI_lel, zI_lle, zI_ltl, zI_llt, zI_eql, zI_leq, zI_ne1, zI_1ne]
      · rw [← e9, rn, if_neg (by decide), if_neg (by decide), if_neg (fun h => absurd h.1 (by decide)), if_neg (fun h => by omega), if_pos ⟨fun _ => hg.1, hg.2⟩, Nat.add_sub_cancel]
    · refine ⟨a, v, tn, x, ?_, ⟨fun _ _ _ => rfl, rfl, fun _ _ _ _ => rfl⟩, h7, rfl, rfl, Nat.le_refl _, by omega, hv, by rw [show L - a = d + 1 by omega], ht, fun _ _ => rfl, fun h => hg ⟨h.1, h.2.2⟩⟩
      by_cases g0 : v ≤ 0
      · simp (discharger := omega) only [L_X4_isTerm_163, g0, bd_e, bo_e, bm_e, bts_l, bts_r, btm_l, btm_r, bp_lt, ck_ib, ck_z, ck_o, ifT, ifF, n10, n01, pv_v, if_pos, if_neg, zI_nat, zI_add, zI_mul, zI_addl, zI_laddl, zI_mull, zI_lmul, zI_subl, zI_pred, zI_le, zI_lt, zI_eq, zI_lel, zI_lle, zI_ltl, zI_llt, zI_eql, zI_leq, zI_ne1, zI_1ne]
      · by_cases g1 : 1000 ≤ v
        · simp (discharger := omega) only [L_X4_isTerm_163, g0, g1, bd_e, bo_e, bm_e, bts_l, bts_r, btm_l, btm_r, bp_lt, ck_ib, ck_z, ck_o, ifT, ifF, n10, n01, pv_v, if_pos, if_neg, zI_nat, zI_add, zI_mul, zI_addl, zI_laddl, zI_mull, zI_lmul, zI_subl, zI_pred, zI_le, zI_lt, zI_eq, zI_lel, zI_lle, zI_ltl, zI_llt, zI_eql, zI_leq, zI_ne1, zI_1ne]
        · rw [if_neg (fun h => hg ⟨by omega, h.2⟩)] at hd
          simp (discharger := omega) only [L_X4_isTerm_163, g0, g1, hd, bd_e, bo_e, bm_e, bts_l, bts_r, btm_l, btm_r, bp_lt, ck_ib, ck_z, ck_o, ifT, ifF, n10, n01, pv_v, if_pos, if_neg, zI_nat, zI_add, zI_mul, zI_addl, zI_laddl, zI_mull, zI_lmul, zI_subl, zI_pred, zI_le, zI_lt, zI_eq, zI_lel, zI_lle, zI_ltl, zI_llt, zI_eql, zI_leq, zI_ne1, zI_1ne]
def b01 (ng : Bool) : Int32 := if ng = true then 1 else 0
theorem m_num {a q rd : Nat} (hq : q = a + (if ng = true then 1 else 0)) (hr : rd = if ng = true then 3 else 2) (hqL : q ≤ L) (hL : L ≤ 40) (hk : 4 * k ≤ a) (hp : 4 * k + 2 ≤ a) (hc : ∀ j, j < L → c j < 127) (hm : ng = false → q < L → c q ≠ 45) (h10 : x.1 (3, 0, 0, 0) 10 = zI k) (hT : TX c L x) (hD : TD x k tl ts tn) (hl : x.1 (3, 0, 0, 5) (3 * k) = tl k) (hs : x.1 (3, 0, 0, 5) (3 * k + 1) = ts k) : TR c L k a x (J_X4_isTerm_120 x (b01 ng) (zI a) (b01 ng)) (rn c (L - q) q rd (k + 1) ng 0 tl ts tn) := by
  have hF : FrX x (wI x (3, 0, 0, 0) 7 (zI q)) := frx_0 x (Or.inl rfl) _
  have e7 : (wI x (3, 0, 0, 0) 7 (zI q)).1 (3, 0, 0, 0) 7 = zI q := by rw [wI_eq, upd_eq]
  have hT2 := tx_frx hT hF
  have hd := at_digit e7 hT2 hqL hL hc
  have hst := m_stops e7 hT2.1 hqL hL
  have eq : zI a + b01 ng = zI q := by
    unfold b01
    cases ng with
    | false => rw [if_neg Bool.false_ne_true, hq, if_neg Bool.false_ne_true, Int32.add_zero]; rfl
    | true => rw [if_pos rfl, hq, if_pos rfl]; exact zI_addl a 1
  have r4 : rd ≠ 4 := by
    cases ng
    · rw [if_neg Bool.false_ne_true] at hr; omega
    · rw [if_pos rfl] at hr; omega
  have r2 : rd = 2 → ng = false := by
    intro h
    cases ng with
    | false => rfl
    | true => rw [if_pos rfl] at hr; omega
  have r01 : rd = 2 ∨ rd = 3 := by
    cases ng
    · rw [if_neg Bool.false_ne_true] at hr; omega
    · rw [if_pos rfl] at hr; omega
  have hqa : a ≤ q := by omega
  by_cases hdg : q < L ∧ 48 ≤ c q ∧ c q ≤ 57
  · rw [if_pos hdg] at hd
    have htq := hT2.2 q hdg.1
    have hF2 : FrX x (wI (wI x (3, 0, 0, 0) 7 (zI q)) (3, 0, 0, 0) 7 (zI (q + 1))) := frx_tr hF (frx_0 _ (Or.inl rfl) _)
    have e77 : (wI (wI x (3, 0, 0, 0) 7 (zI q)) (3, 0, 0, 0) 7 (zI (q + 1))).1 (3, 0, 0, 0) 7 = zI (q + 1) := by rw [wI_eq, upd_eq]
    obtain ⟨e, v', tn', x2, e1, e2, e3, e4, e5, e6, e8, e9, e10, e11, e12, e13⟩ := m_digits (c := c) (L := L) (k := k) (ng := ng) (tl := tl) (ts := ts) (L - (q + 1)) (q + 1) (c q - 48) (upd tn k (sn ng (c q - 48))) _ fu (b01 ng) (by omega) hL hc (by rw [fu_eq]; omega) (by have := hc q hdg.1; omega) e77 (tx_frx hT hF2) (upd_eq _ _ _)
    have f10 : x2.1 (3, 0, 0, 0) 10 = zI k := by
      rw [e4, wI_eq, upd_ne _ (by decide), wI_eq, upd_ne _ (by decide)]; exact h10
    have f5 : x2.1 (3, 0, 0, 5) = x.1 (3, 0, 0, 5) := by
      rw [e5, wI_ne (by decide), wI_ne (by decide)]
    have hF3 : FrX x (wI x2 (3, 0, 0, 5) (3 * k + 2) (sn ng v')) := frx_tr (frx_tr hF2 e2) (frx_told x2 _ _)
    refine Or.inr ⟨wI x2 (3, 0, 0, 5) (3 * k + 2) (sn ng v'), e, ng, v', tl, ts, tn', ?_, hF3, ?_, ?_, by omega, e8, by omega, ?_, fun j hj => ?_, e13⟩
    · have goal : C_X4_isTerm_216 (b01 ng) (zI v') x2 = some (1, wI x2 (3, 0, 0, 5) (3 * k + 2) (sn ng v')) := by
        unfold b01 sn
        cases ng with
        | false =>
          rw [if_neg Bool.false_ne_true, if_neg Bool.false_ne_true]
          simp (discharger := omega) only [C_X4_isTerm_216, J_X4_isTerm_238, f10, bd_e, bo_e, bm_e, bts_l, bts_r, btm_l, btm_r, bp_lt, ck_ib, ck_z, ck_o, ifT, ifF, n10, n01, pv_v, if_pos, if_neg, zI_nat, zI_add, zI_mul, zI_addl, zI_laddl, zI_mull, zI_lmul, zI_subl, zI_pred, zI_le, zI_lt, zI_eq, zI_lel, zI_lle, zI_ltl, zI_llt, zI_eql, zI_leq, zI_ne1, zI_1ne]
        | true =>
          rw [if_pos rfl, if_pos rfl]
          simp (discharger := omega) only [C_X4_isTerm_216, J_X4_isTerm_238, f10, bd_e, bo_e, bm_e, bts_l, bts_r, btm_l, btm_r, bp_lt, ck_ib, ck_z, ck_o, ifT, ifF, n10, n01, pv_v, if_pos, if_neg, zI_nat, zI_add, zI_mul, zI_addl, zI_laddl, zI_mull, zI_lmul, zI_subl, zI_pred, zI_le, zI_lt, zI_eq, zI_lel, zI_lle, zI_ltl, zI_llt, zI_eql, zI_leq, zI_ne1, zI_1ne]
      rw [← goal, ← e1]
      simp (discharger := omega) only [J_X4_isTerm_120, eq, hd, e7, htq, bd_e, bo_e, bm_e, bts_l, bts_r, btm_l, btm_r, bp_lt, ck_ib, ck_z, ck_o, ifT, ifF, n10, n01, pv_v, if_pos, if_neg, zI_nat, zI_add, zI_mul, zI_addl, zI_laddl, zI_mull, zI_lmul, zI_subl, zI_pred, zI_le, zI_lt, zI_eq, zI_lel, zI_lle, zI_ltl, zI_llt, zI_eql, zI_leq, zI_ne1, zI_1ne]
    · rw [wI_ne (by decide)]; exact e3
    · rw [wI_ne (by decide)]; exact f10
    · rw [← e10, show L - q = (L - (q + 1)) + 1 by omega, rn, if_neg (by omega), if_neg (by omega), if_neg (fun h => hm (r2 h.1) hdg.1 h.2), if_neg (fun h => r4 h.1), if_pos ⟨fun h => absurd h r4, hdg.2⟩, Nat.add_sub_cancel, Nat.zero_mul, Nat.zero_add]
    · rw [wI_eq]
      by_cases e : j = k
      · subst e
        rw [upd_ne _ (by omega), upd_ne _ (by omega), upd_eq, f5]
        exact ⟨hl, hs, e11.symm⟩
      · rw [upd_ne _ (by omega), upd_ne _ (by omega), upd_ne _ (by omega), f5, e12 j e, upd_ne _ e]
        exact hD j (by omega)
  · rw [if_neg hdg] at hd
    have e : J_X4_isTerm_120 x (b01 ng) (zI a) (b01 ng) = some (0, wI (wI x (3, 0, 0, 0) 7 (zI q)) (3, 0, 0, 0) 8 (flg q L)) := by
      simp (discharger := omega) only [J_X4_isTerm_120, eq, hd, hst, bd_e, bo_e, bm_e, bts_l, bts_r, btm_l, btm_r, bp_lt, ck_ib, ck_z, ck_o, ifT, ifF, n10, n01, pv_v, if_pos, if_neg, zI_nat, zI_add, zI_mul, zI_addl, zI_laddl, zI_mull, zI_lmul, zI_subl, zI_pred, zI_le, zI_lt, zI_eq, zI_lel, zI_lle, zI_ltl, zI_llt, zI_eql, zI_leq, zI_ne1, zI_1ne]
    rw [e]
    refine tr_tr hF hqa (tr_stop ?_ e7)
    refine rn_stop (L := L) (by omega) r4 ?_
    by_cases hql : L - q = 0
    · exact Or.inl hql
    · exact Or.inr ⟨fun h => by omega, fun h => by omega, fun h => hm (r2 h) (by omega), fun _ h => hdg ⟨by omega, h⟩⟩
theorem m_isTerm {d v : Nat} (hd : p + d = L) (hL : L ≤ 40) (hk : 4 * k ≤ p) (hc : ∀ j, j < L → c j < 127) (h7 : x.1 (3, 0, 0, 0) 7 = zI p) (h10 : x.1 (3, 0, 0, 0) 10 = zI k) (hT : TX c L x) (hD : TD x k tl ts tn) : TR c L k p x (F_X4_isTerm x) (rn c d p 0 k ng v tl ts tn) := by
  have hA := at_letter h7 hT (by omega) hL hc
  by_cases hl : p < L ∧ 97 ≤ c p ∧ c p ≤ 104
  · rw [if_pos hl] at hA
    have htp := hT.2 p hl.1
    have hcp := hc p hl.1
    obtain ⟨d2, rfl⟩ : ∃ d2, d = d2 + 1 := ⟨d - 1, by omega⟩
    rw [rn, if_pos rfl, if_pos hl.2]
    obtain ⟨x1, hx1⟩ : ∃ x1, x1 = wI (wI x (3, 0, 0, 5) (3 * k) (zI (c p - 97))) (3, 0, 0, 0) 7 (zI (p + 1)) := ⟨_, rfl⟩
    have hF1 : FrX x x1 := by rw [hx1]; exact frx_tr (frx_told x _ _) (frx_0 _ (Or.inl rfl) _)
    have f7 : x1.1 (3, 0, 0, 0) 7 = zI (p + 1) := by rw [hx1, wI_eq, upd_eq]
    have f10 : x1.1 (3, 0, 0, 0) 10 = zI k := by rw [hx1, wI_eq, upd_ne _ (by decide), wI_ne (by decide)]; exact h10
    have g5 : x1.1 (3, 0, 0, 5) = upd (x.1 (3, 0, 0, 5)) (3 * k) (zI (c p - 97)) := by rw [hx1, wI_ne (by decide), wI_eq]
    have g7 : (wI x (3, 0, 0, 5) (3 * k) (zI (c p - 97))).1 (3, 0, 0, 0) 7 = zI p := by rw [wI_ne (by decide)]; exact h7
    have hT1 := tx_frx hT hF1
    have hS := at_sign f7 hT1 (by omega) hL hc
    by_cases hs : p + 1 < L ∧ 60 ≤ c (p + 1) ∧ c (p + 1) ≤ 62
    · rw [if_pos hs] at hS
      have hts := hT1.2 (p + 1) hs.1
      have hcs := hc (p + 1) hs.1
      obtain ⟨d3, rfl⟩ : ∃ d3, d2 = d3 + 1 := ⟨d2 - 1, by omega⟩
      rw [rn, if_neg (by decide), if_pos rfl, if_pos hs.2, Nat.add_sub_cancel]
      obtain ⟨x2, hx2⟩ : ∃ x2, x2 = wI (wI x1 (3, 0, 0, 5) (3 * k + 1) (zI (c (p + 1)))) (3, 0, 0, 0) 7 (zI (p + 2)) := ⟨_, rfl⟩
      have hF2 : FrX x x2 := by rw [hx2]; exact frx_tr hF1 (frx_tr (frx_told x1 _ _) (frx_0 _ (Or.inl rfl) _))
      have k7 : x2.1 (3, 0, 0, 0) 7 = zI (p + 2) := by rw [hx2, wI_eq, upd_eq]
      have k10 : x2.1 (3, 0, 0, 0) 10 = zI k := by rw [hx2, wI_eq, upd_ne _ (by decide), wI_ne (by decide)]; exact f10
      have k5 : x2.1 (3, 0, 0, 5) = upd (x1.1 (3, 0, 0, 5)) (3 * k + 1) (zI (c (p + 1))) := by rw [hx2, wI_ne (by decide), wI_eq]
      have j7 : (wI x1 (3, 0, 0, 5) (3 * k + 1) (zI (c (p + 1)))).1 (3, 0, 0, 0) 7 = zI (p + 1) := by rw [wI_ne (by decide)]; exact f7
      have hT2 := tx_frx hT hF2
      have hM := at_minus k7 hT2 (by omega) hL hc
      have hD2 : TD x2 k (upd tl k (zI (c p - 97))) (upd (upd ts k 0) k (zI (c (p + 1)))) (upd tn k 0) := fun j hj => by
        rw [k5, g5, upd_ne _ (by omega), upd_ne _ (by omega), upd_ne _ (by omega), upd_ne _ (by omega), upd_ne _ (by omega), upd_ne _ (by omega), upd_ne _ (by omega), upd_ne _ (by omega), upd_ne _ (by omega), upd_ne _ (by omega)]
        exact hD j hj
      have hl2 : x2.1 (3, 0, 0, 5) (3 * k) = upd tl k (zI (c p - 97)) k := by rw [k5, upd_ne _ (by omega), g5, upd_eq, upd_eq]
      have hs2 : x2.1 (3, 0, 0, 5) (3 * k + 1) = upd (upd ts k 0) k (zI (c (p + 1))) k := by rw [k5, upd_eq, upd_eq]
      by_cases hm : p + 2 < L ∧ c (p + 2) = 45
      · rw [if_pos ⟨hm.1, by omega⟩] at hM
        obtain ⟨d4, rfl⟩ : ∃ d4, d3 = d4 + 1 := ⟨d3 - 1, by omega⟩
        rw [rn, if_neg (by decide), if_neg (by decide), if_pos ⟨rfl, hm.2⟩]
        have h := m_num (x := x2) (c := c) (L := L) (k := k) (ng := true) (a := p + 2) (q := p + 3) (rd := 3) (tl := upd tl k (zI (c p - 97))) (ts := upd (upd ts k 0) k (zI (c (p + 1)))) (tn := upd tn k 0) (by rw [if_pos rfl]) (by rw [if_pos rfl]) (by omega) hL (by omega) (by omega) hc (fun h => absurd h (by decide)) k10 hT2 hD2 hl2 hs2
        have e : F_X4_isTerm x = J_X4_isTerm_120 x2 (b01 true) (zI (p + 2)) (b01 true) := by
          show _ = J_X4_isTerm_120 x2 1 (zI (p + 2)) 1
          simp (discharger := omega) only [F_X4_isTerm, hA, h10, h7, htp, g7, bd_e, bo_e, bm_e, bts_l, bts_r, btm_l, btm_r, bp_lt, ck_ib, ck_z, ck_o, ifT, ifF, n10, n01, pv_v, if_pos, if_neg, zI_nat, zI_add, zI_mul, zI_addl, zI_laddl, zI_mull, zI_lmul, zI_subl, zI_pred, zI_le, zI_lt, zI_eq, zI_lel, zI_lle, zI_ltl, zI_llt, zI_eql, zI_leq, zI_ne1, zI_1ne]
          rw [← hx1]
          simp (discharger := omega) only [hS, f10, f7, hts, j7, bd_e, bo_e, bm_e, bts_l, bts_r, btm_l, btm_r, bp_lt, ck_ib, ck_z, ck_o, ifT, ifF, n10, n01, pv_v, if_pos, if_neg, zI_nat, zI_add, zI_mul, zI_addl, zI_laddl, zI_mull, zI_lmul, zI_subl, zI_pred, zI_le, zI_lt, zI_eq, zI_lel, zI_lle, zI_ltl, zI_llt, zI_eql, zI_leq, zI_ne1, zI_1ne]
          rw [← hx2]
          simp (discharger := omega) only [hM, k7, bd_e, bo_e, bm_e, bts_l, bts_r, btm_l, btm_r, bp_lt, ck_ib, ck_z, ck_o, ifT, ifF, n10, n01, pv_v, if_pos, if_neg, zI_nat, zI_add, zI_mul, zI_addl, zI_laddl, zI_mull, zI_lmul, zI_subl, zI_pred, zI_le, zI_lt, zI_eq, zI_lel, zI_lle, zI_ltl, zI_llt, zI_eql, zI_leq, zI_ne1, zI_1ne]
        rw [e]
        refine tr_tr (q := p + 2) hF2 (by omega) ?_
        rw [show d4 = L - (p + 3) by omega]
        exact h
      · rw [if_neg (fun h => hm ⟨h.1, by omega⟩)] at hM
        have h := m_num (x := x2) (c := c) (L := L) (k := k) (ng := false) (a := p + 2) (q := p + 2) (rd := 2) (tl := upd tl k (zI (c p - 97))) (ts := upd (upd ts k 0) k (zI (c (p + 1)))) (tn := upd tn k 0) (by rw [if_neg Bool.false_ne_true]) (by rw [if_neg Bool.false_ne_true]) (by omega) hL (by omega) (by omega) hc (fun _ a b => hm ⟨a, b⟩) k10 hT2 hD2 hl2 hs2
        have e : F_X4_isTerm x = J_X4_isTerm_120 x2 (b01 false) (zI (p + 2)) (b01 false) := by
          show _ = J_X4_isTerm_120 x2 0 (zI (p + 2)) 0
          simp (discharger := omega) only [F_X4_isTerm, hA, h10, h7, htp, g7, bd_e, bo_e, bm_e, bts_l, bts_r, btm_l, btm_r, bp_lt, ck_ib, ck_z, ck_o, ifT, ifF, n10, n01, pv_v, if_pos, if_neg, zI_nat, zI_add, zI_mul, zI_addl, zI_laddl, zI_mull, zI_lmul, zI_subl, zI_pred, zI_le, zI_lt, zI_eq, zI_lel, zI_lle, zI_ltl, zI_llt, zI_eql, zI_leq, zI_ne1, zI_1ne]
          rw [← hx1]
          simp (discharger := omega) only [hS, f10, f7, hts, j7, bd_e, bo_e, bm_e, bts_l, bts_r, btm_l, btm_r, bp_lt, ck_ib, ck_z, ck_o, ifT, ifF, n10, n01, pv_v, if_pos, if_neg, zI_nat, zI_add, zI_mul, zI_addl, zI_laddl, zI_mull, zI_lmul, zI_subl, zI_pred, zI_le, zI_lt, zI_eq, zI_lel, zI_lle, zI_ltl, zI_llt, zI_eql, zI_leq, zI_ne1, zI_1ne]
          rw [← hx2]
          simp (discharger := omega) only [hM, k7, bd_e, bo_e, bm_e, bts_l, bts_r, btm_l, btm_r, bp_lt, ck_ib, ck_z, ck_o, ifT, ifF, n10, n01, pv_v, if_pos, if_neg, zI_nat, zI_add, zI_mul, zI_addl, zI_laddl, zI_mull, zI_lmul, zI_subl, zI_pred, zI_le, zI_lt, zI_eq, zI_lel, zI_lle, zI_ltl, zI_llt, zI_eql, zI_leq, zI_ne1, zI_1ne]
        rw [e]
        refine tr_tr (q := p + 2) hF2 (by omega) ?_
        rw [show d3 = L - (p + 2) by omega]
        exact h
    · rw [if_neg hs] at hS
      have hst := m_stops f7 hT1.1 (by omega) hL
      have e : F_X4_isTerm x = some (0, wI x1 (3, 0, 0, 0) 8 (flg (p + 1) L)) := by
        simp (discharger := omega) only [F_X4_isTerm, hA, h10, h7, htp, g7, bd_e, bo_e, bm_e, bts_l, bts_r, btm_l, btm_r, bp_lt, ck_ib, ck_z, ck_o, ifT, ifF, n10, n01, pv_v, if_pos, if_neg, zI_nat, zI_add, zI_mul, zI_addl, zI_laddl, zI_mull, zI_lmul, zI_subl, zI_pred, zI_le, zI_lt, zI_eq, zI_lel, zI_lle, zI_ltl, zI_llt, zI_eql, zI_leq, zI_ne1, zI_1ne]
        rw [← hx1]
        simp (discharger := omega) only [hS, hst, bd_e, bo_e, bm_e, bts_l, bts_r, btm_l, btm_r, bp_lt, ck_ib, ck_z, ck_o, ifT, ifF, n10, n01, pv_v, if_pos, if_neg, zI_nat, zI_add, zI_mul, zI_addl, zI_laddl, zI_mull, zI_lmul, zI_subl, zI_pred, zI_le, zI_lt, zI_eq, zI_lel, zI_lle, zI_ltl, zI_llt, zI_eql, zI_leq, zI_ne1, zI_1ne]
      rw [e]
      refine tr_tr hF1 (Nat.le_succ p) (tr_stop (rn_stop (L := L) (by omega) (by decide) ?_) f7)
      by_cases hql : d2 = 0
      · exact Or.inl hql
      · exact Or.inr ⟨fun h => absurd h (by decide), fun _ h => hs ⟨by omega, h⟩, fun h => absurd h (by decide), fun h => absurd h (by decide)⟩
  · rw [if_neg hl] at hA
    have hst := m_stops h7 hT.1 (by omega) hL
    have e : F_X4_isTerm x = some (0, wI x (3, 0, 0, 0) 8 (flg p L)) := by
      simp (discharger := omega) only [F_X4_isTerm, hA, hst, bd_e, bo_e, bm_e, bts_l, bts_r, btm_l, btm_r, bp_lt, ck_ib, ck_z, ck_o, ifT, ifF, n10, n01, pv_v, if_pos, if_neg, zI_nat, zI_add, zI_mul, zI_addl, zI_laddl, zI_mull, zI_lmul, zI_subl, zI_pred, zI_le, zI_lt, zI_eq, zI_lel, zI_lle, zI_ltl, zI_llt, zI_eql, zI_leq, zI_ne1, zI_1ne]
    rw [e]
    refine tr_stop (rn_stop hd (by decide) ?_) h7
    by_cases hql : d = 0
    · exact Or.inl hql
    · exact Or.inr ⟨fun _ h => hl ⟨by omega, h⟩, fun h => absurd h (by decide), fun h => absurd h (by decide), fun h => absurd h (by decide)⟩
/-- what the reference's reader ends with -/
def XE (L : Nat) (x : Mem) (o : Option (Int32 × Mem)) (r : RT7) : Prop := ∃ x2, o = some (if r.2.1 = true then 1 else 0, x2) ∧ FrX x x2 ∧ x2.1 (3, 0, 0, 0) 7 = zI r.1 ∧ x2.1 (3, 0, 0, 0) 8 = flg r.1 L ∧ (r.2.1 = true → QM x2.1 r.2.2.1 r.2.2.2.1 r.2.2.2.2.1 r.2.2.2.2.2)
theorem m_run : ∀ (d p k : Nat) (ng : Bool) (v : Nat) (tl ts tn : Nat → Int32) (x : Mem) (n : Nat), p + d = L → L ≤ 40 → 4 * k ≤ p → (∀ j, j < L → c j < 127) → d < n → x.1 (3, 0, 0, 0) 7 = zI p → x.1 (3, 0, 0, 0) 10 = zI k → TX c L x → TD x k tl ts tn → XE L x (L_X4_isText_17 n 1 x) (rn c d p 0 k ng v tl ts tn) := by
  intro d
  induction d using Nat.strongRecOn with
  | ind d ih =>
    intro p k ng v tl ts tn x n hd hL hk hc hn h7 h10 hT hD
    obtain ⟨n2, rfl⟩ : ∃ n2, n = n2 + 1 := ⟨n - 1, by omega⟩
    rcases m_isTerm (ng := ng) (v := v) hd hL hk hc h7 h10 hT hD with ⟨x2, e1, e2, e3, e4, e5⟩ | ⟨x2, e, ng2, v2, tl2, ts2, tn2, e1, e2, e3, e4, e5, e6, e7, e8, e9, e10⟩
    · refine ⟨x2, ?_, e2, e3, e4, fun h => absurd (h.symm.trans e5) (by decide)⟩
      rw [e5, if_neg Bool.false_ne_true]
      simp (discharger := omega) only [L_X4_isText_17, e1, bd_e, bo_e, bm_e, bts_l, bts_r, btm_l, btm_r, bp_lt, ck_ib, ck_z, ck_o, ifT, ifF, n10, n01, pv_v, if_pos, if_neg, zI_nat, zI_add, zI_mul, zI_addl, zI_laddl, zI_mull, zI_lmul, zI_subl, zI_pred, zI_le, zI_lt, zI_eq, zI_lel, zI_lle, zI_ltl, zI_llt, zI_eql, zI_leq, zI_ne1, zI_1ne]
    · obtain ⟨x3, hx3⟩ : ∃ x3, x3 = wI x2 (3, 0, 0, 0) 10 (zI (k + 1)) := ⟨_, rfl⟩
      have hF3 : FrX x x3 := by rw [hx3]; exact frx_tr e2 (frx_0 x2 (Or.inr (Or.inr rfl)) _)
      have f7 : x3.1 (3, 0, 0, 0) 7 = zI e := by rw [hx3, wI_eq, upd_ne _ (by decide)]; exact e3
      have f10 : x3.1 (3, 0, 0, 0) 10 = zI (k + 1) := by rw [hx3, wI_eq, upd_eq]
      have hT3 := tx_frx hT hF3
      have hD3 : TD x3 (k + 1) tl2 ts2 tn2 := fun j hj => by
        have g : x3.1 (3, 0, 0, 5) = x2.1 (3, 0, 0, 5) := by rw [hx3, wI_ne (by decide)]
        rw [g]; exact e9 j hj
      have hA := at_and f7 hT3 e6 hL hc
      by_cases ha : e < L ∧ c e = 38
      · rw [if_pos ⟨ha.1, by omega⟩] at hA
        obtain ⟨x4, hx4⟩ : ∃ x4, x4 = wI x3 (3, 0, 0, 0) 7 (zI (e + 1)) := ⟨_, rfl⟩
        have hF4 : FrX x x4 := by rw [hx4]; exact frx_tr hF3 (frx_0 x3 (Or.inl rfl) _)
        have hD4 : TD x4 (k + 1) tl2 ts2 tn2 := fun j hj => by
          have g : x4.1 (3, 0, 0, 5) = x3.1 (3, 0, 0, 5) := by rw [hx4, wI_ne (by decide)]
          rw [g]; exact hD3 j hj
        have h := ih (L - (e + 1)) (by omega) (e + 1) (k + 1) ng2 v2 tl2 ts2 tn2 x4 n2 (by omega) hL (by omega) hc (by omega) (by rw [hx4, wI_eq, upd_eq]) (by rw [hx4, wI_eq, upd_ne _ (by decide)]; exact f10) (tx_frx hT hF4) hD4
        have er : rn c d p 0 k ng v tl ts tn = rn c (L - (e + 1)) (e + 1) 0 (k + 1) ng2 v2 tl2 ts2 tn2 := by
          rw [e8, show L - e = (L - (e + 1)) + 1 by omega, rn, if_neg (by decide), if_neg (by decide), if_neg (fun h => absurd h.1 (by decide)), if_pos ⟨rfl, ha.2⟩]
        rw [er]
        obtain ⟨x5, o1, o2, o3⟩ := h
        refine ⟨x5, ?_, frx_tr hF4 o2, o3⟩
        rw [← o1]
        simp (discharger := omega) only [L_X4_isText_17, e1, e4, bd_e, bo_e, bm_e, bts_l, bts_r, btm_l, btm_r, bp_lt, ck_ib, ck_z, ck_o, ifT, ifF, n10, n01, pv_v, if_pos, if_neg, zI_nat, zI_add, zI_mul, zI_addl, zI_laddl, zI_mull, zI_lmul, zI_subl, zI_pred, zI_le, zI_lt, zI_eq, zI_lel, zI_lle, zI_ltl, zI_llt, zI_eql, zI_leq, zI_ne1, zI_1ne]
        rw [← hx3]
        simp (discharger := omega) only [hA, f7, J_X4_isText_63, bd_e, bo_e, bm_e, bts_l, bts_r, btm_l, btm_r, bp_lt, ck_ib, ck_z, ck_o, ifT, ifF, n10, n01, pv_v, if_pos, if_neg, zI_nat, zI_add, zI_mul, zI_addl, zI_laddl, zI_mull, zI_lmul, zI_subl, zI_pred, zI_le, zI_lt, zI_eq, zI_lel, zI_lle, zI_ltl, zI_llt, zI_eql, zI_leq, zI_ne1, zI_1ne]
        rw [← hx4]
      · rw [if_neg (fun h => ha ⟨h.1, by omega⟩)] at hA
        obtain ⟨x4, hx4⟩ : ∃ x4, x4 = wI x3 (3, 0, 0, 0) 7 (zI e) := ⟨_, rfl⟩
        have hF4 : FrX x x4 := by rw [hx4]; exact frx_tr hF3 (frx_0 x3 (Or.inl rfl) _)
        have g7 : x4.1 (3, 0, 0, 0) 7 = zI e := by rw [hx4, wI_eq, upd_eq]
        have g5 := (tx_frx hT hF4).1
        obtain ⟨n3, rfl⟩ : ∃ n3, n2 = n3 + 1 := ⟨n2 - 1, by omega⟩
        have a0 : zI e + 0 = zI e := Int32.add_zero _
        have er : (rn c d p 0 k ng v tl ts tn) = (e, decide (e = L), k + 1, tl2, ts2, tn2) := by
          rw [e8]
          by_cases hel : e = L
          · rw [show L - e = 0 by omega, decide_eq_true hel]; rfl
          · rw [show L - e = (L - e - 1) + 1 by omega, rn, if_neg (by decide), if_neg (by decide), if_neg (fun h => absurd h.1 (by decide)), if_neg (fun h => ha ⟨by omega, h.2⟩), if_neg (fun h => e10 ⟨h.1 rfl, by omega, h.2⟩), decide_eq_false hel]
        rw [er]
        refine ⟨wI x4 (3, 0, 0, 0) 8 (flg e L), ?_, frx_tr hF4 (frx_0 x4 (Or.inr (Or.inl rfl)) _), ?_, ?_, fun _ => ⟨?_, fun j hj => ?_⟩⟩
        · have h8 : (wI x4 (3, 0, 0, 0) 8 (flg e L)).1 (3, 0, 0, 0) 7 = zI e := by rw [wI_eq, upd_ne _ (by decide)]; exact g7
          have h85 : (wI x4 (3, 0, 0, 0) 8 (flg e L)).1 (3, 0, 0, 0) 5 = zI L := by rw [wI_eq, upd_ne _ (by decide)]; exact g5
          by_cases hel : e = L
          · have hle : L ≤ e := by omega
            have fl : flg e L = 0 := if_neg (by omega)
            rw [fl] at h8 h85 ⊢
            rw [decide_eq_true hel]
            simp (discharger := omega) only [L_X4_isText_17, e1, e4, bd_e, bo_e, bm_e, bts_l, bts_r, btm_l, btm_r, bp_lt, ck_ib, ck_z, ck_o, ifT, ifF, n10, n01, pv_v, if_pos, if_neg, zI_nat, zI_add, zI_mul, zI_addl, zI_laddl, zI_mull, zI_lmul, zI_subl, zI_pred, zI_le, zI_lt, zI_eq, zI_lel, zI_lle, zI_ltl, zI_llt, zI_eql, zI_leq, zI_ne1, zI_1ne]
            rw [← hx3]
            simp (discharger := omega) only [hA, f7, J_X4_isText_63, a0, bd_e, bo_e, bm_e, bts_l, bts_r, btm_l, btm_r, bp_lt, ck_ib, ck_z, ck_o, ifT, ifF, n10, n01, pv_v, if_pos, if_neg, zI_nat, zI_add, zI_mul, zI_addl, zI_laddl, zI_mull, zI_lmul, zI_subl, zI_pred, zI_le, zI_lt, zI_eq, zI_lel, zI_lle, zI_ltl, zI_llt, zI_eql, zI_leq, zI_ne1, zI_1ne]
            rw [← hx4]
            simp (discharger := omega) only [L_X4_isText_17, C_X4_isText_70, J_X4_isText_87, g7, g5, hle, h8, h85, hel, J_X4_isText_106, bd_e, bo_e, bm_e, bts_l, bts_r, btm_l, btm_r, bp_lt, ck_ib, ck_z, ck_o, ifT, ifF, n10, n01, pv_v, if_pos, if_neg, zI_nat, zI_add, zI_mul, zI_addl, zI_laddl, zI_mull, zI_lmul, zI_subl, zI_pred, zI_le, zI_lt, zI_eq, zI_lel, zI_lle, zI_ltl, zI_llt, zI_eql, zI_leq, zI_ne1, zI_1ne]
          · have hle : ¬ L ≤ e := by omega
            have fl : flg e L = 1 := if_pos (by omega)
            rw [fl] at h8 h85 ⊢
            rw [decide_eq_false hel]
            simp (discharger := omega) only [L_X4_isText_17, e1, e4, bd_e, bo_e, bm_e, bts_l, bts_r, btm_l, btm_r, bp_lt, ck_ib, ck_z, ck_o, ifT, ifF, n10, n01, pv_v, if_pos, if_neg, zI_nat, zI_add, zI_mul, zI_addl, zI_laddl, zI_mull, zI_lmul, zI_subl, zI_pred, zI_le, zI_lt, zI_eq, zI_lel, zI_lle, zI_ltl, zI_llt, zI_eql, zI_leq, zI_ne1, zI_1ne]
            rw [← hx3]
            simp (discharger := omega) only [hA, f7, J_X4_isText_63, a0, bd_e, bo_e, bm_e, bts_l, bts_r, btm_l, btm_r, bp_lt, ck_ib, ck_z, ck_o, ifT, ifF, n10, n01, pv_v, if_pos, if_neg, zI_nat, zI_add, zI_mul, zI_addl, zI_laddl, zI_mull, zI_lmul, zI_subl, zI_pred, zI_le, zI_lt, zI_eq, zI_lel, zI_lle, zI_ltl, zI_llt, zI_eql, zI_leq, zI_ne1, zI_1ne]
            rw [← hx4]
            simp (discharger := omega) only [L_X4_isText_17, C_X4_isText_70, J_X4_isText_87, g7, g5, hle, h8, h85, hel, J_X4_isText_106, Bool.false_eq_true, bd_e, bo_e, bm_e, bts_l, bts_r, btm_l, btm_r, bp_lt, ck_ib, ck_z, ck_o, ifT, ifF, n10, n01, pv_v, if_pos, if_neg, zI_nat, zI_add, zI_mul, zI_addl, zI_laddl, zI_mull, zI_lmul, zI_subl, zI_pred, zI_le, zI_lt, zI_eq, zI_lel, zI_lle, zI_ltl, zI_llt, zI_eql, zI_leq, zI_ne1, zI_1ne]
        · rw [wI_eq, upd_ne _ (by decide)]; exact g7
        · rw [wI_eq, upd_eq]
        · rw [wI_eq, upd_ne _ (by decide), hx4, wI_eq, upd_ne _ (by decide)]; exact f10
        · rw [wI_ne (by decide), hx4, wI_ne (by decide)]; exact hD3 j hj
theorem m_isText {tx : Nat → Int32} (hL : L ≤ 40) (h5 : x.1 (3, 0, 0, 0) 5 = zI L) (ht : ∀ i, i < L → x.1 (3, 0, 0, 4) i = tx i) (hr : ∀ i, i < L → 33 ≤ tx i ∧ tx i ≤ 126) : XE L x (F_X4_isText x) (rd0 tx L) := by
  have hF : FrX x (wI (wI (wI x (3, 0, 0, 0) 7 0) (3, 0, 0, 0) 10 0) (3, 0, 0, 0) 8 0) := frx_tr (frx_tr (frx_0 _ (Or.inl rfl) _) (frx_0 _ (Or.inr (Or.inr rfl)) _)) (frx_0 _ (Or.inr (Or.inl rfl)) _)
  have hT : TX (fun i => Int32.toNatClampNeg (tx i)) L x := ⟨h5, fun j hj => by rw [ht j hj]; exact (tx_c (hr j hj)).2⟩
  obtain ⟨x2, e1, e2, e3⟩ := m_run (L := L) (c := fun i => Int32.toNatClampNeg (tx i)) L 0 0 false 0 (fun _ => 0) (fun _ => 0) (fun _ => 0) _ fu (by omega) hL (by omega) (fun j hj => (tx_c (hr j hj)).1) (by rw [fu_eq]; omega) (by rw [wI_eq, upd_ne _ (by decide), wI_eq, upd_ne _ (by decide), wI_eq, upd_eq]; rfl) (by rw [wI_eq, upd_ne _ (by decide), wI_eq, upd_eq]; rfl) (tx_frx hT hF) (fun j hj => absurd hj (Nat.not_lt_zero j))
  refine ⟨x2, ?_, frx_tr hF e2, e3⟩
  simp only [F_X4_isText, bd_e, ck_z]
  exact e1
end QG
