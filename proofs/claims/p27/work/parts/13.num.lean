/-! numbers, sums, loops -/
def zI (n : Nat) : Int32 := Int32.ofNat n
theorem zI_nat {n : Nat} (h : n < 2147483648) : Int32.toNatClampNeg (zI n) = n := Int32.toNatClampNeg_ofNat_of_lt h
theorem zI_int {n : Nat} (h : n < 2147483648) : (zI n).toInt = n := Int32.toInt_ofNat_of_lt h
theorem zI_add (a b : Nat) : zI a + zI b = zI (a + b) := (Int32.ofNat_add a b).symm
theorem zI_mul (a b : Nat) : zI a * zI b = zI (a * b) := (Int32.ofNat_mul a b).symm
theorem zI_addl (a k : Nat) : zI a + no_index (OfNat.ofNat k) = zI (a + OfNat.ofNat k) := (Int32.ofNat_add a k).symm
theorem zI_laddl (a k : Nat) : no_index (OfNat.ofNat k) + zI a = zI (OfNat.ofNat k + a) := (Int32.ofNat_add k a).symm
theorem zI_mull (a k : Nat) : zI a * no_index (OfNat.ofNat k) = zI (a * OfNat.ofNat k) := (Int32.ofNat_mul a k).symm
theorem zI_lmul (a k : Nat) : no_index (OfNat.ofNat k) * zI a = zI (OfNat.ofNat k * a) := (Int32.ofNat_mul k a).symm
theorem zI_subl {a k : Nat} (h : (OfNat.ofNat k : Nat) ≤ a) : zI a - no_index (OfNat.ofNat k) = zI (a - OfNat.ofNat k) := (Int32.ofNat_sub a k h).symm
theorem zI_sub {a b : Nat} (h : b ≤ a) : zI a - zI b = zI (a - b) := (Int32.ofNat_sub a b h).symm
theorem zI_pred {a : Nat} (h : 1 ≤ a) : zI a + (-1) = zI (a - 1) := by
  have e : zI (a - 1) = zI a - 1 := Int32.ofNat_sub a 1 h
  rw [e, Int32.sub_eq_add_neg]
theorem zI_le {a b : Nat} (ha : a < 2147483648) (hb : b < 2147483648) : (zI a ≤ zI b) = (a ≤ b) := propext (Int32.ofNat_le_iff_le ha hb)
theorem zI_lt {a b : Nat} (ha : a < 2147483648) (hb : b < 2147483648) : (zI a < zI b) = (a < b) := propext (Int32.ofNat_lt_iff_lt ha hb)
theorem zI_inj {a b : Nat} (ha : a < 2147483648) (hb : b < 2147483648) (h : zI a = zI b) : a = b := by rw [← zI_nat ha, h, zI_nat hb]
theorem zI_eq {a b : Nat} (ha : a < 2147483648) (hb : b < 2147483648) : (zI a = zI b) = (a = b) := propext ⟨zI_inj ha hb, fun h => by rw [h]⟩
theorem zI_lel {a k : Nat} (ha : a < 2147483648) (hk : (OfNat.ofNat k : Nat) < 2147483648) : (zI a ≤ no_index (OfNat.ofNat k)) = (a ≤ OfNat.ofNat k) := zI_le ha hk
theorem zI_lle {a k : Nat} (ha : a < 2147483648) (hk : (OfNat.ofNat k : Nat) < 2147483648) : (no_index (OfNat.ofNat k) ≤ zI a) = (OfNat.ofNat k ≤ a) := zI_le hk ha
theorem zI_ltl {a k : Nat} (ha : a < 2147483648) (hk : (OfNat.ofNat k : Nat) < 2147483648) : (zI a < no_index (OfNat.ofNat k)) = (a < OfNat.ofNat k) := zI_lt ha hk
theorem zI_llt {a k : Nat} (ha : a < 2147483648) (hk : (OfNat.ofNat k : Nat) < 2147483648) : (no_index (OfNat.ofNat k) < zI a) = (OfNat.ofNat k < a) := zI_lt hk ha
theorem zI_eql {a k : Nat} (ha : a < 2147483648) (hk : (OfNat.ofNat k : Nat) < 2147483648) : (zI a = no_index (OfNat.ofNat k)) = (a = OfNat.ofNat k) := zI_eq ha hk
theorem zI_leq {a k : Nat} (ha : a < 2147483648) (hk : (OfNat.ofNat k : Nat) < 2147483648) : (no_index (OfNat.ofNat k) = zI a) = (OfNat.ofNat k = a) := zI_eq hk ha
theorem zI_ne1 {a : Nat} (ha : a < 2147483648) : (zI a = -1) = False := propext ⟨fun h => by
  have h1 : (zI a).toInt = ((-1 : Int32)).toInt := by rw [h]
  rw [zI_int ha] at h1
  have h2 : ((-1 : Int32)).toInt = -1 := by decide
  omega, False.elim⟩
theorem zI_1ne {a : Nat} (ha : a < 2147483648) : (-1 = zI a) = False := propext ⟨fun h => by
  have h2 := zI_ne1 ha
  rw [← h2]; exact h.symm, False.elim⟩
theorem zI_of {v : Int32} (h : 0 ≤ v) : v = zI v.toNatClampNeg := (Int32.ofNat_toNatClampNeg v h).symm
theorem zI_bnd {v : Int32} {k : Nat} (h : 0 ≤ v) (h2 : v < zI k) (hk : k < 2147483648) : ∃ a, a < k ∧ v = zI a := by
  refine ⟨v.toNatClampNeg, ?_, zI_of h⟩
  rw [zI_of h, zI_lt (Int32.toNatClampNeg_lt v) hk] at h2
  exact h2
theorem ib_zI {a N : Nat} (h : a < N) (ha : a < 2147483648) : ib (zI a) N = true := by
  unfold ib
  rw [zI_int ha, Bool.and_eq_true, decide_eq_true_eq, decide_eq_true_eq]
  omega
theorem ck_ib {α : Type} {a N : Nat} {x : Option α} (h : a < N) (ha : a < 2147483648) : ck (ib (zI a) N) x = x := by rw [ib_zI h ha]; rfl
theorem ck_b0 {α : Type} {x : Option α} : ck (isB 0) x = x := rfl
theorem ck_b1 {α : Type} {x : Option α} : ck (isB 1) x = x := rfl
theorem ck_b {α : Type} {v : Int32} {x : Option α} (h : v = 0 ∨ v = 1) : ck (isB v) x = x := by
  rcases h with rfl | rfl <;> rfl
theorem bo_some {α β : Type} {v : β} {f : β → Option α} : bo (some v) f = f v := rfl
theorem bm_some {α β : Type} {v : β} {m : Mem} {f : β → Mem → Option α} : bm (some (v, m)) f = f v m := rfl
theorem bts_inl {β δ : Type} {v : β} {ex : Nat → Option δ} {f : β → Option δ} : bts (some (.inl v)) ex f = f v := rfl
theorem bts_inr {β δ : Type} {c : Nat} {ex : Nat → Option δ} {f : β → Option δ} : bts (some (.inr c)) ex f = ex c := rfl
theorem btm_inl {β δ : Type} {v : β} {m : Mem} {ex : Nat → Mem → Option δ} {f : β → Mem → Option δ} : btm (some (.inl v, m)) ex f = f v m := rfl
theorem btm_inr {β δ : Type} {c : Nat} {m : Mem} {ex : Nat → Mem → Option δ} {f : β → Mem → Option δ} : btm (some (.inr c, m)) ex f = ex c m := rfl
theorem bp_lt {α : Type} {q n : Nat} {f : Nat → Option α} (h : q < n) : bp q n f = f q := if_pos h
theorem ifT {α : Sort _} {i : Decidable True} {a b : α} : @ite α True i a b = a := if_pos trivial
theorem ifF {α : Sort _} {i : Decidable False} {a b : α} : @ite α False i a b = b := if_neg not_false
theorem n10 : ((1 : Int32) = 0) = False := propext ⟨fun h => absurd h (by decide), False.elim⟩
theorem n01 : ((0 : Int32) = 1) = False := propext ⟨fun h => absurd h (by decide), False.elim⟩
-- loops
def fo {α : Type} (g : Nat → α → α) : Nat → α → α
  | 0, a => a
  | n + 1, a => g n (fo g n a)
theorem loop_ex {α β : Type} {L : Nat → α → Int32 → β} {P : Nat → α → Prop} {R : β → Prop} {n : Nat} (hs : ∀ k a r, r < n → P r a → (∃ a2, P (r + 1) a2 ∧ L (k + 1) a (zI r) = L k a2 (zI (r + 1))) ∨ R (L (k + 1) a (zI r))) (he : ∀ k a, P n a → R (L (k + 1) a (zI n))) : ∀ (d r k : Nat) (a : α), r + d = n → d < k → P r a → R (L k a (zI r)) := by
  intro d
  induction d with
  | zero =>
    intro r k a hr hk hp
    obtain ⟨k2, rfl⟩ : ∃ k2, k = k2 + 1 := ⟨k - 1, by omega⟩
    rw [show r = n by omega] at hp ⊢
    exact he k2 a hp
  | succ d ih =>
    intro r k a hr hk hp
    obtain ⟨k2, rfl⟩ : ∃ k2, k = k2 + 1 := ⟨k - 1, by omega⟩
    rcases hs k2 a r (by omega) hp with ⟨a2, hp2, e⟩ | h
    · rw [e]
      exact ih (r + 1) k2 a2 (by omega) (by omega) hp2
    · exact h
theorem loop_fo {α β : Type} {L : Nat → α → Int32 → β} {g : Nat → α → α} {c : α → β} {n : Nat} (hs : ∀ k a r, r < n → L (k + 1) a (zI r) = L k (g r a) (zI (r + 1))) (he : ∀ k a, L (k + 1) a (zI n) = c a) (k : Nat) (hk : n < k) (a : α) : L k a (zI 0) = c (fo g n a) := by
  refine loop_ex (L := L) (P := fun r b => b = fo g r a) (R := fun x => x = c (fo g n a)) (n := n) (fun k2 b r hr hb => Or.inl ⟨g r b, by rw [hb]; rfl, hs k2 b r hr⟩) (fun k2 b hb => by rw [hb]; exact he k2 _) n 0 k a (by omega) hk rfl
def sg (f : Nat → Int32) : Nat → Int32
  | 0 => 0
  | n + 1 => sg f n + f n
theorem fo_sg (f : Nat → Int32) (n : Nat) (a : Int32) : fo (fun r b => b + f r) n a = a + sg f n := by
  induction n with
  | zero => show a = a + 0; rw [Int32.add_zero]
  | succ n ih => show fo (fun r b => b + f r) n a + f n = a + (sg f n + f n); rw [ih, Int32.add_assoc]
theorem loop_sg {β : Type} {L : Nat → Int32 → Int32 → β} {f : Nat → Int32} {c : Int32 → β} {n : Nat} (hs : ∀ k a r, r < n → L (k + 1) a (zI r) = L k (a + f r) (zI (r + 1))) (he : ∀ k a, L (k + 1) a (zI n) = c a) (k : Nat) (hk : n < k) (a : Int32) : L k a (zI 0) = c (a + sg f n) := by
  rw [loop_fo (g := fun r b => b + f r) hs he k hk a, fo_sg]
theorem loop_sg0 {β : Type} {L : Nat → Int32 → Int32 → β} {f : Nat → Int32} {c : Int32 → β} {n : Nat} (hs : ∀ k a r, r < n → L (k + 1) a (zI r) = L k (a + f r) (zI (r + 1))) (he : ∀ k a, L (k + 1) a (zI n) = c a) (k : Nat) (hk : n < k) : L k 0 0 = c (sg f n) := by
  have h := loop_sg hs he k hk 0
  rw [Int32.zero_add] at h
  exact h
theorem loop_fo0 {α β : Type} {L : Nat → α → Int32 → β} {g : Nat → α → α} {c : α → β} {n : Nat} (hs : ∀ k a r, r < n → L (k + 1) a (zI r) = L k (g r a) (zI (r + 1))) (he : ∀ k a, L (k + 1) a (zI n) = c a) (k : Nat) (hk : n < k) (a : α) : L k a 0 = c (fo g n a) := loop_fo hs he k hk a
theorem sg_congr {f g : Nat → Int32} {n : Nat} (h : ∀ r, r < n → f r = g r) : sg f n = sg g n := by
  induction n with
  | zero => rfl
  | succ n ih => show sg f n + f n = sg g n + g n; rw [ih (fun r hr => h r (by omega)), h n (by omega)]
theorem fo_congr {α : Type} {f g : Nat → α → α} {n : Nat} {a : α} (h : ∀ r b, r < n → f r b = g r b) : fo f n a = fo g n a := by
  induction n with
  | zero => rfl
  | succ n ih => show f n (fo f n a) = g n (fo g n a); rw [ih (fun r b hr => h r b (by omega)), h n _ (by omega)]
theorem fu_eq : fu = 10000 := rfl
theorem zI_zero : zI 0 = 0 := rfl
theorem ite01 {c : Prop} [Decidable c] : (if c then (1 : Int32) else 0) = 0 ∨ (if c then (1 : Int32) else 0) = 1 := by
  by_cases h : c
  · rw [if_pos h]; exact Or.inr rfl
  · rw [if_neg h]; exact Or.inl rfl
/-- what the class keeps for no value -/
def pv (v : Int32) : Int32 := if v = -100000 then -1000000 else v
theorem pv_v : pv (-100000) = -1000000 := rfl
/-- a state of the class, its rows, meanings, counts: as the reference has them in w -/
def SR (f : Lb → Nat → Int32) (s : Nat) (w : Nat → Int32) (n : Nat) : Prop :=
  n ≤ 120 ∧ w 1080 = zI n ∧ f (1, s, 0, 0) 3 = zI n ∧ (∀ r, r < n → f (1, s, 0, 2) r = w (9 * r)) ∧ (∀ r, r < n → ∀ c, c < 8 → f (1, s, 0, 3) (r * 8 + c) = pv (w (9 * r + 1 + c))) ∧
  (∀ t, t < 3 → ∀ c, c < 8 → f (2, s, t, 1) c = w (1081 + 8 * t + c) ∧ f (2, s, t, 3) c = w (1129 + 8 * t + c) ∧ (w (1081 + 8 * t + c) ≠ -1 → f (2, s, t, 2) c = w (1105 + 8 * t + c))) ∧
  (∀ t, t < 3 → f (2, s, t, 0) 3 = w (1153 + t) ∧ f (2, s, t, 0) 4 = w (1156 + t) ∧ f (2, s, t, 0) 5 = w (1159 + t) ∧ f (2, s, t, 0) 6 = w (1162 + t) ∧ f (2, s, t, 0) 7 = w (1165 + t) ∧ f (2, s, t, 0) 8 = w (1168 + t) ∧ f (2, s, t, 0) 9 = w (1171 + t)) ∧
  (∀ r, r < n → ∃ t, t < 3 ∧ w (9 * r) = zI t)
section PA
variable {m : Mem} {s n : Nat} {w : Nat → Int32}
theorem p_asN (v : Int32) (m0 : Mem) : F_X3_asNumber v m0 = some (if v = 0 then 0 else 1) := by
  unfold F_X3_asNumber J_X3_asNumber_9
  by_cases h : v = 0
  · rw [if_pos h, if_pos h]
  · rw [if_neg h, if_neg h]
theorem p_owner (h : SR m.1 s w n) {r : Nat} (hr : r < n) {t : Nat} (ht : t < 3) (hw : w (9 * r) = zI t) : F_X1_ownerOf s (zI r) m = some t := by
  obtain ⟨h1, h2, h3, h4, h5, h6, h7, h8⟩ := h
  simp (discharger := omega) only [F_X1_ownerOf, h4 r hr, hw, bd, bo_some, bm_some, bts_inl, bts_inr, btm_inl, btm_inr, bp_lt, ck_ib, ck_b0, ck_b1, ifT, ifF, n10, n01, pv_v, if_pos, if_neg, zI_nat, zI_add, zI_mul, zI_addl, zI_laddl, zI_mull, zI_lmul, zI_subl, zI_pred, zI_le, zI_lt, zI_eq, zI_lel, zI_lle, zI_ltl, zI_llt, zI_eql, zI_leq, zI_ne1, zI_1ne]
theorem p_valueAt (h : SR m.1 s w n) {r c : Nat} (hr : r < n) (hc : c < 8) : F_X1_valueAt s (zI r) (zI c) m = some (pv (w (9 * r + 1 + c))) := by
  obtain ⟨h1, h2, h3, h4, h5, h6, h7, h8⟩ := h
  simp (discharger := omega) only [F_X1_valueAt, h3, h5 r hr c hc, bd, bo_some, bm_some, bts_inl, bts_inr, btm_inl, btm_inr, bp_lt, ck_ib, ck_b0, ck_b1, ifT, ifF, n10, n01, pv_v, if_pos, if_neg, zI_nat, zI_add, zI_mul, zI_addl, zI_laddl, zI_mull, zI_lmul, zI_subl, zI_pred, zI_le, zI_lt, zI_eq, zI_lel, zI_lle, zI_ltl, zI_llt, zI_eql, zI_leq, zI_ne1, zI_1ne]
theorem p_valueAtN (h : SR m.1 s w n) {r : Nat} (hr : r < n) : F_X1_valueAt s (zI r) (-1) m = some (-1000000) := by
  obtain ⟨h1, h2, h3, h4, h5, h6, h7, h8⟩ := h
  unfold F_X1_valueAt J_X1_valueAt_22
  have hn : (-1 : Int32) < 0 := by decide
  have a1 : ¬ zI r < 0 := by
    rw [show (0 : Int32) = zI 0 from rfl, zI_lt (by omega) (by omega)]
    omega
  have a2 : ¬ zI n ≤ zI r := by
    rw [zI_le (by omega) (by omega)]
    omega
  rw [if_neg a1, h3]
  show (if zI n ≤ zI r then some (-1000000) else if (-1 : Int32) < 0 then some (-1000000) else _) = some (-1000000)
  rw [if_neg a2, if_pos hn]
theorem p_rowsOf (h : SR m.1 s w n) (t : Nat) (ht : t < 3) : F_X1_rowsOf s (zI t) m = some (sg (fun r => if w (9 * r) = zI t then 1 else 0) n) := by
  obtain ⟨h1, h2, h3, h4, h5, h6, h7, h8⟩ := h
  unfold F_X1_rowsOf
  refine loop_sg0 (c := some) ?_ ?_ fu (by rw [fu_eq]; omega)
  · intro k a r hr
    by_cases hw : w (9 * r) = zI t
    · simp (discharger := omega) only [L_X1_rowsOf_4, J_X1_rowsOf_28, h3, h4 r hr, hw, p_asN, bd, bo_some, bm_some, bts_inl, bts_inr, btm_inl, btm_inr, bp_lt, ck_ib, ck_b0, ck_b1, ifT, ifF, n10, n01, pv_v, if_pos, if_neg, zI_nat, zI_add, zI_mul, zI_addl, zI_laddl, zI_mull, zI_lmul, zI_subl, zI_pred, zI_le, zI_lt, zI_eq, zI_lel, zI_lle, zI_ltl, zI_llt, zI_eql, zI_leq, zI_ne1, zI_1ne] <;> rfl
    · simp (discharger := omega) only [L_X1_rowsOf_4, J_X1_rowsOf_28, h3, h4 r hr, hw, p_asN, bd, bo_some, bm_some, bts_inl, bts_inr, btm_inl, btm_inr, bp_lt, ck_ib, ck_b0, ck_b1, ifT, ifF, n10, n01, pv_v, if_pos, if_neg, zI_nat, zI_add, zI_mul, zI_addl, zI_laddl, zI_mull, zI_lmul, zI_subl, zI_pred, zI_le, zI_lt, zI_eq, zI_lel, zI_lle, zI_ltl, zI_llt, zI_eql, zI_leq, zI_ne1, zI_1ne]
  · intro k a
    simp (discharger := omega) only [L_X1_rowsOf_4, C_X1_rowsOf_39, h3, Nat.le_refl, bd, bo_some, bm_some, bts_inl, bts_inr, btm_inl, btm_inr, bp_lt, ck_ib, ck_b0, ck_b1, ifT, ifF, n10, n01, pv_v, if_pos, if_neg, zI_nat, zI_add, zI_mul, zI_addl, zI_laddl, zI_mull, zI_lmul, zI_subl, zI_pred, zI_le, zI_lt, zI_eq, zI_lel, zI_lle, zI_ltl, zI_llt, zI_eql, zI_leq, zI_ne1, zI_1ne]
end PA

