/-! the text of a question: what both readers make of it, character by character -/
def sn (ng : Bool) (v : Nat) : Int32 := if ng = true then -(zI v) else zI v
abbrev RT7 : Type := Nat × Bool × Nat × (Nat → Int32) × (Nat → Int32) × (Nat → Int32)
def rn (c : Nat → Nat) : Nat → Nat → Nat → Nat → Bool → Nat → (Nat → Int32) → (Nat → Int32) → (Nat → Int32) → RT7
  | 0, i, rd, nt, _, _, tl, ts, tn => (i, decide (rd = 4), nt, tl, ts, tn)
  | d + 1, i, rd, nt, ng, v, tl, ts, tn =>
    if rd = 0 then (if 97 ≤ c i ∧ c i ≤ 104 then rn c d (i + 1) 1 (nt + 1) false 0 (upd tl nt (zI (c i - 97))) (upd ts nt 0) (upd tn nt 0) else (i, false, nt, tl, ts, tn))
    else if rd = 1 then (if 60 ≤ c i ∧ c i ≤ 62 then rn c d (i + 1) 2 nt ng v tl (upd ts (nt - 1) (zI (c i))) tn else (i, false, nt, tl, ts, tn))
    else if rd = 2 ∧ c i = 45 then rn c d (i + 1) 3 nt true v tl ts tn
    else if rd = 4 ∧ c i = 38 then rn c d (i + 1) 0 nt ng v tl ts tn
    else if (rd = 4 → 0 < v ∧ v < 1000) ∧ 48 ≤ c i ∧ c i ≤ 57 then rn c d (i + 1) 4 nt ng (v * 10 + (c i - 48)) tl ts (upd tn (nt - 1) (sn ng (v * 10 + (c i - 48))))
    else (i, false, nt, tl, ts, tn)
def off (rd : Nat) : Nat := if rd = 0 then 0 else if rd = 1 then 3 else if rd = 2 then 2 else 1
/-- what holds of the reader's state at a place -/
def GI (i rd nt : Nat) (ng : Bool) (v : Nat) (tn : Nat → Int32) : Prop := rd ≤ 4 ∧ 4 * nt ≤ i + off rd ∧ (1 ≤ rd → 1 ≤ nt ∧ tn (nt - 1) = sn ng v) ∧ v < 10000 ∧ (1 ≤ rd → rd ≤ 3 → v = 0)
def TI (rd nt : Nat) (tl ts tn : Nat → Int32) : Prop := (∀ k, k < nt → ∃ l, l < 8 ∧ tl k = zI l) ∧ (∀ k, k < nt → (k + 1 < nt ∨ rd ≠ 1) → (ts k = 60 ∨ ts k = 61 ∨ ts k = 62)) ∧ ∀ k, k < nt → (-9999 ≤ tn k ∧ tn k ≤ 9999)
section QE
variable {c : Nat → Nat} {L : Nat}
theorem neg_int {n : Nat} (h : n < 2147483648) : (-(zI n)).toInt = -n := by
  show (-(Int32.ofNat n)).toInt = _
  rw [← Int32.ofInt_eq_ofNat, Int32.neg_ofInt, Int32.toInt_ofInt_of_le (by omega) (by omega)]
theorem sn_le (ng : Bool) {v : Nat} (hv : v < 10000) : -9999 ≤ sn ng v ∧ sn ng v ≤ 9999 := by
  have e : (zI v).toInt = v := zI_int (by omega)
  have a1 : ((-9999 : Int32)).toInt = -9999 := by decide
  have a2 : ((9999 : Int32)).toInt = 9999 := by decide
  unfold sn
  cases ng with
  | false =>
    rw [if_neg Bool.false_ne_true, Int32.le_iff_toInt_le, Int32.le_iff_toInt_le, e, a1, a2]
    omega
  | true =>
    have e2 : (-(zI v)).toInt = -v := neg_int (by omega)
    rw [if_pos rfl, Int32.le_iff_toInt_le, Int32.le_iff_toInt_le, e2, a1, a2]
    omega
theorem sn_abs (ng : Bool) {v : Nat} (hv : v < 10000) : (if 0 ≤ sn ng v then sn ng v else 0 - sn ng v) = zI v := by
  have e : (zI v).toInt = v := zI_int (by omega)
  have z : ((0 : Int32)).toInt = 0 := by decide
  unfold sn
  cases ng with
  | false =>
    rw [if_neg Bool.false_ne_true, if_pos (by rw [Int32.le_iff_toInt_le, e, z]; omega)]
  | true =>
    rw [if_pos rfl]
    by_cases h0 : v = 0
    · subst h0; decide
    · have e2 : (-(zI v)).toInt = -v := neg_int (by omega)
      rw [if_neg (by rw [Int32.le_iff_toInt_le, e2, z]; omega), Int32.zero_sub, Int32.neg_neg]
theorem sn_step (ng : Bool) (v g : Nat) : sn ng v * 10 + (if ng = true then -(zI g) else zI g) = sn ng (v * 10 + g) := by
  unfold sn
  cases ng with
  | false => rw [if_neg Bool.false_ne_true, if_neg Bool.false_ne_true, if_neg Bool.false_ne_true, zI_mull, zI_add]
  | true => rw [if_pos rfl, if_pos rfl, if_pos rfl, ← zI_add, Int32.neg_add, ← zI_mull, Int32.neg_mul, Int32.sub_eq_add_neg]
theorem rn_tk : ∀ (d i rd nt : Nat) (ng : Bool) (v : Nat) (tl ts tn : Nat → Int32), i + d = L → L ≤ 40 → GI i rd nt ng v tn → TI rd nt tl ts tn → (rn c d i rd nt ng v tl ts tn).1 ≤ L ∧ ((rn c d i rd nt ng v tl ts tn).2.1 = true → (rn c d i rd nt ng v tl ts tn).1 = L ∧ TK (rn c d i rd nt ng v tl ts tn).2.2.1 (rn c d i rd nt ng v tl ts tn).2.2.2.1 (rn c d i rd nt ng v tl ts tn).2.2.2.2.1 (rn c d i rd nt ng v tl ts tn).2.2.2.2.2) := by
  intro d
  induction d with
  | zero =>
    intro i rd nt ng v tl ts tn hi hL hg ht
    refine ⟨by show i ≤ L; omega, fun h => ⟨by show i = L; omega, ?_⟩⟩
    have h4 : rd = 4 := of_decide_eq_true h
    subst h4
    obtain ⟨g1, g2, g3, g4, g5⟩ := hg
    have o4 : off 4 = 1 := rfl
    rw [o4] at g2
    exact ⟨by show nt ≤ 10; omega, fun k hk => ⟨ht.1 k hk, ht.2.1 k hk (Or.inr (by decide)), ht.2.2 k hk⟩⟩
  | succ d ih =>
    intro i rd nt ng v tl ts tn hi hL hg ht
    have bad : (i, false, nt, tl, ts, tn).1 ≤ L ∧ ((i, false, nt, tl, ts, tn).2.1 = true → (i, false, nt, tl, ts, tn).1 = L ∧ TK (i, false, nt, tl, ts, tn).2.2.1 (i, false, nt, tl, ts, tn).2.2.2.1 (i, false, nt, tl, ts, tn).2.2.2.2.1 (i, false, nt, tl, ts, tn).2.2.2.2.2) := ⟨by show i ≤ L; omega, fun h => absurd h Bool.false_ne_true⟩
    obtain ⟨g1, g2, g3, g4, g5⟩ := hg
    obtain ⟨t1, t2, t3⟩ := ht
    rw [rn]
    by_cases h0 : rd = 0
    · subst h0
      rw [if_pos rfl]
      by_cases hc : 97 ≤ c i ∧ c i ≤ 104
      · rw [if_pos hc]
        have o0 : off 0 = 0 := rfl
        rw [o0] at g2
        refine ih _ _ _ _ _ _ _ _ (by omega) hL ⟨by omega, by show 4 * (nt + 1) ≤ i + 1 + 3; omega, fun _ => ⟨by omega, ?_⟩, by omega, fun _ _ => rfl⟩ ⟨fun k hk => ?_, fun k hk hk2 => ?_, fun k hk => ?_⟩
        · rw [Nat.add_sub_cancel, upd_eq]; rfl
        · by_cases e : k = nt
          · subst e; rw [upd_eq]; exact ⟨c i - 97, by omega, rfl⟩
          · rw [upd_ne _ e]; exact t1 k (by omega)
        · rcases hk2 with hk2 | hk2
          · rw [upd_ne _ (by omega)]; exact t2 k (by omega) (Or.inr (by decide))
          · exact absurd rfl hk2
        · by_cases e : k = nt
          · subst e; rw [upd_eq]; decide
          · rw [upd_ne _ e]; exact t3 k (by omega)
      · rw [if_neg hc]; exact bad
    · rw [if_neg h0]
      by_cases h1 : rd = 1
      · subst h1
        rw [if_pos rfl]
        by_cases hc : 60 ≤ c i ∧ c i ≤ 62
        · rw [if_pos hc]
          have o1 : off 1 = 3 := rfl
          rw [o1] at g2
          refine ih _ _ _ _ _ _ _ _ (by omega) hL ⟨by omega, by show 4 * nt ≤ i + 1 + 2; omega, fun _ => g3 (by omega), g4, fun _ _ => g5 (by omega) (by omega)⟩ ⟨t1, fun k hk hk2 => ?_, t3⟩
          by_cases e : k = nt - 1
          · subst e; rw [upd_eq]
            rcases (show c i = 60 ∨ c i = 61 ∨ c i = 62 by omega) with h | h | h <;> rw [h]
            · exact Or.inl rfl
            · exact Or.inr (Or.inl rfl)
            · exact Or.inr (Or.inr rfl)
          · rw [upd_ne _ e]; exact t2 k hk (Or.inl (by omega))
        · rw [if_neg hc]; exact bad
      · rw [if_neg h1]
        obtain ⟨n1, n2⟩ := g3 (by omega)
        by_cases h2 : rd = 2 ∧ c i = 45
        · rw [if_pos h2]
          obtain ⟨rfl, -⟩ := h2
          have o2 : off 2 = 2 := rfl
          rw [o2] at g2
          have v0 := g5 (by omega) (by omega)
          refine ih _ _ _ _ _ _ _ _ (by omega) hL ⟨by omega, by show 4 * nt ≤ i + 1 + 1; omega, fun _ => ⟨n1, ?_⟩, g4, fun _ _ => v0⟩ ⟨t1, fun k hk _ => t2 k hk (Or.inr (by decide)), t3⟩
          rw [n2, v0]
          cases ng <;> rfl
        · rw [if_neg h2]
          by_cases h4 : rd = 4 ∧ c i = 38
          · rw [if_pos h4]
            obtain ⟨rfl, -⟩ := h4
            have o4 : off 4 = 1 := rfl
            rw [o4] at g2
            exact ih _ _ _ _ _ _ _ _ (by omega) hL ⟨by omega, by show 4 * nt ≤ i + 1 + 0; omega, fun h => absurd h (by omega), g4, fun h => absurd h (by omega)⟩ ⟨t1, fun k hk _ => t2 k hk (Or.inr (by decide)), t3⟩
          · rw [if_neg h4]
            by_cases hd : (rd = 4 → 0 < v ∧ v < 1000) ∧ 48 ≤ c i ∧ c i ≤ 57
            · rw [if_pos hd]
              have hv : v * 10 + (c i - 48) < 10000 := by
                by_cases h44 : rd = 4
                · have := hd.1 h44; omega
                · have := g5 (by omega) (by omega); omega
              have ho : 4 * nt ≤ i + 2 := by
                unfold off at g2
                rw [if_neg h0, if_neg h1] at g2
                by_cases h22 : rd = 2
                · rw [if_pos h22] at g2; omega
                · rw [if_neg h22] at g2; omega
              refine ih _ _ _ _ _ _ _ _ (by omega) hL ⟨by omega, by show 4 * nt ≤ i + 1 + 1; omega, fun _ => ⟨n1, upd_eq _ _ _⟩, hv, fun _ h => absurd h (by omega)⟩ ⟨t1, fun k hk _ => t2 k hk (Or.inr h1), fun k hk => ?_⟩
              by_cases e : k = nt - 1
              · rw [e, upd_eq]; exact sn_le ng hv
              · rw [upd_ne _ e]; exact t3 k hk
            · rw [if_neg hd]; exact bad
end QE

