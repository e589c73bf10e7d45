/-! the world of the law: labels, memory, cells; words that stay; one judgement G for a frame at a pc -/
-- words that stay
def isNest : Cond → Bool
  | .fieldLinkNest .. => true
  | .methodLinkNest .. => true
  | _ => false
def okw (w : Cond) : Bool := isNest w || (goodWord w || (w.faceAtom && w.onTables))
theorem okw_at {args a' : Array Value} {s U : State} {w : Cond} (hW : s.WarmedH U.vm) (hg : okw w = true) (h : w.before args s = true) : w.before a' U = true := by
  unfold okw at hg
  rw [Bool.or_eq_true, Bool.or_eq_true, Bool.and_eq_true] at hg
  rcases hg with hg | hg | ⟨h1, h2⟩
  · cases w <;> first
      | (simp [isNest] at hg; done)
      | exact va_tabs rfl (rfl : (s.setVm U.vm).vm = U.vm) (Cond.fieldLinkNest_warmed (args := args) hW h)
      | exact va_tabs rfl (rfl : (s.setVm U.vm).vm = U.vm) (Cond.methodLinkNest_warmed (args := args) hW h)
  · exact word_at hW (good_of_word hg) h
  · exact va_tabs h2 (rfl : (s.setVm U.vm).vm = U.vm) (Cond.faceAtom_setVm hW.alike _ h1 h)
def Wd (U : State) : Prop := ∀ w ∈ lw_tbl, okw w = true → w.before #[] U = true
theorem Wd.warm {s U : State} (hW : s.WarmedH U.vm) (h : Wd s) : Wd U := fun w h1 h2 => okw_at hW h2 (h w h1 h2)
theorem Wd.use {s : State} (h : Wd s) (args : Array Value) {w : Cond} (i : Nat) (hi : lw_tbl[i]? = some w) (h2 : okw w = true) : w.before args s = true := okw_at (State.WarmedH.refl s) h2 (h w (List.mem_of_getElem? hi) h2)
-- labels and memory
abbrev Lb : Type := Nat × Nat × Nat × Nat
abbrev Mem : Type := (Lb → Nat → Int32) × (Nat → Nat) × Int64
abbrev XW : Type := va_G × (Lb → Nat) × (ClassId × ClassId × ClassId × ClassId × ClassId) × Nat × Nat × Nat × (Nat → Int32)
abbrev xD (X : XW) : va_G := X.1
abbrev xad (X : XW) : Lb → Nat := X.2.1
abbrev xcI (X : XW) : ClassId := X.2.2.1.1
abbrev xcZ (X : XW) : ClassId := X.2.2.1.2.1
abbrev xcL (X : XW) : ClassId := X.2.2.1.2.2.1
abbrev xcS (X : XW) : ClassId := X.2.2.1.2.2.2.1
abbrev xcT (X : XW) : ClassId := X.2.2.1.2.2.2.2
abbrev xz (X : XW) : Nat := X.2.2.2.1
abbrev xb (X : XW) : Nat := X.2.2.2.2.1
abbrev xL (X : XW) : Nat := X.2.2.2.2.2.1
abbrev xs (X : XW) : Nat → Int32 := X.2.2.2.2.2.2
def xA (X : XW) : Nat → Prop := fun q => xz X ≤ q
def xtys (X : XW) : List (ClassId × FieldType) := [(xcI X, .int), (xcZ X, .boolean), (xcL X, .byte), (xcS X, .object RX1), (xcT X, .object RX2)]
def lbs : List Lb := (List.range 8).map (fun k => (0, 0, 0, k)) ++ (List.range 7).flatMap (fun i => (List.range 4).map (fun k => (1, i, 0, k)) ++ (List.range 3).flatMap (fun j => (List.range 4).map (fun k => (2, i, j, k))))
abbrev eI (X : XW) (n : Nat) (f : Nat → Int32) : va_E := .inl (xcI X, n, .inl f)
-- the objects' fields, by the pointers and the ints that they hold
def fsX3 (X : XW) (q : Nat → Nat) (f : Nat → Int32) : List Value := [.ref (xad X (0,0,0,1)), .ref (xad X (0,0,0,2)), .ref (xad X (0,0,0,3)), .ref (xad X (0,0,0,4)), .ref (xad X (1, q 6, 0, 0)), .int (f 5), .int (f 6)]
def fsX0 (X : XW) (_ : Nat → Nat) (f : Nat → Int32) : List Value := [.ref (xad X (0,0,0,5)), .ref (xad X (0,0,0,6)), .ref (xad X (0,0,0,7)), .int (f 3), .int (f 4), .int (f 5)]
def fsX1 (X : XW) (i : Nat) (_ : Nat → Nat) (f : Nat → Int32) : List Value := [.ref (xad X (1,i,0,1)), .ref (xad X (1,i,0,2)), .ref (xad X (1,i,0,3)), .int (f 3)]
def fsX2 (X : XW) (i j : Nat) (_ : Nat → Nat) (f : Nat → Int32) : List Value := [.ref (xad X (2,i,j,1)), .ref (xad X (2,i,j,2)), .ref (xad X (2,i,j,3)), .int (f 3), .int (f 4), .int (f 5), .int (f 6), .int (f 7), .int (f 8), .int (f 9)]
def svf (X : XW) (q : Nat → Nat) : Nat → Option Nat := fun k => if k < 6 then some (xad X (1, q k, 0, 0)) else none
def tnf (X : XW) (i : Nat) : Nat → Option Nat := fun j => if j < 3 then some (xad X (2, i, j, 0)) else none
/-- what the cell of a label holds -/
def ce (X : XW) (lb : Lb) (m : Mem) : va_E := match lb with
  | (0, _, _, 0) => .inr (3, fsX3 X m.2.1 (m.1 (0,0,0,0)))
  | (0, _, _, 1) => .inl (xcS X, 6, .inr (.inr (.inr (.inr (svf X m.2.1)))))
  | (0, _, _, 2) => eI X 40 (m.1 (0,0,0,2))
  | (0, _, _, 3) => .inr (0, fsX0 X m.2.1 (m.1 (0,0,0,3)))
  | (0, _, _, 4) => eI X 120 (m.1 (0,0,0,4))
  | (0, _, _, 5) => eI X 10 (m.1 (0,0,0,5))
  | (0, _, _, 6) => eI X 10 (m.1 (0,0,0,6))
  | (0, _, _, _) => eI X 10 (m.1 (0,0,0,7))
  | (1, i, _, 0) => .inr (1, fsX1 X i m.2.1 (m.1 (1,i,0,0)))
  | (1, i, _, 1) => .inl (xcT X, 3, .inr (.inr (.inr (.inr (tnf X i)))))
  | (1, i, _, 2) => eI X 120 (m.1 (1,i,0,2))
  | (1, i, _, _) => eI X 960 (m.1 (1,i,0,3))
  | (2, i, j, 0) => .inr (2, fsX2 X i j m.2.1 (m.1 (2,i,j,0)))
  | (2, i, j, 1) => eI X 8 (m.1 (2,i,j,1))
  | (2, i, j, 2) => eI X 8 (m.1 (2,i,j,2))
  | (2, i, j, _) => .inl (xcZ X, 8, .inl (m.1 (2,i,j,3)))
  | (_, _, _, _) => eI X 0 (fun _ => 0)
def cel (X : XW) (m : Mem) : va_W := lbs.map (fun lb => (xad X lb, ce X lb m))
def Hp (X : XW) (m : Mem) (H : Heap) : Prop := va_P (xD X) vwCl (cel X m) H ∧ va_D (xA X) (cel X m)
/-- what stays of a start: the tables' words, the classes, the statics of a throw, its texts, the script -/
def Old (X : XW) (U : State) : Prop := Wd U ∧ va_K (xD X) vwCl (xtys X) U ∧ vx_Zq Bundle.tN "UNASSIGNED_STACK" Bundle.steD (xA X) U U.heap ∧ vx_Zq Bundle.tN "SUPPRESSED_SENTINEL" Bundle.listD (xA X) U U.heap ∧
  (∃ a, vk_R RX3 150 "the buffer is full" a U) ∧ (∃ a, vk_R RX3 182 "no state is saved" a U) ∧ (∃ a, vk_R RX3 269 "an argument is out of range, or the buffer tells no question" a U) ∧ (∃ a, vk_R RX3 274 "there is no such row" a U) ∧
  va_X (xb X) (xL X) (xs X) U U.heap ∧ xb X < xz X ∧ xz X ≤ U.heap.size ∧ True ∧ True
theorem Old.moved {X : XW} {s U : State} {locs : List Loc} (h : Old X s) (hW : s.WarmedH U.vm) (hS : va_S (xA X) s.heap U.heap locs) : Old X U := by
  obtain ⟨h1, h2, h3, h4, ⟨a1, h5⟩, ⟨a2, h6⟩, ⟨a3, h7⟩, ⟨a4, h8⟩, h9, h10, h11, h12, h13⟩ := h
  refine ⟨h1.warm hW, va_K.moved hW.alike h2, vx_Zq.moved hW.alike (h3.kept hS.2.1), vx_Zq.moved hW.alike (h4.kept hS.2.1), ⟨a1, h5.warm hW⟩, ⟨a2, h6.warm hW⟩, ⟨a3, h7.warm hW⟩, ⟨a4, h8.warm hW⟩, ?_, h10, Nat.le_trans h11 hS.1, trivial, trivial⟩
  exact va_X.moved hW.alike (va_X.kept h9 (hS.2.1 _ (Nat.lt_of_lt_of_le h10 h11) (Nat.not_le.mpr h10)))
theorem Old.same {X : XW} {s U : State} (h : Old X s) (hvm : U.vm = s.vm) (hh : U.heap = s.heap) : Old X U := h.moved (locs := []) (by rw [hvm]; exact State.WarmedH.refl s) (by rw [hh]; exact va_S.rf)
-- labels' places
theorem lbs_nd : lbs.Nodup := by decide +kernel
theorem in_main : ∀ k, k < 8 → ((0, 0, 0, k) : Lb) ∈ lbs := by decide +kernel
theorem in_st : ∀ i, i < 7 → ∀ k, k < 4 → ((1, i, 0, k) : Lb) ∈ lbs := by
  intro i hi k hk
  have h : ∀ i : Fin 7, ∀ k : Fin 4, ((1, i.1, 0, k.1) : Lb) ∈ lbs := by decide +kernel
  exact h ⟨i, hi⟩ ⟨k, hk⟩
theorem in_tn : ∀ i, i < 7 → ∀ j, j < 3 → ∀ k, k < 4 → ((2, i, j, k) : Lb) ∈ lbs := by
  intro i hi j hj k hk
  have h : ∀ i : Fin 7, ∀ j : Fin 3, ∀ k : Fin 4, ((2, i.1, j.1, k.1) : Lb) ∈ lbs := by decide +kernel
  exact h ⟨i, hi⟩ ⟨j, hj⟩ ⟨k, hk⟩
theorem cel_at (X : XW) (m : Mem) {lb : Lb} (h : lb ∈ lbs) : ∃ q : Nat, lbs[q]? = some lb ∧ (cel X m)[q]? = some (xad X lb, ce X lb m) := by
  obtain ⟨q, hq⟩ := List.getElem?_of_mem h
  exact ⟨q, hq, by unfold cel; rw [List.getElem?_map, hq]; rfl⟩
theorem cel_set (X : XW) {m m' : Mem} {lb : Lb} {q : Nat} (hq : lbs[q]? = some lb) (hne : ∀ lb' ∈ lbs, lb' ≠ lb → ce X lb' m' = ce X lb' m) : (cel X m).set q (xad X lb, ce X lb m') = cel X m' := by
  apply List.ext_getElem?
  intro k
  by_cases hk : q = k
  · subst hk
    have hl : q < (cel X m).length := by unfold cel; rw [List.length_map]; exact (List.getElem?_eq_some_iff.mp hq).1
    rw [List.getElem?_set_self hl]
    unfold cel
    rw [List.getElem?_map, hq]; rfl
  · rw [List.getElem?_set_ne hk]
    unfold cel
    rw [List.getElem?_map, List.getElem?_map]
    cases hk2 : lbs[k]? with
    | none => rfl
    | some lb' =>
      have hl' : lb' ≠ lb := by
        intro e
        subst e
        obtain ⟨h1, e1⟩ := List.getElem?_eq_some_iff.mp hq
        obtain ⟨h2, e2⟩ := List.getElem?_eq_some_iff.mp hk2
        have hn := List.pairwise_iff_getElem.mp lbs_nd
        rcases Nat.lt_or_gt_of_ne hk with h3 | h3
        · exact hn q k h1 h2 h3 (e1.trans e2.symm)
        · exact hn k q h2 h1 h3 (e2.trans e1.symm)
      simp only [Option.map_some]
      rw [hne lb' (List.mem_of_getElem? hk2) hl']

-- the parts of lbs, and which cell depends on what
theorem lbs_cases {lb : Lb} (h : lb ∈ lbs) : (∃ k, k < 8 ∧ lb = (0, 0, 0, k)) ∨ (∃ i k, i < 7 ∧ k < 4 ∧ lb = (1, i, 0, k)) ∨ (∃ i j k, i < 7 ∧ j < 3 ∧ k < 4 ∧ lb = (2, i, j, k)) := by
  unfold lbs at h
  simp only [List.mem_append, List.mem_flatMap, List.mem_map, List.mem_range] at h
  rcases h with ⟨k, hk, rfl⟩ | ⟨i, hi, (⟨k, hk, rfl⟩ | ⟨j, hj, k, hk, rfl⟩)⟩
  · exact Or.inl ⟨k, hk, rfl⟩
  · exact Or.inr (Or.inl ⟨i, k, hi, hk, rfl⟩)
  · exact Or.inr (Or.inr ⟨i, j, k, hi, hj, hk, rfl⟩)
theorem ce_loc (X : XW) {lb : Lb} (h : lb ∈ lbs) {m m' : Mem} (h1 : m'.1 lb = m.1 lb) (h2 : m'.2 = m.2) : ce X lb m' = ce X lb m := by
  rcases lbs_cases h with ⟨k, hk, rfl⟩ | ⟨i, k, hi, hk, rfl⟩ | ⟨i, j, k, hi, hj, hk, rfl⟩
  · rcases (show k = 0 ∨ k = 1 ∨ k = 2 ∨ k = 3 ∨ k = 4 ∨ k = 5 ∨ k = 6 ∨ k = 7 by omega) with rfl | rfl | rfl | rfl | rfl | rfl | rfl | rfl <;> simp only [ce, h1, h2]
  · rcases (show k = 0 ∨ k = 1 ∨ k = 2 ∨ k = 3 by omega) with rfl | rfl | rfl | rfl <;> simp only [ce, h1, h2]
  · rcases (show k = 0 ∨ k = 1 ∨ k = 2 ∨ k = 3 by omega) with rfl | rfl | rfl | rfl <;> simp only [ce, h1, h2]
theorem ce_ptr (X : XW) {lb : Lb} (h : lb ∈ lbs) (h0 : lb ≠ (0, 0, 0, 0)) (h3 : lb ≠ (0, 0, 0, 1)) {m m' : Mem} (h1 : m'.1 = m.1) (_h2 : m'.2.2 = m.2.2) : ce X lb m' = ce X lb m := by
  rcases lbs_cases h with ⟨k, hk, rfl⟩ | ⟨i, k, hi, hk, rfl⟩ | ⟨i, j, k, hi, hj, hk, rfl⟩
  · rcases (show k = 0 ∨ k = 1 ∨ k = 2 ∨ k = 3 ∨ k = 4 ∨ k = 5 ∨ k = 6 ∨ k = 7 by omega) with rfl | rfl | rfl | rfl | rfl | rfl | rfl | rfl <;> first | exact absurd rfl h0 | exact absurd rfl h3 | (simp only [ce, h1, fsX0])
  · rcases (show k = 0 ∨ k = 1 ∨ k = 2 ∨ k = 3 by omega) with rfl | rfl | rfl | rfl <;> simp only [ce, h1, fsX1]
  · rcases (show k = 0 ∨ k = 1 ∨ k = 2 ∨ k = 3 by omega) with rfl | rfl | rfl | rfl <;> simp only [ce, h1, fsX2]
-- writes
def wA (m : Mem) (lb : Lb) (f : Nat → Int32) : Mem := (fun b => if b = lb then f else m.1 b, m.2)
def wI (m : Mem) (lb : Lb) (k : Nat) (v : Int32) : Mem := wA m lb (upd (m.1 lb) k v)
def wP (m : Mem) (k q : Nat) : Mem := (m.1, (fun j => if j = k then q else m.2.1 j), m.2.2)
def wO (m : Mem) (v : Int64) : Mem := (m.1, m.2.1, v)
theorem wA_self (m : Mem) (lb : Lb) (f : Nat → Int32) : (wA m lb f).1 lb = f := if_pos rfl
theorem wA_ne (m : Mem) {lb b : Lb} (f : Nat → Int32) (h : b ≠ lb) : (wA m lb f).1 b = m.1 b := if_neg h
theorem ce_wA (X : XW) (m : Mem) (lb : Lb) (f : Nat → Int32) : ∀ lb' ∈ lbs, lb' ≠ lb → ce X lb' (wA m lb f) = ce X lb' m := fun lb' h hne => ce_loc X h (wA_ne m f hne) rfl
