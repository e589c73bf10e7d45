/-! the calls that look by a question; append, undo -/
section QK
variable {m mi x : Mem} {n k L T nt : Nat} {w tx tl ts tn : Nat → Int32} {pa : Nat → Nat → Int32} {nn TT : Nat → Nat}
theorem prel_4 (h : PRel m w n k pa nn L tx) (hk : k ≤ 6) (g : Nat → Int32) : PRel (wA m (0, 0, 0, 4) g) w n k pa nn L tx ∧ FrP m (wA m (0, 0, 0, 4) g) := h.step hk (frt_wA (wr4 _) m g) (sr_wA h.2.2.2.1 4 g)
theorem gt0_of {l : List Nat} {g : Nat → Int32} (h : FH g l) {j : Nat} (hj : j < l.length) : g j = zI (gt0 l j) := by
  refine h j _ ?_
  unfold gt0
  rw [List.getD_eq_getElem?_getD, List.getElem?_eq_getElem hj]
  rfl
theorem gt0_mem {l : List Nat} {j : Nat} (hj : j < l.length) : gt0 l j ∈ l := by
  unfold gt0
  rw [List.getD_eq_getElem?_getD, List.getElem?_eq_getElem hj]
  exact List.getElem_mem hj
theorem sd_none (w : Nat → Int32) {α : Nat → Nat} {a : Nat} (hα : ∀ i j, i < j → j < a → α i < α j) : SD w (-1) α a := by
  intro i j hij hj
  have e : ∀ r, ky w (-1) r = 10000000000 := fun r => if_pos rfl
  exact Or.inr ⟨by rw [e, e], hα i j hij hj⟩
/- an answer by its place, the class's side -/
theorem p_answered (hP : PRel m w n k pa nn L tx) (hA : AInv w n T k pa nn TT L tx) (hq : QP m.1 nt tl ts tn) (hk : TK nt tl ts tn) {t : Nat} (ht : t < 3) {c : Int32} (hc : isC c) : ∃ g, F_X3_collectAnswers (zI t) m = some (zI (aL w nt tl ts tn t n).length, wA m (0, 0, 0, 4) g) ∧ (aL w nt tl ts tn t n).length ≤ 120 ∧ (∀ j, j < (aL w nt tl ts tn t n).length → g j = zI (gt0 (aL w nt tl ts tn t n) j)) ∧
    ∃ g2 σ, F_X3_sortAnswers (zI (aL w nt tl ts tn t n).length) c (wA m (0, 0, 0, 4) g) = some ((), wA m (0, 0, 0, 4) g2) ∧ (∀ j, j < (aL w nt tl ts tn t n).length → g2 j = zI (σ j)) ∧ SD w c σ (aL w nt tl ts tn t n).length ∧ SP σ (gt0 (aL w nt tl ts tn t n)) (aL w nt tl ts tn t n).length := by
  have hs := hP.1 6 (by omega)
  obtain ⟨g, e, hg⟩ := p_collect hP.2.2.2.1 hs hA.1 hq hk ht
  have hl := aL_len w nt tl ts tn t n
  have hn := hA.1.1
  have hgg : ∀ j, j < (aL w nt tl ts tn t n).length → g j = zI (gt0 (aL w nt tl ts tn t n) j) := fun j hj => gt0_of hg hj
  exact ⟨g, e, by omega, hgg, p_sort hP.2.2.2.1 hs hA.1 hc (by omega) (aL_asc w nt tl ts tn t n) (fun j hj => (aL_lt (gt0_mem hj)).1) g hgg⟩
/- the question of the text: both read it, or both read none -/
end QK

