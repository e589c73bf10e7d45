/-! ask -/
section QO
variable {m m2 mi x : Mem} {n k L T s t nt : Nat} {w w2 tx tl ts tn : Nat → Int32} {pa : Nat → Nat → Int32} {nn TT : Nat → Nat}
theorem nAn_len (w : Nat → Int32) (n nt : Nat) (tl ts tn : Nat → Int32) (t : Nat) : nAn w n nt tl ts tn t = zI (aL w nt tl ts tn t n).length := by
  unfold nAn
  rw [sg_cn (p := fun r => an w nt tl ts tn t r) (fun r _ => rfl)]
  have h := cn_aL w nt tl ts tn t (fun _ => true) n
  rw [cn_low (p := fun _ => true) (n := (aL w nt tl ts tn t n).length) (Nat.le_refl _) (fun _ _ => rfl) (fun r h1 h2 => by omega)] at h
  rw [h]
  exact congrArg zI (cn_congr (fun r _ => (Bool.and_true _).symm))
theorem qp_sv (h : QP m.1 nt tl ts tn) (e : ∀ j, j ≠ 0 → m2.1 (0, 0, 0, j) = m.1 (0, 0, 0, j)) : QP m2.1 nt tl ts tn := by
  refine ⟨by rw [e 3 (by decide)]; exact h.1, fun k hk => ?_⟩
  rw [e 5 (by decide), e 6 (by decide), e 7 (by decide)]
  exact h.2 k hk
theorem qm_f (h : QM m.1 nt tl ts tn) (e10 : m2.1 (3, 0, 0, 0) 10 = m.1 (3, 0, 0, 0) 10) (e5 : m2.1 (3, 0, 0, 5) = m.1 (3, 0, 0, 5)) : QM m2.1 nt tl ts tn := ⟨by rw [e10]; exact h.1, fun k hk => by rw [e5]; exact h.2 k hk⟩
end QO

