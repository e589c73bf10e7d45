/-! frames of the class's state s: what its writers leave alone -/
def Wr (s : Nat) (lb : Lb) : Prop := lb = (0, 0, 0, 4) ∨ ((lb.1 = 1 ∨ lb.1 = 2) ∧ lb.2.1 = s)
def FrT (s : Nat) (m m2 : Mem) : Prop := (∀ lb : Lb, ¬ Wr s lb → m2.1 lb = m.1 lb) ∧ m2.2 = m.2
section QA
variable {m m2 m3 : Mem} {s n k L nt : Nat} {w w2 tx tl ts tn : Nat → Int32} {pa : Nat → Nat → Int32} {nn : Nat → Nat}
theorem frt_rf (s : Nat) (m : Mem) : FrT s m m := ⟨fun _ _ => rfl, rfl⟩
theorem FrT.tr (h1 : FrT s m m2) (h2 : FrT s m2 m3) : FrT s m m3 := ⟨fun lb h => (h2.1 lb h).trans (h1.1 lb h), h2.2.trans h1.2⟩
theorem frt_wA {lb : Lb} (h : Wr s lb) (m : Mem) (f : Nat → Int32) : FrT s m (wA m lb f) := ⟨fun lb2 h2 => wA_ne m f (fun e => h2 (by rw [e]; exact h)), rfl⟩
theorem frt_wI {lb : Lb} (h : Wr s lb) (m : Mem) (i : Nat) (v : Int32) : FrT s m (wI m lb i v) := ⟨fun lb2 h2 => wI_ne (fun e => h2 (by rw [e]; exact h)) m i v, rfl⟩
theorem wr1 (s a b : Nat) : Wr s (1, s, a, b) := Or.inr ⟨Or.inl rfl, rfl⟩
theorem wr2 (s a b : Nat) : Wr s (2, s, a, b) := Or.inr ⟨Or.inr rfl, rfl⟩
theorem wr4 (s : Nat) : Wr s (0, 0, 0, 4) := Or.inl rfl
theorem nwr_of {s : Nat} {lb : Lb} (h4 : lb ≠ (0, 0, 0, 4)) (h : lb.1 = 1 ∨ lb.1 = 2 → lb.2.1 ≠ s) : ¬ Wr s lb := by
  rintro (h1 | ⟨h1, h2⟩)
  · exact h4 h1
  · exact h h1 h2
theorem nwr0 (s k : Nat) (h : k ≠ 4) : ¬ Wr s (0, 0, 0, k) := nwr_of (fun e => h (by injection e with _ e; injection e with _ e; injection e)) (fun e => by rcases e with e | e <;> exact absurd e (by decide : ¬ (0 : Nat) = _))
theorem nwr3 (s a b c : Nat) : ¬ Wr s (3, a, b, c) := nwr_of (fun e => by injection e with e _; exact absurd e (by decide)) (fun e => by rcases e with e | e <;> exact absurd e (by decide : ¬ (3 : Nat) = _))
theorem SR.frame2 {f f2 : Lb → Nat → Int32} (h : SR f s w n) (h1 : ∀ b c, f2 (1, s, b, c) = f (1, s, b, c)) (h2 : ∀ b c, f2 (2, s, b, c) = f (2, s, b, c)) : SR f2 s w n := by
  obtain ⟨a1, a2, a3, a4, a5, a6, a7, a8⟩ := h
  refine ⟨a1, a2, ?_, ?_, ?_, ?_, ?_, a8⟩
  · rw [h1]; exact a3
  · intro r hr; rw [h1]; exact a4 r hr
  · intro r hr c hc; rw [h1]; exact a5 r hr c hc
  · intro t ht c hc; rw [h2, h2, h2]; exact a6 t ht c hc
  · intro t ht; rw [h2]; exact a7 t ht
theorem sr_frt {q : Nat} (h : SR m.1 q w n) (hF : FrT s m m2) (hq : q ≠ s) : SR m2.1 q w n :=
  h.frame2 (fun b c => hF.1 _ (nwr_of (fun e => by injection e with e _; exact absurd e (by decide)) (fun _ => hq))) (fun b c => hF.1 _ (nwr_of (fun e => by injection e with e _; exact absurd e (by decide)) (fun _ => hq)))
theorem PRel.step (h : PRel m w n k pa nn L tx) (hk : k ≤ 6) {n2 : Nat} (hF : FrT (m.2.1 6) m m2) (hS : SR m2.1 (m.2.1 6) w2 n2) : PRel m2 w2 n2 k pa nn L tx ∧ FrP m m2 := by
  obtain ⟨g1, g2, g3, g4, g5, g6, g7⟩ := h
  refine ⟨⟨?_, ?_, ?_, ?_, ?_, ?_, ?_⟩, ?_, ?_⟩
  · rw [hF.2]; exact g1
  · rw [hF.2]; exact g2
  · rw [hF.1 _ (nwr0 _ 0 (by decide))]; exact g3
  · rw [hF.2]; exact hS
  · intro j hj
    rw [hF.2]
    exact sr_frt (g5 j hj) hF (fun e => by have := g2 j 6 (by omega) (by omega) e; omega)
  · rw [hF.1 _ (nwr0 _ 0 (by decide))]; exact g6
  · intro i hi
    rw [hF.1 _ (nwr0 _ 2 (by decide))]; exact g7 i hi
  · intro lb hl
    refine hF.1 lb (nwr_of ?_ ?_)
    · rintro rfl; rcases hl with hl | hl <;> exact absurd hl (by decide)
    · intro h1; omega
  · rw [hF.2]
theorem qp_frt (h : QP m.1 nt tl ts tn) (hF : FrT s m m2) : QP m2.1 nt tl ts tn := by
  refine ⟨?_, fun k hk => ?_⟩
  · rw [hF.1 _ (nwr0 _ 3 (by decide))]; exact h.1
  · rw [hF.1 _ (nwr0 _ 5 (by decide)), hF.1 _ (nwr0 _ 6 (by decide)), hF.1 _ (nwr0 _ 7 (by decide))]; exact h.2 k hk
theorem wI_wI (m : Mem) (lb : Lb) (i j : Nat) (v u : Int32) : wI (wI m lb i v) lb j u = wA m lb (upd (upd (m.1 lb) i v) j u) := wI_wA m lb _ j u
theorem zI_nn {k : Nat} (h : k < 2147483648) : ¬ zI k < 0 := by rw [← zI_zero, zI_lt h (by omega)]; omega
theorem ck_cpy {α : Type} {x : Option α} {p q r : Prop} {ip : Decidable p} {iq : Decidable q} {ir : Decidable r} {a b c : Int32} {A B C N1 N2 : Nat} (hp : ¬ p) (hq : ¬ q) (hr : ¬ r) (ha : a = zI A) (hb : b = zI B) (hc : c = zI C) (h1 : A + C ≤ N1) (h2 : B + C ≤ N2) (h3 : N1 < 2147483648) (h4 : N2 < 2147483648) : ck (!@decide p ip && !@decide q iq && !@decide r ir && decide (Int32.toNatClampNeg a + Int32.toNatClampNeg c ≤ N1) && decide (Int32.toNatClampNeg b + Int32.toNatClampNeg c ≤ N2)) x = x := by
  rw [ha, hb, hc, decide_eq_false hp, decide_eq_false hq, decide_eq_false hr, zI_nat (by omega), zI_nat (by omega), zI_nat (by omega), decide_eq_true h1, decide_eq_true h2]
  rfl
theorem cpy_in {α : Type} (f g : Nat → α) {a b c i : Nat} (h1 : b ≤ i) (h2 : i < b + c) : va_cpy f g a b c i = f (a + (i - b)) := if_pos ⟨h1, h2⟩
theorem cpy_out {α : Type} (f g : Nat → α) {a b c i : Nat} (h : i < b ∨ b + c ≤ i) : va_cpy f g a b c i = g i := if_neg (by omega)
theorem wA_wI (m : Mem) (lb : Lb) (i : Nat) (v : Int32) (f : Nat → Int32) : wA (wI m lb i v) lb f = wA m lb f := wA_wA m lb _ f
theorem bm_someU {α : Type} {m : Mem} {f : Unit → Mem → Option α} : bm (some ((), m)) f = f () m := rfl
end QA

