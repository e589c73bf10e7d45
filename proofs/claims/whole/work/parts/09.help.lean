/-! the law's small methods: a call, its answer kept, its throw caught -/
def setc (K : MC) (c s : Nat) : MC := (kp K, kl K, ke K, kR K, ks K, km K, ka K, kb K, kmt K, kc K, kn K, c, s, kQ K)
section SETC
variable {X : XW} {K : MC} {own : String} {cc : ByteArray} {n d pc : Nat} {lv : List (Nat × Value)} {st rest stk : List Value} {mm m1 : Mem} {c s : Nat}
theorem ok_setc (hk : Ok X K own cc n d) (hc : c ≤ (kR K).cells) (hs : s ≤ (kR K).slots) : Ok X (setc K c s) own cc n d :=
  ⟨hk.1, hk.2.1, hk.2.2.1, hk.2.2.2.1, hk.2.2.2.2.1, hk.2.2.2.2.2.1, hk.2.2.2.2.2.2.1, hk.2.2.2.2.2.2.2.1, hk.2.2.2.2.2.2.2.2.1, hc, hs, hk.2.2.2.2.2.2.2.2.2.2.2⟩
theorem g_wid (h1 : kce K ≤ c) (h2 : ksl K ≤ s) (g : G X (setc K c s) pc lv st mm) : G X K pc lv st mm := fun H locs ls hH hS hl => W.widen h1 h2 (g H locs ls hH hS hl)
theorem ib01 : ib 0 1 = true := by decide
theorem r_last0 (hk : Ok X K own cc n d) {v : Int64} (hd : decode cc pc = .ok (.lastore, 1)) (g : G X K (pc + 1) lv st (wO mm v)) : G X K pc lv (.long v :: .int 0 :: .ref (xad X (4, 0, 0, 0)) :: st) mm :=
  r_last (f := some) (r := wO mm v) hk (by rw [ib01]; rfl) hd (fun m1 h => by cases Option.some.inj h; exact g)
theorem r_i2l0 (hk : Ok X K own cc n d) {x : Int32} (hd : decode cc pc = .ok (.i2l, 1)) (g : G X K (pc + 1) lv (.long (Int32.toInt64 x) :: st) mm) : G X K pc lv (.int x :: st) mm :=
  r_i2l (f := some) (r := Int32.toInt64 x) hk rfl hd (fun m1 h => by cases Option.some.inj h; exact g)
abbrev MH (X : XW) (l : Launch) (y : MethodName) (b : ByteArray) (n : Nat) (hh : List (Nat × Nat × Nat × Nat)) (d : Nat) (As : List Value) (m : Mem) (v : Int32) (m1 : Mem) : Prop := Met l y [.codeWith y b n (some .int) hh] (rmd d 1) (PcX X m As) (QI X v m1) 1 6 (xA X)
theorem mt_ofWH {l : Launch} {y : MethodName} {ws ws' : List Cond} {rm : Room} {Pc : Array Value → State → Prop} {Qc : Array Value → State → Outcome → State → Prop} {mc ms : Nat} {free : Addr → Prop} {cc : ByteArray} {maxL : Nat} {ret : Option FieldType} {hh : List (Nat × Nat × Nat × Nat)}
    (hy : plainName y.cls = true) (hw : ws = Cond.codeWith y cc maxL ret hh :: ws')
    (body : ∀ p e s m args below meth c s₁, BodyLoose p l y (headSpec ws rm) cc maxL ret e s m args below meth c s₁ → c.maxLocals = maxL → Pc args s →
      W p l e (headSpec ws rm).room s m args below meth c s.heap [] 0 0 (MQ below Qc args s mc ms free) (entryFrame m args maxL)) : Met l y ws rm Pc Qc mc ms free := by
  refine MetFree.of_bodyS (code := cc) (maxLocals := maxL) (ret := ret) hy ?_ ?_
  · intro args s m h hn
    obtain ⟨m9, meth, c, hn9, h1, h2, h3, h4, -, h5, h6, -⟩ := Cond.codeWith_spec (atoms_spec (ws := ws) h _ (by rw [hw]; exact List.mem_cons_self))
    cases hn.symm.trans hn9
    exact ⟨meth, c, h1, h2, h3, h4, h5, h6⟩
  · intro p e s m args below meth c s₁ B hml hP _
    have hh0 : s₁.heap = s.heap := by rw [B.state]; rfl
    obtain ⟨t, a1, o, b1, b2, b3⟩ := body p e s m args below meth c s₁ B hml hP s₁ hh0 (Stand.of_body B)
    exact ⟨t, o, a1, b1, b2, ⟨b3.1, b3.2⟩⟩
theorem startH {l : Launch} {y : MethodName} {b : ByteArray} {hh : List (Nat × Nat × Nat × Nat)} {As : List Value} {m0 : Mem} (hlf : l.stackTraces = false) (hy : plainName y.cls = true) (ho : y.cls = own) (lv0 : List (Nat × Value)) (hlv : lv_args 0 As = lv0) (hlen : (lg_sl As).length ≤ n) {v : Int32}
    (body : ∀ K : MC, Ok X K own b n d → kce K = 0 → ksl K = 0 → 1 ≤ (kR K).cells → 6 ≤ (kR K).slots → (kc K).exceptionTable.toList = tableOf hh → (∀ pc lv, decode b pc = .ok (.ireturn, 1) → G X (setc K 1 6) pc lv [.int v] m1) → G X K 0 lv0 [] m0) : MH X l y b n hh d As m0 v m1 := by
  subst ho
  refine mt_ofWH (cc := b) (maxL := n) (ret := some .int) hy rfl ?_
  intro p e s m args below meth c s₁ B hml hv
  obtain ⟨rfl, hO, hH⟩ := hv
  have hk : Ok X (p, l, e, (headSpec [Cond.codeWith y b n (some .int) hh] (rmd d 1)).room, s, m, As.toArray, below, meth, c, n, 0, 0, MQ below (QI X v m1) As.toArray s 1 6 (xA X)) y.cls b n d :=
    ⟨B.exec, B.bytes, hml, rfl, findClass_of_methodNamed B.named, hO, B.notSynchronized, Nat.le_refl _, Nat.le_refl _, Nat.zero_le _, Nat.zero_le _, hlf⟩
  have hT : c.exceptionTable.toList = tableOf hh := vx_table (x := y) B (atoms_spec (ws := [Cond.codeWith y b n (some .int) hh]) B.pre _ List.mem_cons_self)
  have h := body _ hk rfl rfl (Nat.le_refl _) (Nat.le_refl _) hT (fun pc lv hd H locs ls hH hS hl => W.iret B.exec B.bytes B.returns (fun t ht hW => ⟨⟨v, (), rfl, rfl, show Hp X m1 t.heap by rw [ht]; exact hH⟩, hS.F ht⟩) hS.2.2 hd B.notSynchronized)
  have h2 := h s.heap [] _ hH va_S.rf (hlv ▸ lv_entry As hlen)
  rw [lg_entry_eq]
  exact h2
theorem r_callIh (hk : Ok X K own cc n d) (h0 : kce K = 0) (h1 : ksl K = 0) (hc1 : 1 ≤ (kR K).cells) (hs6 : 6 ≤ (kR K).slots) {R : Int32 ⊕ Nat} {a : Array Value}
    (run : (kce K + mcR R ≤ (kR K).cells ∧ ksl K + 6 * mcR R ≤ (kR K).slots) → ∀ H locs ls, Hp X mm H → va_S (xA X) (ks K).heap H locs → lv_has ls (kn K) lv → vx_Run (kp K) (kl K) (ke K) (kR K) (ks K) (km K) (ka K) (kb K) (kmt K) (kc K) H locs (kce K) (ksl K) (mcR R) (6 * mcR R) (F0 (km K) pc ls stk) rest (QTI X R m1 a) (XCx X R m1) (xA X))
    (gx : ∀ c, R = .inr c → ∃ (pre : List ExceptionTableEntry) (x : ExceptionTableEntry) (suf : List ExceptionTableEntry) (nm : String), (kc K).exceptionTable.toList = pre ++ x :: suf ∧ (∀ z ∈ pre, covers z pc = false ∨ (z.catchType ≠ 0 ∧ ∃ nm2 : String, (Cond.classLink own z.catchType nm2).before (ka K) (ks K) = true ∧ va_Nc (en c) nm2 (ks K))) ∧ covers x pc = true ∧ x.catchType ≠ 0 ∧
      (Cond.classLink own x.catchType nm).before (ka K) (ks K) = true ∧ (Cond.castable (en c) nm).before (ka K) (ks K) = true ∧ ∀ q, G X (setc K 1 6) x.handlerPc lv [.ref q] m1)
    (g : ∀ v, R = .inl v → G X (setc K 1 6) (pc + 3) lv (.int v :: rest) m1) : G X K pc lv stk mm := by
  intro H locs ls hH hS hl
  cases R with
  | inl v =>
    refine vx_calli (run (by rw [h0, h1]; exact ⟨Nat.zero_le _, Nat.zero_le _⟩) H locs ls hH hS hl) hS (fun q _ h => h) (fun q h => h) (fun q _ h => h) (fun E ce0 q9 u t H1 locs1 ht hvm hw hB hz hk1 hS1 hc0 hcv hcl => ?_) (fun w u t H1 locs1 ht hvm hw hB hz hk1 hS1 => ?_)
    · obtain ⟨⟨c, h, -⟩, -⟩ := hB
      cases h
    · cases hw
      rw [ht] at hB
      exact W.widen (k := 1) (n := 6) (by rw [h0]; exact Nat.zero_le _) (by rw [h1]; exact Nat.zero_le _) (g v rfl H1 locs1 ls hB hS1 hl)
  | inr c =>
    obtain ⟨pre, x, suf, nm, e1, e2, e3, e4, e5, e6, e7⟩ := gx c rfl
    refine vx_calli (run (by rw [h0, h1]; exact ⟨hc1, hs6⟩) H locs ls hH hS hl) hS (fun q _ h => h) (fun q h => h) (fun q _ h => h) (fun E ce0 q9 u t H1 locs1 ht hvm hw hB hz hk1 hS1 hc0 hcv hcl => ?_) (fun w u t H1 locs1 ht hvm hw hB hz hk1 hS1 => ?_)
    · obtain ⟨⟨c', h, rfl⟩, hB⟩ := hB
      cases h
      rw [ht] at hB
      refine vx_widen (k := 1) (n := 6) (by rw [h0]; exact Nat.le_refl _) (by rw [h1]; exact Nat.le_refl _) ?_
      exact vx_catch hk.2.2.2.2.1 pre x suf e1 e2 e3 e4 e5 e6 hc0 hcv hcl (e7 q9 H1 locs1 ls hB hS1 hl)
    · cases hw
end SETC
def hc1 (e c : Nat) : Option Int32 := if c = e then some 1 else none
def hc2 (e1 e2 c : Nat) : Option Int32 := if c = e1 then some 1 else if c = e2 then some 2 else none
def hRes (x : Option ((Int32 ⊕ Nat) × Mem)) (f : Nat → Option Int32) : Option (Int32 × Mem) := match x with
  | some (.inl v, m) => some (0, wO m (Int32.toInt64 v))
  | some (.inr c, m) => (f c).map (fun k => (k, m))
  | none => none
def pairM (x : Option (Int32 ⊕ Nat)) (m : Mem) : Option ((Int32 ⊕ Nat) × Mem) := x.map (fun R => (R, m))
theorem pairM_some {x : Option (Int32 ⊕ Nat)} {m m1 : Mem} {R : Int32 ⊕ Nat} (h : pairM x m = some (R, m1)) : x = some R ∧ m = m1 := by
  cases x with
  | none => cases h
  | some v => cases h; exact ⟨rfl, rfl⟩
theorem hRes_some {x : Option ((Int32 ⊕ Nat) × Mem)} {f : Nat → Option Int32} {rv : Int32} {mE : Mem} (h : hRes x f = some (rv, mE)) : ∃ R m1, x = some (R, m1) ∧ ((∃ v, R = .inl v ∧ rv = 0 ∧ mE = wO m1 (Int32.toInt64 v)) ∨ ∃ c, R = .inr c ∧ f c = some rv ∧ mE = m1) := by
  rcases x with _ | ⟨R, m1⟩
  · cases h
  · refine ⟨R, m1, rfl, ?_⟩
    cases R with
    | inl v => cases h; exact Or.inl ⟨v, rfl, rfl, rfl⟩
    | inr c =>
      have h2 : (f c).map (fun k => (k, m1)) = some (rv, mE) := h
      cases hf : f c with
      | none => rw [hf] at h2; cases h2
      | some k => rw [hf] at h2; cases h2; exact Or.inr ⟨c, rfl, hf, rfl⟩
theorem hc1_some {e c : Nat} {k : Int32} (h : hc1 e c = some k) : c = e ∧ k = 1 := by
  unfold hc1 at h
  by_cases hc : c = e
  · rw [if_pos hc] at h; exact ⟨hc, (Option.some.inj h).symm⟩
  · rw [if_neg hc] at h; cases h
theorem hc2_some {e1 e2 c : Nat} {k : Int32} (h : hc2 e1 e2 c = some k) : (c = e1 ∧ k = 1) ∨ (c = e2 ∧ k = 2) := by
  unfold hc2 at h
  by_cases h1 : c = e1
  · rw [if_pos h1] at h; exact Or.inl ⟨h1, (Option.some.inj h).symm⟩
  · rw [if_neg h1] at h
    by_cases h2 : c = e2
    · rw [if_pos h2] at h; exact Or.inr ⟨h2, (Option.some.inj h).symm⟩
    · rw [if_neg h2] at h; cases h

theorem cl_L_13 : ∀ (a : Array Value) (U : State), Wd U → (Cond.classLink RL 13 "java/lang/IllegalArgumentException").before a U = true := fun a U h => h.use a 512 (by decide +kernel) (by decide +kernel)
theorem ca_0 : ∀ (a : Array Value) (U : State), Wd U → (Cond.castable (en 0) "java/lang/IllegalArgumentException").before a U = true := fun a U h => h.use a 293 (by decide +kernel) (by decide +kernel)
theorem lk_L_7 : Lk RL 7 yX3_mean := fun a U h => h.use a 513 (by decide +kernel) (by decide +kernel)
theorem lk_L_15 : Lk RL 15 yX3_forget := fun a U h => h.use a 547 (by decide +kernel) (by decide +kernel)
theorem lk_L_19 : Lk RL 19 yX3_pack := fun a U h => h.use a 566 (by decide +kernel) (by decide +kernel)
theorem lk_L_23 : Lk RL 23 yX3_index := fun a U h => h.use a 573 (by decide +kernel) (by decide +kernel)
theorem lk_L_26 : Lk RL 26 yX3_row := fun a U h => h.use a 580 (by decide +kernel) (by decide +kernel)
theorem cl_L_32 : ∀ (a : Array Value) (U : State), Wd U → (Cond.classLink RL 32 "java/lang/IndexOutOfBoundsException").before a U = true := fun a U h => h.use a 595 (by decide +kernel) (by decide +kernel)
theorem ca_2 : ∀ (a : Array Value) (U : State), Wd U → (Cond.castable (en 2) "java/lang/IndexOutOfBoundsException").before a U = true := fun a U h => h.use a 385 (by decide +kernel) (by decide +kernel)
theorem lk_L_29 : Lk RL 29 yX3_put := fun a U h => h.use a 596 (by decide +kernel) (by decide +kernel)
theorem lk_L_34 : Lk RL 34 yX3_remove := fun a U h => h.use a 608 (by decide +kernel) (by decide +kernel)
theorem lk_L_37 : Lk RL 37 yX3_move := fun a U h => h.use a 623 (by decide +kernel) (by decide +kernel)
theorem lk_L_40 : Lk RL 40 yX3_limit := fun a U h => h.use a 634 (by decide +kernel) (by decide +kernel)
theorem cl_L_47 : ∀ (a : Array Value) (U : State), Wd U → (Cond.classLink RL 47 "java/lang/IllegalStateException").before a U = true := fun a U h => h.use a 641 (by decide +kernel) (by decide +kernel)
theorem ca_1 : ∀ (a : Array Value) (U : State), Wd U → (Cond.castable (en 1) "java/lang/IllegalStateException").before a U = true := fun a U h => h.use a 648 (by decide +kernel) (by decide +kernel)
theorem lk_L_44 : Lk RL 44 yX3_append := fun a U h => h.use a 642 (by decide +kernel) (by decide +kernel)
theorem lk_L_49 : Lk RL 49 yX3_ask := fun a U h => h.use a 665 (by decide +kernel) (by decide +kernel)
theorem lk_L_52 : Lk RL 52 yX3_purge := fun a U h => h.use a 672 (by decide +kernel) (by decide +kernel)
theorem lk_L_55 : Lk RL 55 yX3_undo := fun a U h => h.use a 679 (by decide +kernel) (by decide +kernel)
theorem lk_L_59 : Lk RL 59 yX3_rowOf := fun a U h => h.use a 687 (by decide +kernel) (by decide +kernel)
theorem lk_L_62 : Lk RL 62 yX3_column := fun a U h => h.use a 691 (by decide +kernel) (by decide +kernel)
theorem lk_L_65 : Lk RL 65 yX3_tenant := fun a U h => h.use a 695 (by decide +kernel) (by decide +kernel)
theorem lk_L_68 : Lk RL 68 yX3_answer := fun a U h => h.use a 699 (by decide +kernel) (by decide +kernel)
theorem lk_L_71 : Lk RL 71 yX3_count := fun a U h => h.use a 706 (by decide +kernel) (by decide +kernel)
theorem lk_L_74 : Lk RL 74 yX3_looked := fun a U h => h.use a 710 (by decide +kernel) (by decide +kernel)
theorem lk_L_78 : Lk RL 78 yX3_bestIndex := fun a U h => h.use a 717 (by decide +kernel) (by decide +kernel)
theorem yf_X3_mean : YF yX3_mean 3 := ⟨⟨by decide +kernel, by decide +kernel⟩, by decide +kernel⟩
theorem me_X3_mean : MeV yX3_mean cX3_mean 6 (some .int) := fun a U h => ⟨h.use a 514 (by decide +kernel) (by decide +kernel), h.use a 515 (by decide +kernel) (by decide +kernel), h.use a 59 (by decide +kernel) (by decide +kernel), h.use a 516 (by decide +kernel) (by decide +kernel)⟩
theorem yf_X3_forget : YF yX3_forget 2 := ⟨⟨by decide +kernel, by decide +kernel⟩, by decide +kernel⟩
theorem me_X3_forget : MeV yX3_forget cX3_forget 6 (some .int) := fun a U h => ⟨h.use a 548 (by decide +kernel) (by decide +kernel), h.use a 549 (by decide +kernel) (by decide +kernel), h.use a 59 (by decide +kernel) (by decide +kernel), h.use a 550 (by decide +kernel) (by decide +kernel)⟩
theorem yf_X3_pack : YF yX3_pack 1 := ⟨⟨by decide +kernel, by decide +kernel⟩, by decide +kernel⟩
theorem me_X3_pack : MeV yX3_pack cX3_pack 6 (some .int) := fun a U h => ⟨h.use a 567 (by decide +kernel) (by decide +kernel), h.use a 568 (by decide +kernel) (by decide +kernel), h.use a 59 (by decide +kernel) (by decide +kernel), h.use a 569 (by decide +kernel) (by decide +kernel)⟩
theorem yf_X3_index : YF yX3_index 2 := ⟨⟨by decide +kernel, by decide +kernel⟩, by decide +kernel⟩
theorem me_X3_index : MeV yX3_index cX3_index 5 (some .int) := fun a U h => ⟨h.use a 574 (by decide +kernel) (by decide +kernel), h.use a 575 (by decide +kernel) (by decide +kernel), h.use a 59 (by decide +kernel) (by decide +kernel), h.use a 576 (by decide +kernel) (by decide +kernel)⟩
theorem yf_X3_row : YF yX3_row 1 := ⟨⟨by decide +kernel, by decide +kernel⟩, by decide +kernel⟩
theorem me_X3_row : MeV yX3_row cX3_row 3 (some .int) := fun a U h => ⟨h.use a 581 (by decide +kernel) (by decide +kernel), h.use a 582 (by decide +kernel) (by decide +kernel), h.use a 59 (by decide +kernel) (by decide +kernel), h.use a 583 (by decide +kernel) (by decide +kernel)⟩
theorem yf_X3_put : YF yX3_put 3 := ⟨⟨by decide +kernel, by decide +kernel⟩, by decide +kernel⟩
theorem me_X3_put : MeV yX3_put cX3_put 7 (some .int) := fun a U h => ⟨h.use a 597 (by decide +kernel) (by decide +kernel), h.use a 598 (by decide +kernel) (by decide +kernel), h.use a 59 (by decide +kernel) (by decide +kernel), h.use a 599 (by decide +kernel) (by decide +kernel)⟩
theorem yf_X3_remove : YF yX3_remove 1 := ⟨⟨by decide +kernel, by decide +kernel⟩, by decide +kernel⟩
theorem me_X3_remove : MeV yX3_remove cX3_remove 3 (some .int) := fun a U h => ⟨h.use a 609 (by decide +kernel) (by decide +kernel), h.use a 610 (by decide +kernel) (by decide +kernel), h.use a 59 (by decide +kernel) (by decide +kernel), h.use a 611 (by decide +kernel) (by decide +kernel)⟩
theorem yf_X3_move : YF yX3_move 1 := ⟨⟨by decide +kernel, by decide +kernel⟩, by decide +kernel⟩
theorem me_X3_move : MeV yX3_move cX3_move 4 (some .int) := fun a U h => ⟨h.use a 624 (by decide +kernel) (by decide +kernel), h.use a 625 (by decide +kernel) (by decide +kernel), h.use a 59 (by decide +kernel) (by decide +kernel), h.use a 626 (by decide +kernel) (by decide +kernel)⟩
theorem yf_X3_limit : YF yX3_limit 3 := ⟨⟨by decide +kernel, by decide +kernel⟩, by decide +kernel⟩
theorem me_X3_limit : MeV yX3_limit cX3_limit 6 (some .int) := fun a U h => ⟨h.use a 635 (by decide +kernel) (by decide +kernel), h.use a 636 (by decide +kernel) (by decide +kernel), h.use a 59 (by decide +kernel) (by decide +kernel), h.use a 637 (by decide +kernel) (by decide +kernel)⟩
theorem yf_X3_append : YF yX3_append 1 := ⟨⟨by decide +kernel, by decide +kernel⟩, by decide +kernel⟩
theorem me_X3_append : MeV yX3_append cX3_append 2 (some .int) := fun a U h => ⟨h.use a 643 (by decide +kernel) (by decide +kernel), h.use a 644 (by decide +kernel) (by decide +kernel), h.use a 59 (by decide +kernel) (by decide +kernel), h.use a 645 (by decide +kernel) (by decide +kernel)⟩
theorem yf_X3_ask : YF yX3_ask 1 := ⟨⟨by decide +kernel, by decide +kernel⟩, by decide +kernel⟩
theorem me_X3_ask : MeV yX3_ask cX3_ask 4 (some .int) := fun a U h => ⟨h.use a 666 (by decide +kernel) (by decide +kernel), h.use a 667 (by decide +kernel) (by decide +kernel), h.use a 59 (by decide +kernel) (by decide +kernel), h.use a 668 (by decide +kernel) (by decide +kernel)⟩
theorem yf_X3_purge : YF yX3_purge 1 := ⟨⟨by decide +kernel, by decide +kernel⟩, by decide +kernel⟩
theorem me_X3_purge : MeV yX3_purge cX3_purge 3 (some .int) := fun a U h => ⟨h.use a 673 (by decide +kernel) (by decide +kernel), h.use a 674 (by decide +kernel) (by decide +kernel), h.use a 59 (by decide +kernel) (by decide +kernel), h.use a 675 (by decide +kernel) (by decide +kernel)⟩
theorem yf_X3_undo : YF yX3_undo 0 := ⟨⟨by decide +kernel, by decide +kernel⟩, by decide +kernel⟩
theorem me_X3_undo : MeV yX3_undo cX3_undo 2 (some .int) := fun a U h => ⟨h.use a 680 (by decide +kernel) (by decide +kernel), h.use a 681 (by decide +kernel) (by decide +kernel), h.use a 59 (by decide +kernel) (by decide +kernel), h.use a 682 (by decide +kernel) (by decide +kernel)⟩
theorem yf_X3_answer : YF yX3_answer 3 := ⟨⟨by decide +kernel, by decide +kernel⟩, by decide +kernel⟩
theorem me_X3_answer : MeV yX3_answer cX3_answer 5 (some .int) := fun a U h => ⟨h.use a 700 (by decide +kernel) (by decide +kernel), h.use a 701 (by decide +kernel) (by decide +kernel), h.use a 59 (by decide +kernel) (by decide +kernel), h.use a 702 (by decide +kernel) (by decide +kernel)⟩
theorem yf_X3_looked : YF yX3_looked 2 := ⟨⟨by decide +kernel, by decide +kernel⟩, by decide +kernel⟩
theorem me_X3_looked : MeV yX3_looked cX3_looked 3 (some .int) := fun a U h => ⟨h.use a 711 (by decide +kernel) (by decide +kernel), h.use a 712 (by decide +kernel) (by decide +kernel), h.use a 59 (by decide +kernel) (by decide +kernel), h.use a 713 (by decide +kernel) (by decide +kernel)⟩
theorem yf_X3_bestIndex : YF yX3_bestIndex 1 := ⟨⟨by decide +kernel, by decide +kernel⟩, by decide +kernel⟩
theorem me_X3_bestIndex : MeV yX3_bestIndex cX3_bestIndex 2 (some .int) := fun a U h => ⟨h.use a 718 (by decide +kernel) (by decide +kernel), h.use a 719 (by decide +kernel) (by decide +kernel), h.use a 59 (by decide +kernel) (by decide +kernel), h.use a 720 (by decide +kernel) (by decide +kernel)⟩
def F_L_mean (p1 : Int32) (p2 : Int32) (p3 : Int32) (m0 : Mem) : Option (Int32 × Mem) := hRes (F_X3_mean p1 p2 p3 m0) (hc1 0)
set_option maxHeartbeats 4000000 in
set_option maxRecDepth 100000 in
theorem c_L_mean (l : Launch) (hlf : l.stackTraces = false) (X : XW) (p1 : Int32) (p2 : Int32) (p3 : Int32) (m0 : Mem) (rv : Int32) (mE : Mem) (hF : F_L_mean p1 p2 p3 m0 = some (rv, mE)) : MH X l yL_mean cL_mean 6 [(0, 12, 15, 13)] 9 [.ref (xad X (0, 0, 0, 0)), .int p1, .int p2, .int p3, .ref (xad X (4, 0, 0, 0))] m0 rv mE := by
  refine startH hlf (by decide +kernel) rfl [(0, .ref (xad X (0, 0, 0, 0))), (1, .int p1), (2, .int p2), (3, .int p3), (4, .ref (xad X (4, 0, 0, 0)))] rfl (Nat.le_of_ble_eq_true rfl) (fun K hk h0 h1 hc1 hs6 hT hR => ?_)
  unfold F_L_mean at hF
  obtain ⟨R, m1, hC, hcase⟩ := hRes_some hF
  have hk1 : Ok X (setc K 1 6) RL cL_mean 6 9 := ok_setc hk hc1 hs6
  refine r_aload hk 4 (dtL_mean_0 0 (0, .aload 4, 2) rfl) rfl ?_
  refine r_iconst (v := 0) hk (dtL_mean_0 1 (2, .iconst 0, 1) rfl) (by decide) ?_
  refine r_aload_n hk 0 (dtL_mean_0 2 (3, .aload_n 0, 1) rfl) rfl ?_
  refine r_iload_n hk 1 (dtL_mean_0 3 (4, .iload_n 1, 1) rfl) rfl ?_
  refine r_iload_n hk 2 (dtL_mean_0 4 (5, .iload_n 2, 1) rfl) rfl ?_
  refine r_iload_n hk 3 (dtL_mean_0 5 (6, .iload_n 3, 1) rfl) rfl ?_
  refine r_callIh hk h0 h1 hc1 hs6 (fun hf H locs ls hH hS hl => runT_V (y := yX3_mean) hk (in_main 0 (by decide)) rfl rfl (c_X3_mean (kl K) hk.2.2.2.2.2.2.2.2.2.2.2 X p1 p2 p3 m0 R m1 hC) lk_L_7 me_X3_mean yf_X3_mean (by decide) (by decide) rfl (Nat.le_of_ble_eq_true rfl) rfl (dtL_mean_0 6 (7, .invokevirtual 7, 3) rfl) hf hH hS hl) (fun c hc => ?_) (fun v hv => ?_)
  · rcases hcase with ⟨v, h, -⟩ | ⟨c2, h, hcc, rfl⟩
    · rw [hc] at h; cases h
    · rw [hc] at h; cases h
      obtain ⟨rfl, rfl⟩ := hc1_some hcc
      refine ⟨[], ⟨0, 12, 15, 13⟩, [], "java/lang/IllegalArgumentException", hT, (fun z hz => nomatch hz), by decide, by decide, cl_L_13 _ _ hk.2.2.2.2.2.1.1, ca_0 _ _ hk.2.2.2.2.2.1.1, fun q => ?_⟩
      refine r_astore hk1 [(5, .ref q), (0, .ref (xad X (0, 0, 0, 0))), (1, .int p1), (2, .int p2), (3, .int p3), (4, .ref (xad X (4, 0, 0, 0)))] (dtL_mean_0 10 (15, .astore 5, 2) rfl) (by decide) rfl ?_
      refine r_iconst (v := 1) hk1 (dtL_mean_0 11 (17, .iconst 1, 1) rfl) (by decide) ?_
      exact hR _ _ (dtL_mean_0 12 (18, .ireturn, 1) rfl)
  · rcases hcase with ⟨v2, h, rfl, rfl⟩ | ⟨c2, h, -⟩
    · rw [hv] at h; cases h
      refine r_i2l0 hk1 (dtL_mean_0 7 (10, .i2l, 1) rfl) ?_
      refine r_last0 hk1 (dtL_mean_0 8 (11, .lastore, 1) rfl) ?_
      refine r_goto hk1 19 (dtL_mean_0 9 (12, .goto 7, 3) rfl) (by decide) ?_
      refine r_iconst (v := 0) hk1 (dtL_mean_0 13 (19, .iconst 0, 1) rfl) (by decide) ?_
      exact hR _ _ (dtL_mean_0 14 (20, .ireturn, 1) rfl)
    · rw [hv] at h; cases h
def F_L_forget (p1 : Int32) (p2 : Int32) (m0 : Mem) : Option (Int32 × Mem) := hRes (F_X3_forget p1 p2 m0) (hc1 0)
set_option maxHeartbeats 4000000 in
set_option maxRecDepth 100000 in
theorem c_L_forget (l : Launch) (hlf : l.stackTraces = false) (X : XW) (p1 : Int32) (p2 : Int32) (m0 : Mem) (rv : Int32) (mE : Mem) (hF : F_L_forget p1 p2 m0 = some (rv, mE)) : MH X l yL_forget cL_forget 5 [(0, 10, 13, 13)] 9 [.ref (xad X (0, 0, 0, 0)), .int p1, .int p2, .ref (xad X (4, 0, 0, 0))] m0 rv mE := by
  refine startH hlf (by decide +kernel) rfl [(0, .ref (xad X (0, 0, 0, 0))), (1, .int p1), (2, .int p2), (3, .ref (xad X (4, 0, 0, 0)))] rfl (Nat.le_of_ble_eq_true rfl) (fun K hk h0 h1 hc1 hs6 hT hR => ?_)
  unfold F_L_forget at hF
  obtain ⟨R, m1, hC, hcase⟩ := hRes_some hF
  have hk1 : Ok X (setc K 1 6) RL cL_forget 5 9 := ok_setc hk hc1 hs6
  refine r_aload_n hk 3 (dtL_forget_0 0 (0, .aload_n 3, 1) rfl) rfl ?_
  refine r_iconst (v := 0) hk (dtL_forget_0 1 (1, .iconst 0, 1) rfl) (by decide) ?_
  refine r_aload_n hk 0 (dtL_forget_0 2 (2, .aload_n 0, 1) rfl) rfl ?_
  refine r_iload_n hk 1 (dtL_forget_0 3 (3, .iload_n 1, 1) rfl) rfl ?_
  refine r_iload_n hk 2 (dtL_forget_0 4 (4, .iload_n 2, 1) rfl) rfl ?_
  refine r_callIh hk h0 h1 hc1 hs6 (fun hf H locs ls hH hS hl => runT_V (y := yX3_forget) hk (in_main 0 (by decide)) rfl rfl (c_X3_forget (kl K) hk.2.2.2.2.2.2.2.2.2.2.2 X p1 p2 m0 R m1 hC) lk_L_15 me_X3_forget yf_X3_forget (by decide) (by decide) rfl (Nat.le_of_ble_eq_true rfl) rfl (dtL_forget_0 5 (5, .invokevirtual 15, 3) rfl) hf hH hS hl) (fun c hc => ?_) (fun v hv => ?_)
  · rcases hcase with ⟨v, h, -⟩ | ⟨c2, h, hcc, rfl⟩
    · rw [hc] at h; cases h
    · rw [hc] at h; cases h
      obtain ⟨rfl, rfl⟩ := hc1_some hcc
      refine ⟨[], ⟨0, 10, 13, 13⟩, [], "java/lang/IllegalArgumentException", hT, (fun z hz => nomatch hz), by decide, by decide, cl_L_13 _ _ hk.2.2.2.2.2.1.1, ca_0 _ _ hk.2.2.2.2.2.1.1, fun q => ?_⟩
      refine r_astore hk1 [(4, .ref q), (0, .ref (xad X (0, 0, 0, 0))), (1, .int p1), (2, .int p2), (3, .ref (xad X (4, 0, 0, 0)))] (dtL_forget_0 9 (13, .astore 4, 2) rfl) (by decide) rfl ?_
      refine r_iconst (v := 1) hk1 (dtL_forget_0 10 (15, .iconst 1, 1) rfl) (by decide) ?_
      exact hR _ _ (dtL_forget_0 11 (16, .ireturn, 1) rfl)
  · rcases hcase with ⟨v2, h, rfl, rfl⟩ | ⟨c2, h, -⟩
    · rw [hv] at h; cases h
      refine r_i2l0 hk1 (dtL_forget_0 6 (8, .i2l, 1) rfl) ?_
      refine r_last0 hk1 (dtL_forget_0 7 (9, .lastore, 1) rfl) ?_
      refine r_goto hk1 17 (dtL_forget_0 8 (10, .goto 7, 3) rfl) (by decide) ?_
      refine r_iconst (v := 0) hk1 (dtL_forget_0 12 (17, .iconst 0, 1) rfl) (by decide) ?_
      exact hR _ _ (dtL_forget_0 13 (18, .ireturn, 1) rfl)
    · rw [hv] at h; cases h
def F_L_pack (p1 : Int32) (m0 : Mem) : Option (Int32 × Mem) := hRes (F_X3_pack p1 m0) (hc1 0)
set_option maxHeartbeats 4000000 in
set_option maxRecDepth 100000 in
theorem c_L_pack (l : Launch) (hlf : l.stackTraces = false) (X : XW) (p1 : Int32) (m0 : Mem) (rv : Int32) (mE : Mem) (hF : F_L_pack p1 m0 = some (rv, mE)) : MH X l yL_pack cL_pack 4 [(0, 9, 12, 13)] 9 [.ref (xad X (0, 0, 0, 0)), .int p1, .ref (xad X (4, 0, 0, 0))] m0 rv mE := by
  refine startH hlf (by decide +kernel) rfl [(0, .ref (xad X (0, 0, 0, 0))), (1, .int p1), (2, .ref (xad X (4, 0, 0, 0)))] rfl (Nat.le_of_ble_eq_true rfl) (fun K hk h0 h1 hc1 hs6 hT hR => ?_)
  unfold F_L_pack at hF
  obtain ⟨R, m1, hC, hcase⟩ := hRes_some hF
  have hk1 : Ok X (setc K 1 6) RL cL_pack 4 9 := ok_setc hk hc1 hs6
  refine r_aload_n hk 2 (dtL_pack_0 0 (0, .aload_n 2, 1) rfl) rfl ?_
  refine r_iconst (v := 0) hk (dtL_pack_0 1 (1, .iconst 0, 1) rfl) (by decide) ?_
  refine r_aload_n hk 0 (dtL_pack_0 2 (2, .aload_n 0, 1) rfl) rfl ?_
  refine r_iload_n hk 1 (dtL_pack_0 3 (3, .iload_n 1, 1) rfl) rfl ?_
  refine r_callIh hk h0 h1 hc1 hs6 (fun hf H locs ls hH hS hl => runT_V (y := yX3_pack) hk (in_main 0 (by decide)) rfl rfl (c_X3_pack (kl K) hk.2.2.2.2.2.2.2.2.2.2.2 X p1 m0 R m1 hC) lk_L_19 me_X3_pack yf_X3_pack (by decide) (by decide) rfl (Nat.le_of_ble_eq_true rfl) rfl (dtL_pack_0 4 (4, .invokevirtual 19, 3) rfl) hf hH hS hl) (fun c hc => ?_) (fun v hv => ?_)
  · rcases hcase with ⟨v, h, -⟩ | ⟨c2, h, hcc, rfl⟩
    · rw [hc] at h; cases h
    · rw [hc] at h; cases h
      obtain ⟨rfl, rfl⟩ := hc1_some hcc
      refine ⟨[], ⟨0, 9, 12, 13⟩, [], "java/lang/IllegalArgumentException", hT, (fun z hz => nomatch hz), by decide, by decide, cl_L_13 _ _ hk.2.2.2.2.2.1.1, ca_0 _ _ hk.2.2.2.2.2.1.1, fun q => ?_⟩
      refine r_astore_n hk1 [(3, .ref q), (0, .ref (xad X (0, 0, 0, 0))), (1, .int p1), (2, .ref (xad X (4, 0, 0, 0)))] (dtL_pack_0 8 (12, .astore_n 3, 1) rfl) (by decide) rfl ?_
      refine r_iconst (v := 1) hk1 (dtL_pack_0 9 (13, .iconst 1, 1) rfl) (by decide) ?_
      exact hR _ _ (dtL_pack_0 10 (14, .ireturn, 1) rfl)
  · rcases hcase with ⟨v2, h, rfl, rfl⟩ | ⟨c2, h, -⟩
    · rw [hv] at h; cases h
      refine r_i2l0 hk1 (dtL_pack_0 5 (7, .i2l, 1) rfl) ?_
      refine r_last0 hk1 (dtL_pack_0 6 (8, .lastore, 1) rfl) ?_
      refine r_goto hk1 15 (dtL_pack_0 7 (9, .goto 6, 3) rfl) (by decide) ?_
      refine r_iconst (v := 0) hk1 (dtL_pack_0 11 (15, .iconst 0, 1) rfl) (by decide) ?_
      exact hR _ _ (dtL_pack_0 12 (16, .ireturn, 1) rfl)
    · rw [hv] at h; cases h
def F_L_index (p1 : Int32) (p2 : Int32) (m0 : Mem) : Option (Int32 × Mem) := hRes (F_X3_index p1 p2 m0) (hc1 0)
set_option maxHeartbeats 4000000 in
set_option maxRecDepth 100000 in
theorem c_L_index (l : Launch) (hlf : l.stackTraces = false) (X : XW) (p1 : Int32) (p2 : Int32) (m0 : Mem) (rv : Int32) (mE : Mem) (hF : F_L_index p1 p2 m0 = some (rv, mE)) : MH X l yL_index cL_index 5 [(0, 10, 13, 13)] 9 [.ref (xad X (0, 0, 0, 0)), .int p1, .int p2, .ref (xad X (4, 0, 0, 0))] m0 rv mE := by
  refine startH hlf (by decide +kernel) rfl [(0, .ref (xad X (0, 0, 0, 0))), (1, .int p1), (2, .int p2), (3, .ref (xad X (4, 0, 0, 0)))] rfl (Nat.le_of_ble_eq_true rfl) (fun K hk h0 h1 hc1 hs6 hT hR => ?_)
  unfold F_L_index at hF
  obtain ⟨R, m1, hC, hcase⟩ := hRes_some hF
  have hk1 : Ok X (setc K 1 6) RL cL_index 5 9 := ok_setc hk hc1 hs6
  refine r_aload_n hk 3 (dtL_index_0 0 (0, .aload_n 3, 1) rfl) rfl ?_
  refine r_iconst (v := 0) hk (dtL_index_0 1 (1, .iconst 0, 1) rfl) (by decide) ?_
  refine r_aload_n hk 0 (dtL_index_0 2 (2, .aload_n 0, 1) rfl) rfl ?_
  refine r_iload_n hk 1 (dtL_index_0 3 (3, .iload_n 1, 1) rfl) rfl ?_
  refine r_iload_n hk 2 (dtL_index_0 4 (4, .iload_n 2, 1) rfl) rfl ?_
  refine r_callIh hk h0 h1 hc1 hs6 (fun hf H locs ls hH hS hl => runT_V (y := yX3_index) hk (in_main 0 (by decide)) rfl rfl (c_X3_index (kl K) hk.2.2.2.2.2.2.2.2.2.2.2 X p1 p2 m0 R m1 hC) lk_L_23 me_X3_index yf_X3_index (by decide) (by decide) rfl (Nat.le_of_ble_eq_true rfl) rfl (dtL_index_0 5 (5, .invokevirtual 23, 3) rfl) hf hH hS hl) (fun c hc => ?_) (fun v hv => ?_)
  · rcases hcase with ⟨v, h, -⟩ | ⟨c2, h, hcc, rfl⟩
    · rw [hc] at h; cases h
    · rw [hc] at h; cases h
      obtain ⟨rfl, rfl⟩ := hc1_some hcc
      refine ⟨[], ⟨0, 10, 13, 13⟩, [], "java/lang/IllegalArgumentException", hT, (fun z hz => nomatch hz), by decide, by decide, cl_L_13 _ _ hk.2.2.2.2.2.1.1, ca_0 _ _ hk.2.2.2.2.2.1.1, fun q => ?_⟩
      refine r_astore hk1 [(4, .ref q), (0, .ref (xad X (0, 0, 0, 0))), (1, .int p1), (2, .int p2), (3, .ref (xad X (4, 0, 0, 0)))] (dtL_index_0 9 (13, .astore 4, 2) rfl) (by decide) rfl ?_
      refine r_iconst (v := 1) hk1 (dtL_index_0 10 (15, .iconst 1, 1) rfl) (by decide) ?_
      exact hR _ _ (dtL_index_0 11 (16, .ireturn, 1) rfl)
  · rcases hcase with ⟨v2, h, rfl, rfl⟩ | ⟨c2, h, -⟩
    · rw [hv] at h; cases h
      refine r_i2l0 hk1 (dtL_index_0 6 (8, .i2l, 1) rfl) ?_
      refine r_last0 hk1 (dtL_index_0 7 (9, .lastore, 1) rfl) ?_
      refine r_goto hk1 17 (dtL_index_0 8 (10, .goto 7, 3) rfl) (by decide) ?_
      refine r_iconst (v := 0) hk1 (dtL_index_0 12 (17, .iconst 0, 1) rfl) (by decide) ?_
      exact hR _ _ (dtL_index_0 13 (18, .ireturn, 1) rfl)
    · rw [hv] at h; cases h
def F_L_row (p1 : Int32) (m0 : Mem) : Option (Int32 × Mem) := hRes (F_X3_row p1 m0) (hc1 0)
set_option maxHeartbeats 4000000 in
set_option maxRecDepth 100000 in
theorem c_L_row (l : Launch) (hlf : l.stackTraces = false) (X : XW) (p1 : Int32) (m0 : Mem) (rv : Int32) (mE : Mem) (hF : F_L_row p1 m0 = some (rv, mE)) : MH X l yL_row cL_row 4 [(0, 9, 12, 13)] 9 [.ref (xad X (0, 0, 0, 0)), .int p1, .ref (xad X (4, 0, 0, 0))] m0 rv mE := by
  refine startH hlf (by decide +kernel) rfl [(0, .ref (xad X (0, 0, 0, 0))), (1, .int p1), (2, .ref (xad X (4, 0, 0, 0)))] rfl (Nat.le_of_ble_eq_true rfl) (fun K hk h0 h1 hc1 hs6 hT hR => ?_)
  unfold F_L_row at hF
  obtain ⟨R, m1, hC, hcase⟩ := hRes_some hF
  have hk1 : Ok X (setc K 1 6) RL cL_row 4 9 := ok_setc hk hc1 hs6
  refine r_aload_n hk 2 (dtL_row_0 0 (0, .aload_n 2, 1) rfl) rfl ?_
  refine r_iconst (v := 0) hk (dtL_row_0 1 (1, .iconst 0, 1) rfl) (by decide) ?_
  refine r_aload_n hk 0 (dtL_row_0 2 (2, .aload_n 0, 1) rfl) rfl ?_
  refine r_iload_n hk 1 (dtL_row_0 3 (3, .iload_n 1, 1) rfl) rfl ?_
  refine r_callIh hk h0 h1 hc1 hs6 (fun hf H locs ls hH hS hl => runT_V (y := yX3_row) hk (in_main 0 (by decide)) rfl rfl (c_X3_row (kl K) hk.2.2.2.2.2.2.2.2.2.2.2 X p1 m0 R m1 hC) lk_L_26 me_X3_row yf_X3_row (by decide) (by decide) rfl (Nat.le_of_ble_eq_true rfl) rfl (dtL_row_0 4 (4, .invokevirtual 26, 3) rfl) hf hH hS hl) (fun c hc => ?_) (fun v hv => ?_)
  · rcases hcase with ⟨v, h, -⟩ | ⟨c2, h, hcc, rfl⟩
    · rw [hc] at h; cases h
    · rw [hc] at h; cases h
      obtain ⟨rfl, rfl⟩ := hc1_some hcc
      refine ⟨[], ⟨0, 9, 12, 13⟩, [], "java/lang/IllegalArgumentException", hT, (fun z hz => nomatch hz), by decide, by decide, cl_L_13 _ _ hk.2.2.2.2.2.1.1, ca_0 _ _ hk.2.2.2.2.2.1.1, fun q => ?_⟩
      refine r_astore_n hk1 [(3, .ref q), (0, .ref (xad X (0, 0, 0, 0))), (1, .int p1), (2, .ref (xad X (4, 0, 0, 0)))] (dtL_row_0 8 (12, .astore_n 3, 1) rfl) (by decide) rfl ?_
      refine r_iconst (v := 1) hk1 (dtL_row_0 9 (13, .iconst 1, 1) rfl) (by decide) ?_
      exact hR _ _ (dtL_row_0 10 (14, .ireturn, 1) rfl)
  · rcases hcase with ⟨v2, h, rfl, rfl⟩ | ⟨c2, h, -⟩
    · rw [hv] at h; cases h
      refine r_i2l0 hk1 (dtL_row_0 5 (7, .i2l, 1) rfl) ?_
      refine r_last0 hk1 (dtL_row_0 6 (8, .lastore, 1) rfl) ?_
      refine r_goto hk1 15 (dtL_row_0 7 (9, .goto 6, 3) rfl) (by decide) ?_
      refine r_iconst (v := 0) hk1 (dtL_row_0 11 (15, .iconst 0, 1) rfl) (by decide) ?_
      exact hR _ _ (dtL_row_0 12 (16, .ireturn, 1) rfl)
    · rw [hv] at h; cases h
def F_L_put (p1 : Int32) (p2 : Int32) (p3 : Int32) (m0 : Mem) : Option (Int32 × Mem) := hRes (F_X3_put p1 p2 p3 m0) (hc2 2 0)
set_option maxHeartbeats 4000000 in
set_option maxRecDepth 100000 in
theorem c_L_put (l : Launch) (hlf : l.stackTraces = false) (X : XW) (p1 : Int32) (p2 : Int32) (p3 : Int32) (m0 : Mem) (rv : Int32) (mE : Mem) (hF : F_L_put p1 p2 p3 m0 = some (rv, mE)) : MH X l yL_put cL_put 6 [(0, 12, 15, 32), (0, 12, 19, 13)] 9 [.ref (xad X (0, 0, 0, 0)), .int p1, .int p2, .int p3, .ref (xad X (4, 0, 0, 0))] m0 rv mE := by
  refine startH hlf (by decide +kernel) rfl [(0, .ref (xad X (0, 0, 0, 0))), (1, .int p1), (2, .int p2), (3, .int p3), (4, .ref (xad X (4, 0, 0, 0)))] rfl (Nat.le_of_ble_eq_true rfl) (fun K hk h0 h1 hc1 hs6 hT hR => ?_)
  unfold F_L_put at hF
  obtain ⟨R, m1, hC, hcase⟩ := hRes_some hF
  have hk1 : Ok X (setc K 1 6) RL cL_put 6 9 := ok_setc hk hc1 hs6
  refine r_aload hk 4 (dtL_put_0 0 (0, .aload 4, 2) rfl) rfl ?_
  refine r_iconst (v := 0) hk (dtL_put_0 1 (2, .iconst 0, 1) rfl) (by decide) ?_
  refine r_aload_n hk 0 (dtL_put_0 2 (3, .aload_n 0, 1) rfl) rfl ?_
  refine r_iload_n hk 1 (dtL_put_0 3 (4, .iload_n 1, 1) rfl) rfl ?_
  refine r_iload_n hk 2 (dtL_put_0 4 (5, .iload_n 2, 1) rfl) rfl ?_
  refine r_iload_n hk 3 (dtL_put_0 5 (6, .iload_n 3, 1) rfl) rfl ?_
  refine r_callIh hk h0 h1 hc1 hs6 (fun hf H locs ls hH hS hl => runT_V (y := yX3_put) hk (in_main 0 (by decide)) rfl rfl (c_X3_put (kl K) hk.2.2.2.2.2.2.2.2.2.2.2 X p1 p2 p3 m0 R m1 hC) lk_L_29 me_X3_put yf_X3_put (by decide) (by decide) rfl (Nat.le_of_ble_eq_true rfl) rfl (dtL_put_0 6 (7, .invokevirtual 29, 3) rfl) hf hH hS hl) (fun c hc => ?_) (fun v hv => ?_)
  · rcases hcase with ⟨v, h, -⟩ | ⟨c2, h, hcc, rfl⟩
    · rw [hc] at h; cases h
    · rw [hc] at h; cases h
      rcases hc2_some hcc with ⟨rfl, rfl⟩ | ⟨rfl, rfl⟩
      · refine ⟨[], ⟨0, 12, 15, 32⟩, [⟨0, 12, 19, 13⟩], "java/lang/IndexOutOfBoundsException", hT, (fun z hz => nomatch hz), by decide, by decide, cl_L_32 _ _ hk.2.2.2.2.2.1.1, ca_2 _ _ hk.2.2.2.2.2.1.1, fun q => ?_⟩
        refine r_astore hk1 [(5, .ref q), (0, .ref (xad X (0, 0, 0, 0))), (1, .int p1), (2, .int p2), (3, .int p3), (4, .ref (xad X (4, 0, 0, 0)))] (dtL_put_0 10 (15, .astore 5, 2) rfl) (by decide) rfl ?_
        refine r_iconst (v := 1) hk1 (dtL_put_0 11 (17, .iconst 1, 1) rfl) (by decide) ?_
        exact hR _ _ (dtL_put_0 12 (18, .ireturn, 1) rfl)
      · refine ⟨[⟨0, 12, 15, 32⟩], ⟨0, 12, 19, 13⟩, [], "java/lang/IllegalArgumentException", hT, (fun z hz => by rw [List.mem_singleton] at hz; subst hz; exact Or.inr ⟨(by decide), _, cl_L_32 _ _ hk.2.2.2.2.2.1.1, hk.2.2.2.2.2.1.2.2.2.2.2.2.2.2.2.2.2.1⟩), by decide, by decide, cl_L_13 _ _ hk.2.2.2.2.2.1.1, ca_0 _ _ hk.2.2.2.2.2.1.1, fun q => ?_⟩
        refine r_astore hk1 [(5, .ref q), (0, .ref (xad X (0, 0, 0, 0))), (1, .int p1), (2, .int p2), (3, .int p3), (4, .ref (xad X (4, 0, 0, 0)))] (dtL_put_0 13 (19, .astore 5, 2) rfl) (by decide) rfl ?_
        refine r_iconst (v := 2) hk1 (dtL_put_0 14 (21, .iconst 2, 1) rfl) (by decide) ?_
        exact hR _ _ (dtL_put_0 15 (22, .ireturn, 1) rfl)
  · rcases hcase with ⟨v2, h, rfl, rfl⟩ | ⟨c2, h, -⟩
    · rw [hv] at h; cases h
      refine r_i2l0 hk1 (dtL_put_0 7 (10, .i2l, 1) rfl) ?_
      refine r_last0 hk1 (dtL_put_0 8 (11, .lastore, 1) rfl) ?_
      refine r_goto hk1 23 (dtL_put_0 9 (12, .goto 11, 3) rfl) (by decide) ?_
      refine r_iconst (v := 0) hk1 (dtL_put_0 16 (23, .iconst 0, 1) rfl) (by decide) ?_
      exact hR _ _ (dtL_put_0 17 (24, .ireturn, 1) rfl)
    · rw [hv] at h; cases h
def F_L_remove (p1 : Int32) (m0 : Mem) : Option (Int32 × Mem) := hRes (F_X3_remove p1 m0) (hc1 2)
set_option maxHeartbeats 4000000 in
set_option maxRecDepth 100000 in
theorem c_L_remove (l : Launch) (hlf : l.stackTraces = false) (X : XW) (p1 : Int32) (m0 : Mem) (rv : Int32) (mE : Mem) (hF : F_L_remove p1 m0 = some (rv, mE)) : MH X l yL_remove cL_remove 4 [(0, 9, 12, 32)] 9 [.ref (xad X (0, 0, 0, 0)), .int p1, .ref (xad X (4, 0, 0, 0))] m0 rv mE := by
  refine startH hlf (by decide +kernel) rfl [(0, .ref (xad X (0, 0, 0, 0))), (1, .int p1), (2, .ref (xad X (4, 0, 0, 0)))] rfl (Nat.le_of_ble_eq_true rfl) (fun K hk h0 h1 hc1 hs6 hT hR => ?_)
  unfold F_L_remove at hF
  obtain ⟨R, m1, hC, hcase⟩ := hRes_some hF
  have hk1 : Ok X (setc K 1 6) RL cL_remove 4 9 := ok_setc hk hc1 hs6
  refine r_aload_n hk 2 (dtL_remove_0 0 (0, .aload_n 2, 1) rfl) rfl ?_
  refine r_iconst (v := 0) hk (dtL_remove_0 1 (1, .iconst 0, 1) rfl) (by decide) ?_
  refine r_aload_n hk 0 (dtL_remove_0 2 (2, .aload_n 0, 1) rfl) rfl ?_
  refine r_iload_n hk 1 (dtL_remove_0 3 (3, .iload_n 1, 1) rfl) rfl ?_
  refine r_callIh hk h0 h1 hc1 hs6 (fun hf H locs ls hH hS hl => runT_V (y := yX3_remove) hk (in_main 0 (by decide)) rfl rfl (c_X3_remove (kl K) hk.2.2.2.2.2.2.2.2.2.2.2 X p1 m0 R m1 hC) lk_L_34 me_X3_remove yf_X3_remove (by decide) (by decide) rfl (Nat.le_of_ble_eq_true rfl) rfl (dtL_remove_0 4 (4, .invokevirtual 34, 3) rfl) hf hH hS hl) (fun c hc => ?_) (fun v hv => ?_)
  · rcases hcase with ⟨v, h, -⟩ | ⟨c2, h, hcc, rfl⟩
    · rw [hc] at h; cases h
    · rw [hc] at h; cases h
      obtain ⟨rfl, rfl⟩ := hc1_some hcc
      refine ⟨[], ⟨0, 9, 12, 32⟩, [], "java/lang/IndexOutOfBoundsException", hT, (fun z hz => nomatch hz), by decide, by decide, cl_L_32 _ _ hk.2.2.2.2.2.1.1, ca_2 _ _ hk.2.2.2.2.2.1.1, fun q => ?_⟩
      refine r_astore_n hk1 [(3, .ref q), (0, .ref (xad X (0, 0, 0, 0))), (1, .int p1), (2, .ref (xad X (4, 0, 0, 0)))] (dtL_remove_0 8 (12, .astore_n 3, 1) rfl) (by decide) rfl ?_
      refine r_iconst (v := 1) hk1 (dtL_remove_0 9 (13, .iconst 1, 1) rfl) (by decide) ?_
      exact hR _ _ (dtL_remove_0 10 (14, .ireturn, 1) rfl)
  · rcases hcase with ⟨v2, h, rfl, rfl⟩ | ⟨c2, h, -⟩
    · rw [hv] at h; cases h
      refine r_i2l0 hk1 (dtL_remove_0 5 (7, .i2l, 1) rfl) ?_
      refine r_last0 hk1 (dtL_remove_0 6 (8, .lastore, 1) rfl) ?_
      refine r_goto hk1 15 (dtL_remove_0 7 (9, .goto 6, 3) rfl) (by decide) ?_
      refine r_iconst (v := 0) hk1 (dtL_remove_0 11 (15, .iconst 0, 1) rfl) (by decide) ?_
      exact hR _ _ (dtL_remove_0 12 (16, .ireturn, 1) rfl)
    · rw [hv] at h; cases h
def F_L_move (p1 : Int32) (m0 : Mem) : Option (Int32 × Mem) := hRes (F_X3_move p1 m0) (hc1 0)
set_option maxHeartbeats 4000000 in
set_option maxRecDepth 100000 in
theorem c_L_move (l : Launch) (hlf : l.stackTraces = false) (X : XW) (p1 : Int32) (m0 : Mem) (rv : Int32) (mE : Mem) (hF : F_L_move p1 m0 = some (rv, mE)) : MH X l yL_move cL_move 4 [(0, 9, 12, 13)] 9 [.ref (xad X (0, 0, 0, 0)), .int p1, .ref (xad X (4, 0, 0, 0))] m0 rv mE := by
  refine startH hlf (by decide +kernel) rfl [(0, .ref (xad X (0, 0, 0, 0))), (1, .int p1), (2, .ref (xad X (4, 0, 0, 0)))] rfl (Nat.le_of_ble_eq_true rfl) (fun K hk h0 h1 hc1 hs6 hT hR => ?_)
  unfold F_L_move at hF
  obtain ⟨R, m1, hC, hcase⟩ := hRes_some hF
  have hk1 : Ok X (setc K 1 6) RL cL_move 4 9 := ok_setc hk hc1 hs6
  refine r_aload_n hk 2 (dtL_move_0 0 (0, .aload_n 2, 1) rfl) rfl ?_
  refine r_iconst (v := 0) hk (dtL_move_0 1 (1, .iconst 0, 1) rfl) (by decide) ?_
  refine r_aload_n hk 0 (dtL_move_0 2 (2, .aload_n 0, 1) rfl) rfl ?_
  refine r_iload_n hk 1 (dtL_move_0 3 (3, .iload_n 1, 1) rfl) rfl ?_
  refine r_callIh hk h0 h1 hc1 hs6 (fun hf H locs ls hH hS hl => runT_V (y := yX3_move) hk (in_main 0 (by decide)) rfl rfl (c_X3_move (kl K) hk.2.2.2.2.2.2.2.2.2.2.2 X p1 m0 R m1 hC) lk_L_37 me_X3_move yf_X3_move (by decide) (by decide) rfl (Nat.le_of_ble_eq_true rfl) rfl (dtL_move_0 4 (4, .invokevirtual 37, 3) rfl) hf hH hS hl) (fun c hc => ?_) (fun v hv => ?_)
  · rcases hcase with ⟨v, h, -⟩ | ⟨c2, h, hcc, rfl⟩
    · rw [hc] at h; cases h
    · rw [hc] at h; cases h
      obtain ⟨rfl, rfl⟩ := hc1_some hcc
      refine ⟨[], ⟨0, 9, 12, 13⟩, [], "java/lang/IllegalArgumentException", hT, (fun z hz => nomatch hz), by decide, by decide, cl_L_13 _ _ hk.2.2.2.2.2.1.1, ca_0 _ _ hk.2.2.2.2.2.1.1, fun q => ?_⟩
      refine r_astore_n hk1 [(3, .ref q), (0, .ref (xad X (0, 0, 0, 0))), (1, .int p1), (2, .ref (xad X (4, 0, 0, 0)))] (dtL_move_0 8 (12, .astore_n 3, 1) rfl) (by decide) rfl ?_
      refine r_iconst (v := 1) hk1 (dtL_move_0 9 (13, .iconst 1, 1) rfl) (by decide) ?_
      exact hR _ _ (dtL_move_0 10 (14, .ireturn, 1) rfl)
  · rcases hcase with ⟨v2, h, rfl, rfl⟩ | ⟨c2, h, -⟩
    · rw [hv] at h; cases h
      refine r_i2l0 hk1 (dtL_move_0 5 (7, .i2l, 1) rfl) ?_
      refine r_last0 hk1 (dtL_move_0 6 (8, .lastore, 1) rfl) ?_
      refine r_goto hk1 15 (dtL_move_0 7 (9, .goto 6, 3) rfl) (by decide) ?_
      refine r_iconst (v := 0) hk1 (dtL_move_0 11 (15, .iconst 0, 1) rfl) (by decide) ?_
      exact hR _ _ (dtL_move_0 12 (16, .ireturn, 1) rfl)
    · rw [hv] at h; cases h
def F_L_limit (p1 : Int32) (p2 : Int32) (p3 : Int32) (m0 : Mem) : Option (Int32 × Mem) := hRes (F_X3_limit p1 p2 p3 m0) (hc1 0)
set_option maxHeartbeats 4000000 in
set_option maxRecDepth 100000 in
theorem c_L_limit (l : Launch) (hlf : l.stackTraces = false) (X : XW) (p1 : Int32) (p2 : Int32) (p3 : Int32) (m0 : Mem) (rv : Int32) (mE : Mem) (hF : F_L_limit p1 p2 p3 m0 = some (rv, mE)) : MH X l yL_limit cL_limit 6 [(0, 12, 15, 13)] 9 [.ref (xad X (0, 0, 0, 0)), .int p1, .int p2, .int p3, .ref (xad X (4, 0, 0, 0))] m0 rv mE := by
  refine startH hlf (by decide +kernel) rfl [(0, .ref (xad X (0, 0, 0, 0))), (1, .int p1), (2, .int p2), (3, .int p3), (4, .ref (xad X (4, 0, 0, 0)))] rfl (Nat.le_of_ble_eq_true rfl) (fun K hk h0 h1 hc1 hs6 hT hR => ?_)
  unfold F_L_limit at hF
  obtain ⟨R, m1, hC, hcase⟩ := hRes_some hF
  have hk1 : Ok X (setc K 1 6) RL cL_limit 6 9 := ok_setc hk hc1 hs6
  refine r_aload hk 4 (dtL_limit_0 0 (0, .aload 4, 2) rfl) rfl ?_
  refine r_iconst (v := 0) hk (dtL_limit_0 1 (2, .iconst 0, 1) rfl) (by decide) ?_
  refine r_aload_n hk 0 (dtL_limit_0 2 (3, .aload_n 0, 1) rfl) rfl ?_
  refine r_iload_n hk 1 (dtL_limit_0 3 (4, .iload_n 1, 1) rfl) rfl ?_
  refine r_iload_n hk 2 (dtL_limit_0 4 (5, .iload_n 2, 1) rfl) rfl ?_
  refine r_iload_n hk 3 (dtL_limit_0 5 (6, .iload_n 3, 1) rfl) rfl ?_
  refine r_callIh hk h0 h1 hc1 hs6 (fun hf H locs ls hH hS hl => runT_V (y := yX3_limit) hk (in_main 0 (by decide)) rfl rfl (c_X3_limit (kl K) hk.2.2.2.2.2.2.2.2.2.2.2 X p1 p2 p3 m0 R m1 hC) lk_L_40 me_X3_limit yf_X3_limit (by decide) (by decide) rfl (Nat.le_of_ble_eq_true rfl) rfl (dtL_limit_0 6 (7, .invokevirtual 40, 3) rfl) hf hH hS hl) (fun c hc => ?_) (fun v hv => ?_)
  · rcases hcase with ⟨v, h, -⟩ | ⟨c2, h, hcc, rfl⟩
    · rw [hc] at h; cases h
    · rw [hc] at h; cases h
      obtain ⟨rfl, rfl⟩ := hc1_some hcc
      refine ⟨[], ⟨0, 12, 15, 13⟩, [], "java/lang/IllegalArgumentException", hT, (fun z hz => nomatch hz), by decide, by decide, cl_L_13 _ _ hk.2.2.2.2.2.1.1, ca_0 _ _ hk.2.2.2.2.2.1.1, fun q => ?_⟩
      refine r_astore hk1 [(5, .ref q), (0, .ref (xad X (0, 0, 0, 0))), (1, .int p1), (2, .int p2), (3, .int p3), (4, .ref (xad X (4, 0, 0, 0)))] (dtL_limit_0 10 (15, .astore 5, 2) rfl) (by decide) rfl ?_
      refine r_iconst (v := 1) hk1 (dtL_limit_0 11 (17, .iconst 1, 1) rfl) (by decide) ?_
      exact hR _ _ (dtL_limit_0 12 (18, .ireturn, 1) rfl)
  · rcases hcase with ⟨v2, h, rfl, rfl⟩ | ⟨c2, h, -⟩
    · rw [hv] at h; cases h
      refine r_i2l0 hk1 (dtL_limit_0 7 (10, .i2l, 1) rfl) ?_
      refine r_last0 hk1 (dtL_limit_0 8 (11, .lastore, 1) rfl) ?_
      refine r_goto hk1 19 (dtL_limit_0 9 (12, .goto 7, 3) rfl) (by decide) ?_
      refine r_iconst (v := 0) hk1 (dtL_limit_0 13 (19, .iconst 0, 1) rfl) (by decide) ?_
      exact hR _ _ (dtL_limit_0 14 (20, .ireturn, 1) rfl)
    · rw [hv] at h; cases h
def F_L_append (p1 : Int32) (m0 : Mem) : Option (Int32 × Mem) := hRes (F_X3_append p1 m0) (hc2 0 1)
set_option maxHeartbeats 4000000 in
set_option maxRecDepth 100000 in
theorem c_L_append (l : Launch) (hlf : l.stackTraces = false) (X : XW) (p1 : Int32) (m0 : Mem) (rv : Int32) (mE : Mem) (hF : F_L_append p1 m0 = some (rv, mE)) : MH X l yL_append cL_append 4 [(0, 9, 12, 13), (0, 9, 15, 47)] 9 [.ref (xad X (0, 0, 0, 0)), .int p1, .ref (xad X (4, 0, 0, 0))] m0 rv mE := by
  refine startH hlf (by decide +kernel) rfl [(0, .ref (xad X (0, 0, 0, 0))), (1, .int p1), (2, .ref (xad X (4, 0, 0, 0)))] rfl (Nat.le_of_ble_eq_true rfl) (fun K hk h0 h1 hc1 hs6 hT hR => ?_)
  unfold F_L_append at hF
  obtain ⟨R, m1, hC, hcase⟩ := hRes_some hF
  have hk1 : Ok X (setc K 1 6) RL cL_append 4 9 := ok_setc hk hc1 hs6
  refine r_aload_n hk 2 (dtL_append_0 0 (0, .aload_n 2, 1) rfl) rfl ?_
  refine r_iconst (v := 0) hk (dtL_append_0 1 (1, .iconst 0, 1) rfl) (by decide) ?_
  refine r_aload_n hk 0 (dtL_append_0 2 (2, .aload_n 0, 1) rfl) rfl ?_
  refine r_iload_n hk 1 (dtL_append_0 3 (3, .iload_n 1, 1) rfl) rfl ?_
  refine r_callIh hk h0 h1 hc1 hs6 (fun hf H locs ls hH hS hl => runT_V (y := yX3_append) hk (in_main 0 (by decide)) rfl rfl (c_X3_append (kl K) hk.2.2.2.2.2.2.2.2.2.2.2 X p1 m0 R m1 hC) lk_L_44 me_X3_append yf_X3_append (by decide) (by decide) rfl (Nat.le_of_ble_eq_true rfl) rfl (dtL_append_0 4 (4, .invokevirtual 44, 3) rfl) hf hH hS hl) (fun c hc => ?_) (fun v hv => ?_)
  · rcases hcase with ⟨v, h, -⟩ | ⟨c2, h, hcc, rfl⟩
    · rw [hc] at h; cases h
    · rw [hc] at h; cases h
      rcases hc2_some hcc with ⟨rfl, rfl⟩ | ⟨rfl, rfl⟩
      · refine ⟨[], ⟨0, 9, 12, 13⟩, [⟨0, 9, 15, 47⟩], "java/lang/IllegalArgumentException", hT, (fun z hz => nomatch hz), by decide, by decide, cl_L_13 _ _ hk.2.2.2.2.2.1.1, ca_0 _ _ hk.2.2.2.2.2.1.1, fun q => ?_⟩
        refine r_astore_n hk1 [(3, .ref q), (0, .ref (xad X (0, 0, 0, 0))), (1, .int p1), (2, .ref (xad X (4, 0, 0, 0)))] (dtL_append_0 8 (12, .astore_n 3, 1) rfl) (by decide) rfl ?_
        refine r_iconst (v := 1) hk1 (dtL_append_0 9 (13, .iconst 1, 1) rfl) (by decide) ?_
        exact hR _ _ (dtL_append_0 10 (14, .ireturn, 1) rfl)
      · refine ⟨[⟨0, 9, 12, 13⟩], ⟨0, 9, 15, 47⟩, [], "java/lang/IllegalStateException", hT, (fun z hz => by rw [List.mem_singleton] at hz; subst hz; exact Or.inr ⟨(by decide), _, cl_L_13 _ _ hk.2.2.2.2.2.1.1, hk.2.2.2.2.2.1.2.2.2.2.2.2.2.2.2.2.2.2⟩), by decide, by decide, cl_L_47 _ _ hk.2.2.2.2.2.1.1, ca_1 _ _ hk.2.2.2.2.2.1.1, fun q => ?_⟩
        refine r_astore_n hk1 [(3, .ref q), (0, .ref (xad X (0, 0, 0, 0))), (1, .int p1), (2, .ref (xad X (4, 0, 0, 0)))] (dtL_append_0 11 (15, .astore_n 3, 1) rfl) (by decide) rfl ?_
        refine r_iconst (v := 2) hk1 (dtL_append_0 12 (16, .iconst 2, 1) rfl) (by decide) ?_
        exact hR _ _ (dtL_append_0 13 (17, .ireturn, 1) rfl)
  · rcases hcase with ⟨v2, h, rfl, rfl⟩ | ⟨c2, h, -⟩
    · rw [hv] at h; cases h
      refine r_i2l0 hk1 (dtL_append_0 5 (7, .i2l, 1) rfl) ?_
      refine r_last0 hk1 (dtL_append_0 6 (8, .lastore, 1) rfl) ?_
      refine r_goto hk1 18 (dtL_append_0 7 (9, .goto 9, 3) rfl) (by decide) ?_
      refine r_iconst (v := 0) hk1 (dtL_append_0 14 (18, .iconst 0, 1) rfl) (by decide) ?_
      exact hR _ _ (dtL_append_0 15 (19, .ireturn, 1) rfl)
    · rw [hv] at h; cases h
def F_L_ask (p1 : Int32) (m0 : Mem) : Option (Int32 × Mem) := hRes (F_X3_ask p1 m0) (hc1 0)
set_option maxHeartbeats 4000000 in
set_option maxRecDepth 100000 in
theorem c_L_ask (l : Launch) (hlf : l.stackTraces = false) (X : XW) (p1 : Int32) (m0 : Mem) (rv : Int32) (mE : Mem) (hF : F_L_ask p1 m0 = some (rv, mE)) : MH X l yL_ask cL_ask 4 [(0, 9, 12, 13)] 9 [.ref (xad X (0, 0, 0, 0)), .int p1, .ref (xad X (4, 0, 0, 0))] m0 rv mE := by
  refine startH hlf (by decide +kernel) rfl [(0, .ref (xad X (0, 0, 0, 0))), (1, .int p1), (2, .ref (xad X (4, 0, 0, 0)))] rfl (Nat.le_of_ble_eq_true rfl) (fun K hk h0 h1 hc1 hs6 hT hR => ?_)
  unfold F_L_ask at hF
  obtain ⟨R, m1, hC, hcase⟩ := hRes_some hF
  have hk1 : Ok X (setc K 1 6) RL cL_ask 4 9 := ok_setc hk hc1 hs6
  refine r_aload_n hk 2 (dtL_ask_0 0 (0, .aload_n 2, 1) rfl) rfl ?_
  refine r_iconst (v := 0) hk (dtL_ask_0 1 (1, .iconst 0, 1) rfl) (by decide) ?_
  refine r_aload_n hk 0 (dtL_ask_0 2 (2, .aload_n 0, 1) rfl) rfl ?_
  refine r_iload_n hk 1 (dtL_ask_0 3 (3, .iload_n 1, 1) rfl) rfl ?_
  refine r_callIh hk h0 h1 hc1 hs6 (fun hf H locs ls hH hS hl => runT_V (y := yX3_ask) hk (in_main 0 (by decide)) rfl rfl (c_X3_ask (kl K) hk.2.2.2.2.2.2.2.2.2.2.2 X p1 m0 R m1 hC) lk_L_49 me_X3_ask yf_X3_ask (by decide) (by decide) rfl (Nat.le_of_ble_eq_true rfl) rfl (dtL_ask_0 4 (4, .invokevirtual 49, 3) rfl) hf hH hS hl) (fun c hc => ?_) (fun v hv => ?_)
  · rcases hcase with ⟨v, h, -⟩ | ⟨c2, h, hcc, rfl⟩
    · rw [hc] at h; cases h
    · rw [hc] at h; cases h
      obtain ⟨rfl, rfl⟩ := hc1_some hcc
      refine ⟨[], ⟨0, 9, 12, 13⟩, [], "java/lang/IllegalArgumentException", hT, (fun z hz => nomatch hz), by decide, by decide, cl_L_13 _ _ hk.2.2.2.2.2.1.1, ca_0 _ _ hk.2.2.2.2.2.1.1, fun q => ?_⟩
      refine r_astore_n hk1 [(3, .ref q), (0, .ref (xad X (0, 0, 0, 0))), (1, .int p1), (2, .ref (xad X (4, 0, 0, 0)))] (dtL_ask_0 8 (12, .astore_n 3, 1) rfl) (by decide) rfl ?_
      refine r_iconst (v := 1) hk1 (dtL_ask_0 9 (13, .iconst 1, 1) rfl) (by decide) ?_
      exact hR _ _ (dtL_ask_0 10 (14, .ireturn, 1) rfl)
  · rcases hcase with ⟨v2, h, rfl, rfl⟩ | ⟨c2, h, -⟩
    · rw [hv] at h; cases h
      refine r_i2l0 hk1 (dtL_ask_0 5 (7, .i2l, 1) rfl) ?_
      refine r_last0 hk1 (dtL_ask_0 6 (8, .lastore, 1) rfl) ?_
      refine r_goto hk1 15 (dtL_ask_0 7 (9, .goto 6, 3) rfl) (by decide) ?_
      refine r_iconst (v := 0) hk1 (dtL_ask_0 11 (15, .iconst 0, 1) rfl) (by decide) ?_
      exact hR _ _ (dtL_ask_0 12 (16, .ireturn, 1) rfl)
    · rw [hv] at h; cases h
def F_L_purge (p1 : Int32) (m0 : Mem) : Option (Int32 × Mem) := hRes (F_X3_purge p1 m0) (hc1 0)
set_option maxHeartbeats 4000000 in
set_option maxRecDepth 100000 in
theorem c_L_purge (l : Launch) (hlf : l.stackTraces = false) (X : XW) (p1 : Int32) (m0 : Mem) (rv : Int32) (mE : Mem) (hF : F_L_purge p1 m0 = some (rv, mE)) : MH X l yL_purge cL_purge 4 [(0, 9, 12, 13)] 9 [.ref (xad X (0, 0, 0, 0)), .int p1, .ref (xad X (4, 0, 0, 0))] m0 rv mE := by
  refine startH hlf (by decide +kernel) rfl [(0, .ref (xad X (0, 0, 0, 0))), (1, .int p1), (2, .ref (xad X (4, 0, 0, 0)))] rfl (Nat.le_of_ble_eq_true rfl) (fun K hk h0 h1 hc1 hs6 hT hR => ?_)
  unfold F_L_purge at hF
  obtain ⟨R, m1, hC, hcase⟩ := hRes_some hF
  have hk1 : Ok X (setc K 1 6) RL cL_purge 4 9 := ok_setc hk hc1 hs6
  refine r_aload_n hk 2 (dtL_purge_0 0 (0, .aload_n 2, 1) rfl) rfl ?_
  refine r_iconst (v := 0) hk (dtL_purge_0 1 (1, .iconst 0, 1) rfl) (by decide) ?_
  refine r_aload_n hk 0 (dtL_purge_0 2 (2, .aload_n 0, 1) rfl) rfl ?_
  refine r_iload_n hk 1 (dtL_purge_0 3 (3, .iload_n 1, 1) rfl) rfl ?_
  refine r_callIh hk h0 h1 hc1 hs6 (fun hf H locs ls hH hS hl => runT_V (y := yX3_purge) hk (in_main 0 (by decide)) rfl rfl (c_X3_purge (kl K) hk.2.2.2.2.2.2.2.2.2.2.2 X p1 m0 R m1 hC) lk_L_52 me_X3_purge yf_X3_purge (by decide) (by decide) rfl (Nat.le_of_ble_eq_true rfl) rfl (dtL_purge_0 4 (4, .invokevirtual 52, 3) rfl) hf hH hS hl) (fun c hc => ?_) (fun v hv => ?_)
  · rcases hcase with ⟨v, h, -⟩ | ⟨c2, h, hcc, rfl⟩
    · rw [hc] at h; cases h
    · rw [hc] at h; cases h
      obtain ⟨rfl, rfl⟩ := hc1_some hcc
      refine ⟨[], ⟨0, 9, 12, 13⟩, [], "java/lang/IllegalArgumentException", hT, (fun z hz => nomatch hz), by decide, by decide, cl_L_13 _ _ hk.2.2.2.2.2.1.1, ca_0 _ _ hk.2.2.2.2.2.1.1, fun q => ?_⟩
      refine r_astore_n hk1 [(3, .ref q), (0, .ref (xad X (0, 0, 0, 0))), (1, .int p1), (2, .ref (xad X (4, 0, 0, 0)))] (dtL_purge_0 8 (12, .astore_n 3, 1) rfl) (by decide) rfl ?_
      refine r_iconst (v := 1) hk1 (dtL_purge_0 9 (13, .iconst 1, 1) rfl) (by decide) ?_
      exact hR _ _ (dtL_purge_0 10 (14, .ireturn, 1) rfl)
  · rcases hcase with ⟨v2, h, rfl, rfl⟩ | ⟨c2, h, -⟩
    · rw [hv] at h; cases h
      refine r_i2l0 hk1 (dtL_purge_0 5 (7, .i2l, 1) rfl) ?_
      refine r_last0 hk1 (dtL_purge_0 6 (8, .lastore, 1) rfl) ?_
      refine r_goto hk1 15 (dtL_purge_0 7 (9, .goto 6, 3) rfl) (by decide) ?_
      refine r_iconst (v := 0) hk1 (dtL_purge_0 11 (15, .iconst 0, 1) rfl) (by decide) ?_
      exact hR _ _ (dtL_purge_0 12 (16, .ireturn, 1) rfl)
    · rw [hv] at h; cases h
def F_L_undo  (m0 : Mem) : Option (Int32 × Mem) := hRes (F_X3_undo  m0) (hc1 1)
set_option maxHeartbeats 4000000 in
set_option maxRecDepth 100000 in
theorem c_L_undo (l : Launch) (hlf : l.stackTraces = false) (X : XW)  (m0 : Mem) (rv : Int32) (mE : Mem) (hF : F_L_undo  m0 = some (rv, mE)) : MH X l yL_undo cL_undo 3 [(0, 8, 11, 47)] 8 [.ref (xad X (0, 0, 0, 0)), .ref (xad X (4, 0, 0, 0))] m0 rv mE := by
  refine startH hlf (by decide +kernel) rfl [(0, .ref (xad X (0, 0, 0, 0))), (1, .ref (xad X (4, 0, 0, 0)))] rfl (Nat.le_of_ble_eq_true rfl) (fun K hk h0 h1 hc1 hs6 hT hR => ?_)
  unfold F_L_undo at hF
  obtain ⟨R, m1, hC, hcase⟩ := hRes_some hF
  have hk1 : Ok X (setc K 1 6) RL cL_undo 3 8 := ok_setc hk hc1 hs6
  refine r_aload_n hk 1 (dtL_undo_0 0 (0, .aload_n 1, 1) rfl) rfl ?_
  refine r_iconst (v := 0) hk (dtL_undo_0 1 (1, .iconst 0, 1) rfl) (by decide) ?_
  refine r_aload_n hk 0 (dtL_undo_0 2 (2, .aload_n 0, 1) rfl) rfl ?_
  refine r_callIh hk h0 h1 hc1 hs6 (fun hf H locs ls hH hS hl => runT_V (y := yX3_undo) hk (in_main 0 (by decide)) rfl rfl (c_X3_undo (kl K) hk.2.2.2.2.2.2.2.2.2.2.2 X  m0 R m1 hC) lk_L_55 me_X3_undo yf_X3_undo (by decide) (by decide) rfl (Nat.le_of_ble_eq_true rfl) rfl (dtL_undo_0 3 (3, .invokevirtual 55, 3) rfl) hf hH hS hl) (fun c hc => ?_) (fun v hv => ?_)
  · rcases hcase with ⟨v, h, -⟩ | ⟨c2, h, hcc, rfl⟩
    · rw [hc] at h; cases h
    · rw [hc] at h; cases h
      obtain ⟨rfl, rfl⟩ := hc1_some hcc
      refine ⟨[], ⟨0, 8, 11, 47⟩, [], "java/lang/IllegalStateException", hT, (fun z hz => nomatch hz), by decide, by decide, cl_L_47 _ _ hk.2.2.2.2.2.1.1, ca_1 _ _ hk.2.2.2.2.2.1.1, fun q => ?_⟩
      refine r_astore_n hk1 [(2, .ref q), (0, .ref (xad X (0, 0, 0, 0))), (1, .ref (xad X (4, 0, 0, 0)))] (dtL_undo_0 7 (11, .astore_n 2, 1) rfl) (by decide) rfl ?_
      refine r_iconst (v := 1) hk1 (dtL_undo_0 8 (12, .iconst 1, 1) rfl) (by decide) ?_
      exact hR _ _ (dtL_undo_0 9 (13, .ireturn, 1) rfl)
  · rcases hcase with ⟨v2, h, rfl, rfl⟩ | ⟨c2, h, -⟩
    · rw [hv] at h; cases h
      refine r_i2l0 hk1 (dtL_undo_0 4 (6, .i2l, 1) rfl) ?_
      refine r_last0 hk1 (dtL_undo_0 5 (7, .lastore, 1) rfl) ?_
      refine r_goto hk1 14 (dtL_undo_0 6 (8, .goto 6, 3) rfl) (by decide) ?_
      refine r_iconst (v := 0) hk1 (dtL_undo_0 10 (14, .iconst 0, 1) rfl) (by decide) ?_
      exact hR _ _ (dtL_undo_0 11 (15, .ireturn, 1) rfl)
    · rw [hv] at h; cases h
def F_L_rowOf (p1 : Int32) (p2 : Int32) (m0 : Mem) : Option (Int32 × Mem) := hRes (pairM (F_X3_rowOf p1 p2 m0) m0) (hc2 2 0)
set_option maxHeartbeats 4000000 in
set_option maxRecDepth 100000 in
theorem c_L_rowOf (l : Launch) (hlf : l.stackTraces = false) (X : XW) (p1 : Int32) (p2 : Int32) (m0 : Mem) (rv : Int32) (mE : Mem) (hF : F_L_rowOf p1 p2 m0 = some (rv, mE)) : MH X l yL_rowOf cL_rowOf 5 [(0, 10, 13, 32), (0, 10, 17, 13)] 9 [.ref (xad X (0, 0, 0, 0)), .int p1, .int p2, .ref (xad X (4, 0, 0, 0))] m0 rv mE := by
  refine startH hlf (by decide +kernel) rfl [(0, .ref (xad X (0, 0, 0, 0))), (1, .int p1), (2, .int p2), (3, .ref (xad X (4, 0, 0, 0)))] rfl (Nat.le_of_ble_eq_true rfl) (fun K hk h0 h1 hc1 hs6 hT hR => ?_)
  unfold F_L_rowOf at hF
  obtain ⟨R, m1, hC, hcase⟩ := hRes_some hF
  have hk1 : Ok X (setc K 1 6) RL cL_rowOf 5 9 := ok_setc hk hc1 hs6
  obtain ⟨hD, rfl⟩ := pairM_some hC
  refine r_aload_n hk 3 (dtL_rowOf_0 0 (0, .aload_n 3, 1) rfl) rfl ?_
  refine r_iconst (v := 0) hk (dtL_rowOf_0 1 (1, .iconst 0, 1) rfl) (by decide) ?_
  refine r_aload_n hk 0 (dtL_rowOf_0 2 (2, .aload_n 0, 1) rfl) rfl ?_
  refine r_iload_n hk 1 (dtL_rowOf_0 3 (3, .iload_n 1, 1) rfl) rfl ?_
  refine r_iload_n hk 2 (dtL_rowOf_0 4 (4, .iload_n 2, 1) rfl) rfl ?_
  refine r_callIh hk h0 h1 hc1 hs6 (fun hf H locs ls hH hS hl => runT_V (y := yX3_rowOf) hk (in_main 0 (by decide)) rfl rfl (c_X3_rowOf (kl K) hk.2.2.2.2.2.2.2.2.2.2.2 X p1 p2 m0 R hD) lk_L_59 me_X3_rowOf yf_X3_rowOf (by decide) (by decide) rfl (Nat.le_of_ble_eq_true rfl) rfl (dtL_rowOf_0 5 (5, .invokevirtual 59, 3) rfl) hf hH hS hl) (fun c hc => ?_) (fun v hv => ?_)
  · rcases hcase with ⟨v, h, -⟩ | ⟨c2, h, hcc, rfl⟩
    · rw [hc] at h; cases h
    · rw [hc] at h; cases h
      rcases hc2_some hcc with ⟨rfl, rfl⟩ | ⟨rfl, rfl⟩
      · refine ⟨[], ⟨0, 10, 13, 32⟩, [⟨0, 10, 17, 13⟩], "java/lang/IndexOutOfBoundsException", hT, (fun z hz => nomatch hz), by decide, by decide, cl_L_32 _ _ hk.2.2.2.2.2.1.1, ca_2 _ _ hk.2.2.2.2.2.1.1, fun q => ?_⟩
        refine r_astore hk1 [(4, .ref q), (0, .ref (xad X (0, 0, 0, 0))), (1, .int p1), (2, .int p2), (3, .ref (xad X (4, 0, 0, 0)))] (dtL_rowOf_0 9 (13, .astore 4, 2) rfl) (by decide) rfl ?_
        refine r_iconst (v := 1) hk1 (dtL_rowOf_0 10 (15, .iconst 1, 1) rfl) (by decide) ?_
        exact hR _ _ (dtL_rowOf_0 11 (16, .ireturn, 1) rfl)
      · refine ⟨[⟨0, 10, 13, 32⟩], ⟨0, 10, 17, 13⟩, [], "java/lang/IllegalArgumentException", hT, (fun z hz => by rw [List.mem_singleton] at hz; subst hz; exact Or.inr ⟨(by decide), _, cl_L_32 _ _ hk.2.2.2.2.2.1.1, hk.2.2.2.2.2.1.2.2.2.2.2.2.2.2.2.2.2.1⟩), by decide, by decide, cl_L_13 _ _ hk.2.2.2.2.2.1.1, ca_0 _ _ hk.2.2.2.2.2.1.1, fun q => ?_⟩
        refine r_astore hk1 [(4, .ref q), (0, .ref (xad X (0, 0, 0, 0))), (1, .int p1), (2, .int p2), (3, .ref (xad X (4, 0, 0, 0)))] (dtL_rowOf_0 12 (17, .astore 4, 2) rfl) (by decide) rfl ?_
        refine r_iconst (v := 2) hk1 (dtL_rowOf_0 13 (19, .iconst 2, 1) rfl) (by decide) ?_
        exact hR _ _ (dtL_rowOf_0 14 (20, .ireturn, 1) rfl)
  · rcases hcase with ⟨v2, h, rfl, rfl⟩ | ⟨c2, h, -⟩
    · rw [hv] at h; cases h
      refine r_i2l0 hk1 (dtL_rowOf_0 6 (8, .i2l, 1) rfl) ?_
      refine r_last0 hk1 (dtL_rowOf_0 7 (9, .lastore, 1) rfl) ?_
      refine r_goto hk1 21 (dtL_rowOf_0 8 (10, .goto 11, 3) rfl) (by decide) ?_
      refine r_iconst (v := 0) hk1 (dtL_rowOf_0 15 (21, .iconst 0, 1) rfl) (by decide) ?_
      exact hR _ _ (dtL_rowOf_0 16 (22, .ireturn, 1) rfl)
    · rw [hv] at h; cases h
def F_L_column (p1 : Int32) (p2 : Int32) (p3 : Int32) (m0 : Mem) : Option (Int32 × Mem) := hRes (pairM (F_X3_column p1 p2 p3 m0) m0) (hc1 0)
set_option maxHeartbeats 4000000 in
set_option maxRecDepth 100000 in
theorem c_L_column (l : Launch) (hlf : l.stackTraces = false) (X : XW) (p1 : Int32) (p2 : Int32) (p3 : Int32) (m0 : Mem) (rv : Int32) (mE : Mem) (hF : F_L_column p1 p2 p3 m0 = some (rv, mE)) : MH X l yL_column cL_column 6 [(0, 12, 15, 13)] 9 [.ref (xad X (0, 0, 0, 0)), .int p1, .int p2, .int p3, .ref (xad X (4, 0, 0, 0))] m0 rv mE := by
  refine startH hlf (by decide +kernel) rfl [(0, .ref (xad X (0, 0, 0, 0))), (1, .int p1), (2, .int p2), (3, .int p3), (4, .ref (xad X (4, 0, 0, 0)))] rfl (Nat.le_of_ble_eq_true rfl) (fun K hk h0 h1 hc1 hs6 hT hR => ?_)
  unfold F_L_column at hF
  obtain ⟨R, m1, hC, hcase⟩ := hRes_some hF
  have hk1 : Ok X (setc K 1 6) RL cL_column 6 9 := ok_setc hk hc1 hs6
  obtain ⟨hD, rfl⟩ := pairM_some hC
  refine r_aload hk 4 (dtL_column_0 0 (0, .aload 4, 2) rfl) rfl ?_
  refine r_iconst (v := 0) hk (dtL_column_0 1 (2, .iconst 0, 1) rfl) (by decide) ?_
  refine r_aload_n hk 0 (dtL_column_0 2 (3, .aload_n 0, 1) rfl) rfl ?_
  refine r_iload_n hk 1 (dtL_column_0 3 (4, .iload_n 1, 1) rfl) rfl ?_
  refine r_iload_n hk 2 (dtL_column_0 4 (5, .iload_n 2, 1) rfl) rfl ?_
  refine r_iload_n hk 3 (dtL_column_0 5 (6, .iload_n 3, 1) rfl) rfl ?_
  refine r_callIh hk h0 h1 hc1 hs6 (fun hf H locs ls hH hS hl => runT_V (y := yX3_column) hk (in_main 0 (by decide)) rfl rfl (c_X3_column (kl K) hk.2.2.2.2.2.2.2.2.2.2.2 X p1 p2 p3 m0 R hD) lk_L_62 me_X3_column yf_X3_column (by decide) (by decide) rfl (Nat.le_of_ble_eq_true rfl) rfl (dtL_column_0 6 (7, .invokevirtual 62, 3) rfl) hf hH hS hl) (fun c hc => ?_) (fun v hv => ?_)
  · rcases hcase with ⟨v, h, -⟩ | ⟨c2, h, hcc, rfl⟩
    · rw [hc] at h; cases h
    · rw [hc] at h; cases h
      obtain ⟨rfl, rfl⟩ := hc1_some hcc
      refine ⟨[], ⟨0, 12, 15, 13⟩, [], "java/lang/IllegalArgumentException", hT, (fun z hz => nomatch hz), by decide, by decide, cl_L_13 _ _ hk.2.2.2.2.2.1.1, ca_0 _ _ hk.2.2.2.2.2.1.1, fun q => ?_⟩
      refine r_astore hk1 [(5, .ref q), (0, .ref (xad X (0, 0, 0, 0))), (1, .int p1), (2, .int p2), (3, .int p3), (4, .ref (xad X (4, 0, 0, 0)))] (dtL_column_0 10 (15, .astore 5, 2) rfl) (by decide) rfl ?_
      refine r_iconst (v := 1) hk1 (dtL_column_0 11 (17, .iconst 1, 1) rfl) (by decide) ?_
      exact hR _ _ (dtL_column_0 12 (18, .ireturn, 1) rfl)
  · rcases hcase with ⟨v2, h, rfl, rfl⟩ | ⟨c2, h, -⟩
    · rw [hv] at h; cases h
      refine r_i2l0 hk1 (dtL_column_0 7 (10, .i2l, 1) rfl) ?_
      refine r_last0 hk1 (dtL_column_0 8 (11, .lastore, 1) rfl) ?_
      refine r_goto hk1 19 (dtL_column_0 9 (12, .goto 7, 3) rfl) (by decide) ?_
      refine r_iconst (v := 0) hk1 (dtL_column_0 13 (19, .iconst 0, 1) rfl) (by decide) ?_
      exact hR _ _ (dtL_column_0 14 (20, .ireturn, 1) rfl)
    · rw [hv] at h; cases h
def F_L_tenant (p1 : Int32) (p2 : Int32) (m0 : Mem) : Option (Int32 × Mem) := hRes (pairM (F_X3_tenant p1 p2 m0) m0) (hc1 0)
set_option maxHeartbeats 4000000 in
set_option maxRecDepth 100000 in
theorem c_L_tenant (l : Launch) (hlf : l.stackTraces = false) (X : XW) (p1 : Int32) (p2 : Int32) (m0 : Mem) (rv : Int32) (mE : Mem) (hF : F_L_tenant p1 p2 m0 = some (rv, mE)) : MH X l yL_tenant cL_tenant 5 [(0, 10, 13, 13)] 9 [.ref (xad X (0, 0, 0, 0)), .int p1, .int p2, .ref (xad X (4, 0, 0, 0))] m0 rv mE := by
  refine startH hlf (by decide +kernel) rfl [(0, .ref (xad X (0, 0, 0, 0))), (1, .int p1), (2, .int p2), (3, .ref (xad X (4, 0, 0, 0)))] rfl (Nat.le_of_ble_eq_true rfl) (fun K hk h0 h1 hc1 hs6 hT hR => ?_)
  unfold F_L_tenant at hF
  obtain ⟨R, m1, hC, hcase⟩ := hRes_some hF
  have hk1 : Ok X (setc K 1 6) RL cL_tenant 5 9 := ok_setc hk hc1 hs6
  obtain ⟨hD, rfl⟩ := pairM_some hC
  refine r_aload_n hk 3 (dtL_tenant_0 0 (0, .aload_n 3, 1) rfl) rfl ?_
  refine r_iconst (v := 0) hk (dtL_tenant_0 1 (1, .iconst 0, 1) rfl) (by decide) ?_
  refine r_aload_n hk 0 (dtL_tenant_0 2 (2, .aload_n 0, 1) rfl) rfl ?_
  refine r_iload_n hk 1 (dtL_tenant_0 3 (3, .iload_n 1, 1) rfl) rfl ?_
  refine r_iload_n hk 2 (dtL_tenant_0 4 (4, .iload_n 2, 1) rfl) rfl ?_
  refine r_callIh hk h0 h1 hc1 hs6 (fun hf H locs ls hH hS hl => runT_V (y := yX3_tenant) hk (in_main 0 (by decide)) rfl rfl (c_X3_tenant (kl K) hk.2.2.2.2.2.2.2.2.2.2.2 X p1 p2 m0 R hD) lk_L_65 me_X3_tenant yf_X3_tenant (by decide) (by decide) rfl (Nat.le_of_ble_eq_true rfl) rfl (dtL_tenant_0 5 (5, .invokevirtual 65, 3) rfl) hf hH hS hl) (fun c hc => ?_) (fun v hv => ?_)
  · rcases hcase with ⟨v, h, -⟩ | ⟨c2, h, hcc, rfl⟩
    · rw [hc] at h; cases h
    · rw [hc] at h; cases h
      obtain ⟨rfl, rfl⟩ := hc1_some hcc
      refine ⟨[], ⟨0, 10, 13, 13⟩, [], "java/lang/IllegalArgumentException", hT, (fun z hz => nomatch hz), by decide, by decide, cl_L_13 _ _ hk.2.2.2.2.2.1.1, ca_0 _ _ hk.2.2.2.2.2.1.1, fun q => ?_⟩
      refine r_astore hk1 [(4, .ref q), (0, .ref (xad X (0, 0, 0, 0))), (1, .int p1), (2, .int p2), (3, .ref (xad X (4, 0, 0, 0)))] (dtL_tenant_0 9 (13, .astore 4, 2) rfl) (by decide) rfl ?_
      refine r_iconst (v := 1) hk1 (dtL_tenant_0 10 (15, .iconst 1, 1) rfl) (by decide) ?_
      exact hR _ _ (dtL_tenant_0 11 (16, .ireturn, 1) rfl)
  · rcases hcase with ⟨v2, h, rfl, rfl⟩ | ⟨c2, h, -⟩
    · rw [hv] at h; cases h
      refine r_i2l0 hk1 (dtL_tenant_0 6 (8, .i2l, 1) rfl) ?_
      refine r_last0 hk1 (dtL_tenant_0 7 (9, .lastore, 1) rfl) ?_
      refine r_goto hk1 17 (dtL_tenant_0 8 (10, .goto 7, 3) rfl) (by decide) ?_
      refine r_iconst (v := 0) hk1 (dtL_tenant_0 12 (17, .iconst 0, 1) rfl) (by decide) ?_
      exact hR _ _ (dtL_tenant_0 13 (18, .ireturn, 1) rfl)
    · rw [hv] at h; cases h
def F_L_answer (p1 : Int32) (p2 : Int32) (p3 : Int32) (m0 : Mem) : Option (Int32 × Mem) := hRes (F_X3_answer p1 p2 p3 m0) (hc1 0)
set_option maxHeartbeats 4000000 in
set_option maxRecDepth 100000 in
theorem c_L_answer (l : Launch) (hlf : l.stackTraces = false) (X : XW) (p1 : Int32) (p2 : Int32) (p3 : Int32) (m0 : Mem) (rv : Int32) (mE : Mem) (hF : F_L_answer p1 p2 p3 m0 = some (rv, mE)) : MH X l yL_answer cL_answer 6 [(0, 12, 15, 13)] 9 [.ref (xad X (0, 0, 0, 0)), .int p1, .int p2, .int p3, .ref (xad X (4, 0, 0, 0))] m0 rv mE := by
  refine startH hlf (by decide +kernel) rfl [(0, .ref (xad X (0, 0, 0, 0))), (1, .int p1), (2, .int p2), (3, .int p3), (4, .ref (xad X (4, 0, 0, 0)))] rfl (Nat.le_of_ble_eq_true rfl) (fun K hk h0 h1 hc1 hs6 hT hR => ?_)
  unfold F_L_answer at hF
  obtain ⟨R, m1, hC, hcase⟩ := hRes_some hF
  have hk1 : Ok X (setc K 1 6) RL cL_answer 6 9 := ok_setc hk hc1 hs6
  refine r_aload hk 4 (dtL_answer_0 0 (0, .aload 4, 2) rfl) rfl ?_
  refine r_iconst (v := 0) hk (dtL_answer_0 1 (2, .iconst 0, 1) rfl) (by decide) ?_
  refine r_aload_n hk 0 (dtL_answer_0 2 (3, .aload_n 0, 1) rfl) rfl ?_
  refine r_iload_n hk 1 (dtL_answer_0 3 (4, .iload_n 1, 1) rfl) rfl ?_
  refine r_iload_n hk 2 (dtL_answer_0 4 (5, .iload_n 2, 1) rfl) rfl ?_
  refine r_iload_n hk 3 (dtL_answer_0 5 (6, .iload_n 3, 1) rfl) rfl ?_
  refine r_callIh hk h0 h1 hc1 hs6 (fun hf H locs ls hH hS hl => runT_V (y := yX3_answer) hk (in_main 0 (by decide)) rfl rfl (c_X3_answer (kl K) hk.2.2.2.2.2.2.2.2.2.2.2 X p1 p2 p3 m0 R m1 hC) lk_L_68 me_X3_answer yf_X3_answer (by decide) (by decide) rfl (Nat.le_of_ble_eq_true rfl) rfl (dtL_answer_0 6 (7, .invokevirtual 68, 3) rfl) hf hH hS hl) (fun c hc => ?_) (fun v hv => ?_)
  · rcases hcase with ⟨v, h, -⟩ | ⟨c2, h, hcc, rfl⟩
    · rw [hc] at h; cases h
    · rw [hc] at h; cases h
      obtain ⟨rfl, rfl⟩ := hc1_some hcc
      refine ⟨[], ⟨0, 12, 15, 13⟩, [], "java/lang/IllegalArgumentException", hT, (fun z hz => nomatch hz), by decide, by decide, cl_L_13 _ _ hk.2.2.2.2.2.1.1, ca_0 _ _ hk.2.2.2.2.2.1.1, fun q => ?_⟩
      refine r_astore hk1 [(5, .ref q), (0, .ref (xad X (0, 0, 0, 0))), (1, .int p1), (2, .int p2), (3, .int p3), (4, .ref (xad X (4, 0, 0, 0)))] (dtL_answer_0 10 (15, .astore 5, 2) rfl) (by decide) rfl ?_
      refine r_iconst (v := 1) hk1 (dtL_answer_0 11 (17, .iconst 1, 1) rfl) (by decide) ?_
      exact hR _ _ (dtL_answer_0 12 (18, .ireturn, 1) rfl)
  · rcases hcase with ⟨v2, h, rfl, rfl⟩ | ⟨c2, h, -⟩
    · rw [hv] at h; cases h
      refine r_i2l0 hk1 (dtL_answer_0 7 (10, .i2l, 1) rfl) ?_
      refine r_last0 hk1 (dtL_answer_0 8 (11, .lastore, 1) rfl) ?_
      refine r_goto hk1 19 (dtL_answer_0 9 (12, .goto 7, 3) rfl) (by decide) ?_
      refine r_iconst (v := 0) hk1 (dtL_answer_0 13 (19, .iconst 0, 1) rfl) (by decide) ?_
      exact hR _ _ (dtL_answer_0 14 (20, .ireturn, 1) rfl)
    · rw [hv] at h; cases h
def F_L_count (p1 : Int32) (m0 : Mem) : Option (Int32 × Mem) := hRes (pairM (F_X3_count p1 m0) m0) (hc1 0)
set_option maxHeartbeats 4000000 in
set_option maxRecDepth 100000 in
theorem c_L_count (l : Launch) (hlf : l.stackTraces = false) (X : XW) (p1 : Int32) (m0 : Mem) (rv : Int32) (mE : Mem) (hF : F_L_count p1 m0 = some (rv, mE)) : MH X l yL_count cL_count 4 [(0, 9, 12, 13)] 9 [.ref (xad X (0, 0, 0, 0)), .int p1, .ref (xad X (4, 0, 0, 0))] m0 rv mE := by
  refine startH hlf (by decide +kernel) rfl [(0, .ref (xad X (0, 0, 0, 0))), (1, .int p1), (2, .ref (xad X (4, 0, 0, 0)))] rfl (Nat.le_of_ble_eq_true rfl) (fun K hk h0 h1 hc1 hs6 hT hR => ?_)
  unfold F_L_count at hF
  obtain ⟨R, m1, hC, hcase⟩ := hRes_some hF
  have hk1 : Ok X (setc K 1 6) RL cL_count 4 9 := ok_setc hk hc1 hs6
  obtain ⟨hD, rfl⟩ := pairM_some hC
  refine r_aload_n hk 2 (dtL_count_0 0 (0, .aload_n 2, 1) rfl) rfl ?_
  refine r_iconst (v := 0) hk (dtL_count_0 1 (1, .iconst 0, 1) rfl) (by decide) ?_
  refine r_aload_n hk 0 (dtL_count_0 2 (2, .aload_n 0, 1) rfl) rfl ?_
  refine r_iload_n hk 1 (dtL_count_0 3 (3, .iload_n 1, 1) rfl) rfl ?_
  refine r_callIh hk h0 h1 hc1 hs6 (fun hf H locs ls hH hS hl => runT_V (y := yX3_count) hk (in_main 0 (by decide)) rfl rfl (c_X3_count (kl K) hk.2.2.2.2.2.2.2.2.2.2.2 X p1 m0 R hD) lk_L_71 me_X3_count yf_X3_count (by decide) (by decide) rfl (Nat.le_of_ble_eq_true rfl) rfl (dtL_count_0 4 (4, .invokevirtual 71, 3) rfl) hf hH hS hl) (fun c hc => ?_) (fun v hv => ?_)
  · rcases hcase with ⟨v, h, -⟩ | ⟨c2, h, hcc, rfl⟩
    · rw [hc] at h; cases h
    · rw [hc] at h; cases h
      obtain ⟨rfl, rfl⟩ := hc1_some hcc
      refine ⟨[], ⟨0, 9, 12, 13⟩, [], "java/lang/IllegalArgumentException", hT, (fun z hz => nomatch hz), by decide, by decide, cl_L_13 _ _ hk.2.2.2.2.2.1.1, ca_0 _ _ hk.2.2.2.2.2.1.1, fun q => ?_⟩
      refine r_astore_n hk1 [(3, .ref q), (0, .ref (xad X (0, 0, 0, 0))), (1, .int p1), (2, .ref (xad X (4, 0, 0, 0)))] (dtL_count_0 8 (12, .astore_n 3, 1) rfl) (by decide) rfl ?_
      refine r_iconst (v := 1) hk1 (dtL_count_0 9 (13, .iconst 1, 1) rfl) (by decide) ?_
      exact hR _ _ (dtL_count_0 10 (14, .ireturn, 1) rfl)
  · rcases hcase with ⟨v2, h, rfl, rfl⟩ | ⟨c2, h, -⟩
    · rw [hv] at h; cases h
      refine r_i2l0 hk1 (dtL_count_0 5 (7, .i2l, 1) rfl) ?_
      refine r_last0 hk1 (dtL_count_0 6 (8, .lastore, 1) rfl) ?_
      refine r_goto hk1 15 (dtL_count_0 7 (9, .goto 6, 3) rfl) (by decide) ?_
      refine r_iconst (v := 0) hk1 (dtL_count_0 11 (15, .iconst 0, 1) rfl) (by decide) ?_
      exact hR _ _ (dtL_count_0 12 (16, .ireturn, 1) rfl)
    · rw [hv] at h; cases h
def F_L_looked (p1 : Int32) (p2 : Int32) (m0 : Mem) : Option (Int32 × Mem) := hRes (F_X3_looked p1 p2 m0) (hc1 0)
set_option maxHeartbeats 4000000 in
set_option maxRecDepth 100000 in
theorem c_L_looked (l : Launch) (hlf : l.stackTraces = false) (X : XW) (p1 : Int32) (p2 : Int32) (m0 : Mem) (rv : Int32) (mE : Mem) (hF : F_L_looked p1 p2 m0 = some (rv, mE)) : MH X l yL_looked cL_looked 5 [(0, 10, 13, 13)] 9 [.ref (xad X (0, 0, 0, 0)), .int p1, .int p2, .ref (xad X (4, 0, 0, 0))] m0 rv mE := by
  refine startH hlf (by decide +kernel) rfl [(0, .ref (xad X (0, 0, 0, 0))), (1, .int p1), (2, .int p2), (3, .ref (xad X (4, 0, 0, 0)))] rfl (Nat.le_of_ble_eq_true rfl) (fun K hk h0 h1 hc1 hs6 hT hR => ?_)
  unfold F_L_looked at hF
  obtain ⟨R, m1, hC, hcase⟩ := hRes_some hF
  have hk1 : Ok X (setc K 1 6) RL cL_looked 5 9 := ok_setc hk hc1 hs6
  refine r_aload_n hk 3 (dtL_looked_0 0 (0, .aload_n 3, 1) rfl) rfl ?_
  refine r_iconst (v := 0) hk (dtL_looked_0 1 (1, .iconst 0, 1) rfl) (by decide) ?_
  refine r_aload_n hk 0 (dtL_looked_0 2 (2, .aload_n 0, 1) rfl) rfl ?_
  refine r_iload_n hk 1 (dtL_looked_0 3 (3, .iload_n 1, 1) rfl) rfl ?_
  refine r_iload_n hk 2 (dtL_looked_0 4 (4, .iload_n 2, 1) rfl) rfl ?_
  refine r_callIh hk h0 h1 hc1 hs6 (fun hf H locs ls hH hS hl => runT_V (y := yX3_looked) hk (in_main 0 (by decide)) rfl rfl (c_X3_looked (kl K) hk.2.2.2.2.2.2.2.2.2.2.2 X p1 p2 m0 R m1 hC) lk_L_74 me_X3_looked yf_X3_looked (by decide) (by decide) rfl (Nat.le_of_ble_eq_true rfl) rfl (dtL_looked_0 5 (5, .invokevirtual 74, 3) rfl) hf hH hS hl) (fun c hc => ?_) (fun v hv => ?_)
  · rcases hcase with ⟨v, h, -⟩ | ⟨c2, h, hcc, rfl⟩
    · rw [hc] at h; cases h
    · rw [hc] at h; cases h
      obtain ⟨rfl, rfl⟩ := hc1_some hcc
      refine ⟨[], ⟨0, 10, 13, 13⟩, [], "java/lang/IllegalArgumentException", hT, (fun z hz => nomatch hz), by decide, by decide, cl_L_13 _ _ hk.2.2.2.2.2.1.1, ca_0 _ _ hk.2.2.2.2.2.1.1, fun q => ?_⟩
      refine r_astore hk1 [(4, .ref q), (0, .ref (xad X (0, 0, 0, 0))), (1, .int p1), (2, .int p2), (3, .ref (xad X (4, 0, 0, 0)))] (dtL_looked_0 9 (13, .astore 4, 2) rfl) (by decide) rfl ?_
      refine r_iconst (v := 1) hk1 (dtL_looked_0 10 (15, .iconst 1, 1) rfl) (by decide) ?_
      exact hR _ _ (dtL_looked_0 11 (16, .ireturn, 1) rfl)
  · rcases hcase with ⟨v2, h, rfl, rfl⟩ | ⟨c2, h, -⟩
    · rw [hv] at h; cases h
      refine r_i2l0 hk1 (dtL_looked_0 6 (8, .i2l, 1) rfl) ?_
      refine r_last0 hk1 (dtL_looked_0 7 (9, .lastore, 1) rfl) ?_
      refine r_goto hk1 17 (dtL_looked_0 8 (10, .goto 7, 3) rfl) (by decide) ?_
      refine r_iconst (v := 0) hk1 (dtL_looked_0 12 (17, .iconst 0, 1) rfl) (by decide) ?_
      exact hR _ _ (dtL_looked_0 13 (18, .ireturn, 1) rfl)
    · rw [hv] at h; cases h
def F_L_bestIndex (p1 : Int32) (m0 : Mem) : Option (Int32 × Mem) := hRes (F_X3_bestIndex p1 m0) (hc1 0)
set_option maxHeartbeats 4000000 in
set_option maxRecDepth 100000 in
theorem c_L_bestIndex (l : Launch) (hlf : l.stackTraces = false) (X : XW) (p1 : Int32) (m0 : Mem) (rv : Int32) (mE : Mem) (hF : F_L_bestIndex p1 m0 = some (rv, mE)) : MH X l yL_bestIndex cL_bestIndex 4 [(0, 9, 12, 13)] 9 [.ref (xad X (0, 0, 0, 0)), .int p1, .ref (xad X (4, 0, 0, 0))] m0 rv mE := by
  refine startH hlf (by decide +kernel) rfl [(0, .ref (xad X (0, 0, 0, 0))), (1, .int p1), (2, .ref (xad X (4, 0, 0, 0)))] rfl (Nat.le_of_ble_eq_true rfl) (fun K hk h0 h1 hc1 hs6 hT hR => ?_)
  unfold F_L_bestIndex at hF
  obtain ⟨R, m1, hC, hcase⟩ := hRes_some hF
  have hk1 : Ok X (setc K 1 6) RL cL_bestIndex 4 9 := ok_setc hk hc1 hs6
  refine r_aload_n hk 2 (dtL_bestIndex_0 0 (0, .aload_n 2, 1) rfl) rfl ?_
  refine r_iconst (v := 0) hk (dtL_bestIndex_0 1 (1, .iconst 0, 1) rfl) (by decide) ?_
  refine r_aload_n hk 0 (dtL_bestIndex_0 2 (2, .aload_n 0, 1) rfl) rfl ?_
  refine r_iload_n hk 1 (dtL_bestIndex_0 3 (3, .iload_n 1, 1) rfl) rfl ?_
  refine r_callIh hk h0 h1 hc1 hs6 (fun hf H locs ls hH hS hl => runT_V (y := yX3_bestIndex) hk (in_main 0 (by decide)) rfl rfl (c_X3_bestIndex (kl K) hk.2.2.2.2.2.2.2.2.2.2.2 X p1 m0 R m1 hC) lk_L_78 me_X3_bestIndex yf_X3_bestIndex (by decide) (by decide) rfl (Nat.le_of_ble_eq_true rfl) rfl (dtL_bestIndex_0 4 (4, .invokevirtual 78, 3) rfl) hf hH hS hl) (fun c hc => ?_) (fun v hv => ?_)
  · rcases hcase with ⟨v, h, -⟩ | ⟨c2, h, hcc, rfl⟩
    · rw [hc] at h; cases h
    · rw [hc] at h; cases h
      obtain ⟨rfl, rfl⟩ := hc1_some hcc
      refine ⟨[], ⟨0, 9, 12, 13⟩, [], "java/lang/IllegalArgumentException", hT, (fun z hz => nomatch hz), by decide, by decide, cl_L_13 _ _ hk.2.2.2.2.2.1.1, ca_0 _ _ hk.2.2.2.2.2.1.1, fun q => ?_⟩
      refine r_astore_n hk1 [(3, .ref q), (0, .ref (xad X (0, 0, 0, 0))), (1, .int p1), (2, .ref (xad X (4, 0, 0, 0)))] (dtL_bestIndex_0 8 (12, .astore_n 3, 1) rfl) (by decide) rfl ?_
      refine r_iconst (v := 1) hk1 (dtL_bestIndex_0 9 (13, .iconst 1, 1) rfl) (by decide) ?_
      exact hR _ _ (dtL_bestIndex_0 10 (14, .ireturn, 1) rfl)
  · rcases hcase with ⟨v2, h, rfl, rfl⟩ | ⟨c2, h, -⟩
    · rw [hv] at h; cases h
      refine r_i2l0 hk1 (dtL_bestIndex_0 5 (7, .i2l, 1) rfl) ?_
      refine r_last0 hk1 (dtL_bestIndex_0 6 (8, .lastore, 1) rfl) ?_
      refine r_goto hk1 15 (dtL_bestIndex_0 7 (9, .goto 6, 3) rfl) (by decide) ?_
      refine r_iconst (v := 0) hk1 (dtL_bestIndex_0 11 (15, .iconst 0, 1) rfl) (by decide) ?_
      exact hR _ _ (dtL_bestIndex_0 12 (16, .ireturn, 1) rfl)
    · rw [hv] at h; cases h
