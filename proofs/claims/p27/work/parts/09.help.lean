/-! the law's small methods: a call, its answer kept, its throw caught -/
def setc (K : MC) (c s : Nat) : MC := (kp K, kl K, ke K, kR K, ks K, km K, ka K, kb K, kmt K, kc K, kn K, c, s, kQ K)
section SETC
variable {X : XW} {K : MC} {own : String} {cc : ByteArray} {n d pc : Nat} {lv : List (Nat × Value)} {st rest stk : List Value} {mm m1 : Mem} {c s : Nat}
theorem ok_setc (hk : Ok X K own cc n d) (hc : c ≤ (kR K).cells) (hs : s ≤ (kR K).slots) : Ok X (setc K c s) own cc n d :=
  ⟨hk.1, hk.2.1, hk.2.2.1, hk.2.2.2.1, hk.2.2.2.2.1, hk.2.2.2.2.2.1, hk.2.2.2.2.2.2.1, hk.2.2.2.2.2.2.2.1, hk.2.2.2.2.2.2.2.2.1, hc, hs, hk.2.2.2.2.2.2.2.2.2.2.2⟩
theorem g_wid (h1 : kce K ≤ c) (h2 : ksl K ≤ s) (g : G X (setc K c s) pc lv st mm) : G X K pc lv st mm := fun H locs ls hH hS hl => W.widen h1 h2 (g H locs ls hH hS hl)
abbrev MH (X : XW) (l : Launch) (y : MethodName) (b : ByteArray) (n : Nat) (hh : List (Nat × Nat × Nat × Nat)) (d : Nat) (As : List Value) (m : Mem) (v : Int32) (m1 : Mem) : Prop := Met l y [.codeWith y b n (some .int) hh] (rmd d 1) (PcX X m As) (QI X v m1) 1 6 (xA X)
theorem mt_ofWH {l : Launch} {y : MethodName} {ws ws' : List Cond} {rm : Room} {Pc : Array Value → State → Prop} {Qc : Array Value → State → Outcome → State → Prop} {mc ms : Nat} {free : Addr → Prop} {cc : ByteArray} {maxL : Nat} {ret : Option FieldType} {hh : List (Nat × Nat × Nat × Nat)}
    (hy : plainName y.cls = true) (hw : ws = Cond.codeWith y cc maxL ret hh :: ws')
    (body : ∀ p e s m args below meth c s₁, BodyLoose p l y (headSpec ws rm) cc maxL ret e s m args below meth c s₁ → c.maxLocals = maxL → Pc args s →
      W p l e (headSpec ws rm).room s m args below meth c s.heap [] 0 0 (MQ below Qc args s mc ms free) (entryFrame m args maxL)) : Met l y ws rm Pc Qc mc ms free := by
  refine MetFree.of_bodyS (code := cc) (maxLocals := maxL) (ret := ret) hy ?_ ?_
  · intro args s m h hn
    obtain ⟨m9, meth, c, hn9, h1, h2, h3, h4, -, h5, h6, -⟩ := Cond.codeWith_spec (atoms_spec (ws := ws) h _ (by rw [hw]; exact List.mem_cons_self))
    cases hn.symm.trans hn9
    exact ⟨meth, c, h1, h2, h3, h4, h5, h6⟩
  · intro p e s m args below meth c s₁ B hml hP _
    have hh0 : s₁.heap = s.heap := by rw [B.state]; rfl
    obtain ⟨t, a1, o, b1, b2, b3⟩ := body p e s m args below meth c s₁ B hml hP s₁ hh0 (Stand.of_body B)
    exact ⟨t, o, a1, b1, b2, ⟨b3.1, b3.2⟩⟩
theorem startH {l : Launch} {y : MethodName} {b : ByteArray} {hh : List (Nat × Nat × Nat × Nat)} {As : List Value} {m0 : Mem} (hlf : l.stackTraces = false) (hy : plainName y.cls = true) (ho : y.cls = own) (lv0 : List (Nat × Value)) (hlv : lv_args 0 As = lv0) (hlen : (lg_sl As).length ≤ n) {v : Int32}
    (body : ∀ K : MC, Ok X K own b n d → kce K = 0 → ksl K = 0 → 1 ≤ (kR K).cells → 6 ≤ (kR K).slots → (kc K).exceptionTable.toList = tableOf hh → (∀ pc lv, decode b pc = .ok (.ireturn, 1) → G X (setc K 1 6) pc lv [.int v] m1) → G X K 0 lv0 [] m0) : MH X l y b n hh d As m0 v m1 := by
  subst ho
  refine mt_ofWH (cc := b) (maxL := n) (ret := some .int) hy rfl ?_
  intro p e s m args below meth c s₁ B hml hv
  obtain ⟨rfl, hO, hH⟩ := hv
  have hk : Ok X (p, l, e, (headSpec [Cond.codeWith y b n (some .int) hh] (rmd d 1)).room, s, m, As.toArray, below, meth, c, n, 0, 0, MQ below (QI X v m1) As.toArray s 1 6 (xA X)) y.cls b n d :=
    ⟨B.exec, B.bytes, hml, rfl, findClass_of_methodNamed B.named, hO, B.notSynchronized, Nat.le_refl _, Nat.le_refl _, Nat.zero_le _, Nat.zero_le _, hlf⟩
  have hT : c.exceptionTable.toList = tableOf hh := vx_table (x := y) B (atoms_spec (ws := [Cond.codeWith y b n (some .int) hh]) B.pre _ List.mem_cons_self)
  have h := body _ hk rfl rfl (Nat.le_refl _) (Nat.le_refl _) hT (fun pc lv hd H locs ls hH hS hl => W.iret B.exec B.bytes B.returns (fun t ht hW => ⟨⟨v, (), rfl, rfl, show Hp X m1 t.heap by rw [ht]; exact hH⟩, hS.F ht⟩) hS.2.2 hd B.notSynchronized)
  have h2 := h s.heap [] _ hH va_S.rf (hlv ▸ lv_entry As hlen)
  rw [lg_entry_eq]
  exact h2
theorem r_callIh (hk : Ok X K own cc n d) (h0 : kce K = 0) (h1 : ksl K = 0) (hc1 : 1 ≤ (kR K).cells) (hs6 : 6 ≤ (kR K).slots) {R : Int32 ⊕ Nat} {a : Array Value}
    (run : (kce K + mcR R ≤ (kR K).cells ∧ ksl K + 6 * mcR R ≤ (kR K).slots) → ∀ H locs ls, Hp X mm H → va_S (xA X) (ks K).heap H locs → lv_has ls (kn K) lv → vx_Run (kp K) (kl K) (ke K) (kR K) (ks K) (km K) (ka K) (kb K) (kmt K) (kc K) H locs (kce K) (ksl K) (mcR R) (6 * mcR R) (F0 (km K) pc ls stk) rest (QTI X R m1 a) (XCx X R m1) (xA X))
    (gx : ∀ c, R = .inr c → ∃ (pre : List ExceptionTableEntry) (x : ExceptionTableEntry) (suf : List ExceptionTableEntry) (nm : String), (kc K).exceptionTable.toList = pre ++ x :: suf ∧ (∀ z ∈ pre, covers z pc = false ∨ (z.catchType ≠ 0 ∧ ∃ nm2 : String, (Cond.classLink own z.catchType nm2).before (ka K) (ks K) = true ∧ va_Nc (en c) nm2 (ks K))) ∧ covers x pc = true ∧ x.catchType ≠ 0 ∧
      (Cond.classLink own x.catchType nm).before (ka K) (ks K) = true ∧ (Cond.castable (en c) nm).before (ka K) (ks K) = true ∧ ∀ q, G X (setc K 1 6) x.handlerPc lv [.ref q] m1)
    (g : ∀ v, R = .inl v → G X (setc K 1 6) (pc + 3) lv (.int v :: rest) m1) : G X K pc lv stk mm := by
  intro H locs ls hH hS hl
  cases R with
  | inl v =>
    refine vx_calli (run (by rw [h0, h1]; exact ⟨Nat.zero_le _, Nat.zero_le _⟩) H locs ls hH hS hl) hS (fun q _ h => h) (fun q h => h) (fun q _ h => h) (fun E ce0 q9 u t H1 locs1 ht hvm hw hB hz hk1 hS1 hc0 hcv hcl => ?_) (fun w u t H1 locs1 ht hvm hw hB hz hk1 hS1 => ?_)
    · obtain ⟨⟨c, h, -⟩, -⟩ := hB
      cases h
    · cases hw
      rw [ht] at hB
      exact W.widen (k := 1) (n := 6) (by rw [h0]; exact Nat.zero_le _) (by rw [h1]; exact Nat.zero_le _) (g v rfl H1 locs1 ls hB hS1 hl)
  | inr c =>
    obtain ⟨pre, x, suf, nm, e1, e2, e3, e4, e5, e6, e7⟩ := gx c rfl
    refine vx_calli (run (by rw [h0, h1]; exact ⟨hc1, hs6⟩) H locs ls hH hS hl) hS (fun q _ h => h) (fun q h => h) (fun q _ h => h) (fun E ce0 q9 u t H1 locs1 ht hvm hw hB hz hk1 hS1 hc0 hcv hcl => ?_) (fun w u t H1 locs1 ht hvm hw hB hz hk1 hS1 => ?_)
    · obtain ⟨⟨c', h, rfl⟩, hB⟩ := hB
      cases h
      rw [ht] at hB
      refine vx_widen (k := 1) (n := 6) (by rw [h0]; exact Nat.le_refl _) (by rw [h1]; exact Nat.le_refl _) ?_
      exact vx_catch hk.2.2.2.2.1 pre x suf e1 e2 e3 e4 e5 e6 hc0 hcv hcl (e7 q9 H1 locs1 ls hB hS1 hl)
    · cases hw
end SETC
section LAWROWS
variable {X : XW} {K : MC} {own : String} {cc : ByteArray} {n d pc : Nat} {lv : List (Nat × Value)} {rest stk : List Value} {mm : Mem} {α : Type} {r : α}
variable {y : MethodName} {b : ByteArray} {nL k ix d1 : Nat} {As : List Value} {hh : List (Nat × Nat × Nat × Nat)}
theorem run_SW (hk : Ok X K own cc n d) (hroom : kce K + 1 ≤ (kR K).cells ∧ ksl K + 6 ≤ (kR K).slots) {v : Int32} {m1 : Mem} (hM : MH X (kl K) y b nL hh d1 As mm v m1) (hL : Lk own ix y) (hm : ∀ (a : Array Value) (U : State), Wd U → (Cond.static y).before a U = true ∧ (Cond.initialized y.cls).before a U = true ∧ (Cond.codeWith y b nL (some .int) hh).before a U = true) (hy : YF y k) (hdd : d1 + 1 ≤ d) (hnL : nL ≤ 17) (hn : As.length = k) (hst : (rest.map fun v => v.category).sum ≤ 8) (hs : stk = As.reverse ++ rest) (hd : decode cc pc = .ok (.invokestatic ix, 3)) {H : Heap} {locs : List Loc} {ls : Array Slot} (hH : Hp X mm H) (hS : va_S (xA X) (ks K).heap H locs) (hl : lv_has ls (kn K) lv) : va_Run (kp K) (kl K) (ke K) (kR K) (ks K) (km K) (ka K) (kb K) (kmt K) (kc K) H locs (kce K) (ksl K) 1 6 (F0 (km K) pc ls stk) rest (QI X v m1 As.toArray) (xA X) := by
  obtain ⟨m2, m3, m4⟩ := hm (ka K) (ks K) hk.2.2.2.2.2.1.1
  have hR1 := hk.2.2.2.2.2.2.2.1
  have hR2 := hk.2.2.2.2.2.2.2.2.1
  have hcw : vx_CSW (kR K) (ks K) (ka K) own ix y b nL (some .int) hh [.codeWith y b nL (some .int) hh] (rmd d1 1) 1 6 k := by
    refine ⟨⟨rfl, rfl, by show d1 + 1 ≤ _; omega, by show 8 + (nL + 11) + 36 * d1 ≤ _; omega, ?_, List.mem_cons_self⟩, m4, m3, hy.1, fun sig h => ?_, hL _ _ hk.2.2.2.2.2.1.1, m2⟩
    · intro w hw a' U hW
      rw [List.mem_singleton] at hw
      subst hw
      exact word_at hW (Or.inl rfl) m4
    · have h2 := hy.2
      rw [h] at h2
      exact (Option.some.inj h2).symm
  exact vx_runSW (fix_mk hk) hM hcw (preS_mk hk hH hS) rfl hn (by show ls.size = n; rw [hl.1, hk.2.2.2.1]) hs (lv_room hst) hd hroom
theorem r_callH (hroom : kce K + 1 ≤ (kR K).cells ∧ ksl K + 6 ≤ (kR K).slots) {a : Array Value} {F : Option (Int32 × Mem)} {f : Int32 → Mem → Option α} (hF : bm F f = some r) (run : ∀ v m1, F = some (v, m1) → ∀ H locs ls, Hp X mm H → va_S (xA X) (ks K).heap H locs → lv_has ls (kn K) lv → va_Run (kp K) (kl K) (ke K) (kR K) (ks K) (km K) (ka K) (kb K) (kmt K) (kc K) H locs (kce K) (ksl K) 1 6 (F0 (km K) pc ls stk) rest (QI X v m1 a) (xA X)) (g : ∀ v m1, f v m1 = some r → G X (setc K (kce K + 1) (ksl K + 6)) (pc + 3) lv (.int v :: rest) m1) : G X K pc lv stk mm := by
  intro H locs ls hH hS hl
  cases hv : F with
  | none => rw [hv] at hF; cases hF
  | some vm =>
    obtain ⟨v, m1⟩ := vm
    rw [hv] at hF
    refine va_calli (run v m1 hv H locs ls hH hS hl) hS (fun q _ h => h) (fun q h => h) (fun w u t H1 locs1 ht hvm hw hB hz hk1 hS1 => ?_)
    subst hw
    rw [ht] at hB
    exact g _ _ hF H1 locs1 ls hB hS1 hl
end LAWROWS
/-! a method that may make one object (act) -/
abbrev MA (X : XW) (l : Launch) (y : MethodName) (b : ByteArray) (n d : Nat) (As : List Value) (m : Mem) (v : Int32) (m1 : Mem) : Prop := Met l y [.code y b n (some .int)] (rmd d 1) (PcX X m As) (QI X v m1) 1 6 (xA X)
section ACT
variable {X : XW} {K : MC} {own : String} {cc : ByteArray} {n d pc : Nat} {lv : List (Nat × Value)} {rest stk : List Value} {mm m0 m1 : Mem} {α : Type} {r : α}
variable {l : Launch} {y : MethodName} {b : ByteArray} {nL k ix d1 : Nat} {As : List Value}
theorem startA (hlf : l.stackTraces = false) (hy : plainName y.cls = true) (ho : y.cls = own) (lv0 : List (Nat × Value)) (hlv : lv_args 0 As = lv0) (hlen : (lg_sl As).length ≤ n) {v : Int32}
    (body : ∀ K : MC, Ok X K own b n d → (kce K + 1 ≤ (kR K).cells ∧ ksl K + 6 ≤ (kR K).slots) → (∀ pc lv, decode b pc = .ok (.ireturn, 1) → G X (setc K (kce K + 1) (ksl K + 6)) pc lv [.int v] m1) → G X K 0 lv0 [] m0) : MA X l y b n d As m0 v m1 := by
  subst ho
  refine Met.ofW (cc := b) (maxL := n) (ret := (some .int)) hy rfl ?_
  intro p e s m args below meth c s₁ B hml hv
  obtain ⟨rfl, hO, hH⟩ := hv
  have hk : Ok X (p, l, e, (headSpec [Cond.code y b n (some .int)] (rmd d 1)).room, s, m, As.toArray, below, meth, c, n, 0, 0, MQ below (QI X v m1) As.toArray s 1 6 (xA X)) y.cls b n d :=
    ⟨B.exec, B.bytes, hml, rfl, findClass_of_methodNamed B.named, hO, B.notSynchronized, Nat.le_refl _, Nat.le_refl _, Nat.zero_le _, Nat.zero_le _, hlf⟩
  have h := body _ hk ⟨Nat.le_refl _, Nat.le_refl _⟩ (fun pc lv hd H locs ls hH hS hl => W.iret B.exec B.bytes B.returns (fun t ht hW => ⟨⟨v, (), rfl, rfl, show Hp X m1 t.heap by rw [ht]; exact hH⟩, hS.F ht⟩) hS.2.2 hd B.notSynchronized)
  have h2 := h s.heap [] _ hH va_S.rf (hlv ▸ lv_entry As hlen)
  rw [lg_entry_eq]
  exact h2
theorem run_SA (hk : Ok X K own cc n d) (hroom : kce K + 1 ≤ (kR K).cells ∧ ksl K + 6 ≤ (kR K).slots) {v : Int32} {m1 : Mem} (hM : MA X (kl K) y b nL d1 As mm v m1) (hL : Lk own ix y) (hm : MeS y b nL (some .int)) (hy : YF y k) (hdd : d1 + 1 ≤ d) (hnL : nL ≤ 17) (hn : As.length = k) (hst : (rest.map fun v => v.category).sum ≤ 8) (hs : stk = As.reverse ++ rest) (hd : decode cc pc = .ok (.invokestatic ix, 3)) {H : Heap} {locs : List Loc} {ls : Array Slot} (hH : Hp X mm H) (hS : va_S (xA X) (ks K).heap H locs) (hl : lv_has ls (kn K) lv) : va_Run (kp K) (kl K) (ke K) (kR K) (ks K) (km K) (ka K) (kb K) (kmt K) (kc K) H locs (kce K) (ksl K) 1 6 (F0 (km K) pc ls stk) rest (QI X v m1 As.toArray) (xA X) := by
  obtain ⟨m2, m3, m4⟩ := hm (ka K) (ks K) hk.2.2.2.2.2.1.1
  exact va_runS (fix_mk hk) hM ⟨callB_mk hk 1 m4 m3 (hL _ _ hk.2.2.2.2.2.1.1) hy hdd hnL, m2⟩ (preS_mk hk hH hS) rfl hn (by show ls.size = n; rw [hl.1, hk.2.2.2.1]) hs (lv_room hst) hd hroom
end ACT
theorem cn_L_7 : ∀ (a : Array Value) (U : State), Wd U → (Cond.constant RL 7 2147483647).before a U = true := fun a U h => h.use a 300 (by decide +kernel) (by decide +kernel)
theorem cn_L_8 : ∀ (a : Array Value) (U : State), Wd U → (Cond.constant RL 8 40503).before a U = true := fun a U h => h.use a 304 (by decide +kernel) (by decide +kernel)
theorem yf_X3_count : YF yX3_count 1 := ⟨⟨by decide +kernel, by decide +kernel⟩, by decide +kernel⟩
theorem me_X3_count : MeV yX3_count cX3_count 2 (some .int) := fun a U h => ⟨h.use a 261 (by decide +kernel) (by decide +kernel), h.use a 262 (by decide +kernel) (by decide +kernel), h.use a 22 (by decide +kernel) (by decide +kernel), h.use a 263 (by decide +kernel) (by decide +kernel)⟩
theorem lk_L_17 : Lk RL 17 yX3_count := fun a U h => h.use a 260 (by decide +kernel) (by decide +kernel)
theorem yf_X3_fullness : YF yX3_fullness 0 := ⟨⟨by decide +kernel, by decide +kernel⟩, by decide +kernel⟩
theorem me_X3_fullness : MeV yX3_fullness cX3_fullness 2 (some .double) := fun a U h => ⟨h.use a 362 (by decide +kernel) (by decide +kernel), h.use a 363 (by decide +kernel) (by decide +kernel), h.use a 22 (by decide +kernel) (by decide +kernel), h.use a 364 (by decide +kernel) (by decide +kernel)⟩
theorem lk_L_32 : Lk RL 32 yX3_fullness := fun a U h => h.use a 361 (by decide +kernel) (by decide +kernel)
theorem yf_X3_tenant : YF yX3_tenant 2 := ⟨⟨by decide +kernel, by decide +kernel⟩, by decide +kernel⟩
theorem me_X3_tenant : MeV yX3_tenant cX3_tenant 4 (some .int) := fun a U h => ⟨h.use a 170 (by decide +kernel) (by decide +kernel), h.use a 171 (by decide +kernel) (by decide +kernel), h.use a 22 (by decide +kernel) (by decide +kernel), h.use a 172 (by decide +kernel) (by decide +kernel)⟩
theorem lk_L_25 : Lk RL 25 yX3_tenant := fun a U h => h.use a 169 (by decide +kernel) (by decide +kernel)
theorem yf_X3_column : YF yX3_column 3 := ⟨⟨by decide +kernel, by decide +kernel⟩, by decide +kernel⟩
theorem me_X3_column : MeV yX3_column cX3_column 5 (some .int) := fun a U h => ⟨h.use a 336 (by decide +kernel) (by decide +kernel), h.use a 337 (by decide +kernel) (by decide +kernel), h.use a 22 (by decide +kernel) (by decide +kernel), h.use a 338 (by decide +kernel) (by decide +kernel)⟩
theorem lk_L_28 : Lk RL 28 yX3_column := fun a U h => h.use a 335 (by decide +kernel) (by decide +kernel)
theorem yf_X3_rowOf : YF yX3_rowOf 2 := ⟨⟨by decide +kernel, by decide +kernel⟩, by decide +kernel⟩
theorem me_X3_rowOf : MeV yX3_rowOf cX3_rowOf 4 (some .int) := fun a U h => ⟨h.use a 309 (by decide +kernel) (by decide +kernel), h.use a 310 (by decide +kernel) (by decide +kernel), h.use a 22 (by decide +kernel) (by decide +kernel), h.use a 311 (by decide +kernel) (by decide +kernel)⟩
theorem lk_L_21 : Lk RL 21 yX3_rowOf := fun a U h => h.use a 308 (by decide +kernel) (by decide +kernel)
theorem yf_X3_append : YF yX3_append 1 := ⟨⟨by decide +kernel, by decide +kernel⟩, by decide +kernel⟩
theorem me_X3_append : MeV yX3_append cX3_append 2 (some .int) := fun a U h => ⟨h.use a 369 (by decide +kernel) (by decide +kernel), h.use a 370 (by decide +kernel) (by decide +kernel), h.use a 22 (by decide +kernel) (by decide +kernel), h.use a 371 (by decide +kernel) (by decide +kernel)⟩
theorem lk_L_36 : Lk RL 36 yX3_append := fun a U h => h.use a 368 (by decide +kernel) (by decide +kernel)
theorem yf_L_low : YF yL_low 2 := ⟨⟨by decide +kernel, by decide +kernel⟩, by decide +kernel⟩
theorem me_L_low : MeS yL_low cL_low 2 (some .int) := fun a U h => ⟨h.use a 298 (by decide +kernel) (by decide +kernel), h.use a 21 (by decide +kernel) (by decide +kernel), h.use a 299 (by decide +kernel) (by decide +kernel)⟩
theorem lk_L_39 : Lk RL 39 yL_low := fun a U h => h.use a 297 (by decide +kernel) (by decide +kernel)
theorem yf_X3_looked : YF yX3_looked 2 := ⟨⟨by decide +kernel, by decide +kernel⟩, by decide +kernel⟩
theorem me_X3_looked : MeV yX3_looked cX3_looked 3 (some .int) := fun a U h => ⟨h.use a 467 (by decide +kernel) (by decide +kernel), h.use a 468 (by decide +kernel) (by decide +kernel), h.use a 22 (by decide +kernel) (by decide +kernel), h.use a 469 (by decide +kernel) (by decide +kernel)⟩
theorem lk_L_47 : Lk RL 47 yX3_looked := fun a U h => h.use a 466 (by decide +kernel) (by decide +kernel)
theorem yf_X3_clearBuffer : YF yX3_clearBuffer 0 := ⟨⟨by decide +kernel, by decide +kernel⟩, by decide +kernel⟩
theorem me_X3_clearBuffer : MeV yX3_clearBuffer cX3_clearBuffer 2 (some .int) := fun a U h => ⟨h.use a 510 (by decide +kernel) (by decide +kernel), h.use a 511 (by decide +kernel) (by decide +kernel), h.use a 22 (by decide +kernel) (by decide +kernel), h.use a 512 (by decide +kernel) (by decide +kernel)⟩
theorem lk_L_57 : Lk RL 57 yX3_clearBuffer := fun a U h => h.use a 509 (by decide +kernel) (by decide +kernel)
theorem yf_X3_ask : YF yX3_ask 1 := ⟨⟨by decide +kernel, by decide +kernel⟩, by decide +kernel⟩
theorem me_X3_ask : MeV yX3_ask cX3_ask 4 (some .int) := fun a U h => ⟨h.use a 479 (by decide +kernel) (by decide +kernel), h.use a 480 (by decide +kernel) (by decide +kernel), h.use a 22 (by decide +kernel) (by decide +kernel), h.use a 481 (by decide +kernel) (by decide +kernel)⟩
theorem lk_L_51 : Lk RL 51 yX3_ask := fun a U h => h.use a 478 (by decide +kernel) (by decide +kernel)
theorem yf_X3_bestIndex : YF yX3_bestIndex 1 := ⟨⟨by decide +kernel, by decide +kernel⟩, by decide +kernel⟩
theorem me_X3_bestIndex : MeV yX3_bestIndex cX3_bestIndex 2 (some .int) := fun a U h => ⟨h.use a 502 (by decide +kernel) (by decide +kernel), h.use a 503 (by decide +kernel) (by decide +kernel), h.use a 22 (by decide +kernel) (by decide +kernel), h.use a 504 (by decide +kernel) (by decide +kernel)⟩
theorem lk_L_54 : Lk RL 54 yX3_bestIndex := fun a U h => h.use a 501 (by decide +kernel) (by decide +kernel)
theorem yf_X3_answer : YF yX3_answer 3 := ⟨⟨by decide +kernel, by decide +kernel⟩, by decide +kernel⟩
theorem me_X3_answer : MeV yX3_answer cX3_answer 5 (some .int) := fun a U h => ⟨h.use a 389 (by decide +kernel) (by decide +kernel), h.use a 390 (by decide +kernel) (by decide +kernel), h.use a 22 (by decide +kernel) (by decide +kernel), h.use a 391 (by decide +kernel) (by decide +kernel)⟩
theorem lk_L_44 : Lk RL 44 yX3_answer := fun a U h => h.use a 388 (by decide +kernel) (by decide +kernel)
theorem cl_L_15 : ∀ (a : Array Value) (U : State), Wd U → (Cond.classLink RL 15 "java/lang/IllegalStateException").before a U = true := fun a U h => h.use a 597 (by decide +kernel) (by decide +kernel)
theorem ca_1 : ∀ (a : Array Value) (U : State), Wd U → (Cond.castable (en 1) "java/lang/IllegalStateException").before a U = true := fun a U h => h.use a 374 (by decide +kernel) (by decide +kernel)
theorem yf_X3_undo : YF yX3_undo 0 := ⟨⟨by decide +kernel, by decide +kernel⟩, by decide +kernel⟩
theorem me_X3_undo : MeV yX3_undo cX3_undo 2 (some .int) := fun a U h => ⟨h.use a 599 (by decide +kernel) (by decide +kernel), h.use a 600 (by decide +kernel) (by decide +kernel), h.use a 22 (by decide +kernel) (by decide +kernel), h.use a 601 (by decide +kernel) (by decide +kernel)⟩
theorem lk_L_9 : Lk RL 9 yX3_undo := fun a U h => h.use a 598 (by decide +kernel) (by decide +kernel)
theorem yf_L_cell : YF yL_cell 2 := ⟨⟨by decide +kernel, by decide +kernel⟩, by decide +kernel⟩
theorem me_L_cell : MeS yL_cell cL_cell 2 (some .int) := fun a U h => ⟨h.use a 302 (by decide +kernel) (by decide +kernel), h.use a 21 (by decide +kernel) (by decide +kernel), h.use a 303 (by decide +kernel) (by decide +kernel)⟩
theorem lk_L_60 : Lk RL 60 yL_cell := fun a U h => h.use a 301 (by decide +kernel) (by decide +kernel)
theorem yf_X3_move : YF yX3_move 1 := ⟨⟨by decide +kernel, by decide +kernel⟩, by decide +kernel⟩
theorem me_X3_move : MeV yX3_move cX3_move 4 (some .int) := fun a U h => ⟨h.use a 583 (by decide +kernel) (by decide +kernel), h.use a 584 (by decide +kernel) (by decide +kernel), h.use a 22 (by decide +kernel) (by decide +kernel), h.use a 585 (by decide +kernel) (by decide +kernel)⟩
theorem lk_L_85 : Lk RL 85 yX3_move := fun a U h => h.use a 582 (by decide +kernel) (by decide +kernel)
theorem yf_X3_put : YF yX3_put 3 := ⟨⟨by decide +kernel, by decide +kernel⟩, by decide +kernel⟩
theorem me_X3_put : MeV yX3_put cX3_put 7 (some .int) := fun a U h => ⟨h.use a 562 (by decide +kernel) (by decide +kernel), h.use a 563 (by decide +kernel) (by decide +kernel), h.use a 22 (by decide +kernel) (by decide +kernel), h.use a 564 (by decide +kernel) (by decide +kernel)⟩
theorem lk_L_79 : Lk RL 79 yX3_put := fun a U h => h.use a 561 (by decide +kernel) (by decide +kernel)
theorem yf_X3_row : YF yX3_row 1 := ⟨⟨by decide +kernel, by decide +kernel⟩, by decide +kernel⟩
theorem me_X3_row : MeV yX3_row cX3_row 3 (some .int) := fun a U h => ⟨h.use a 550 (by decide +kernel) (by decide +kernel), h.use a 551 (by decide +kernel) (by decide +kernel), h.use a 22 (by decide +kernel) (by decide +kernel), h.use a 552 (by decide +kernel) (by decide +kernel)⟩
theorem lk_L_76 : Lk RL 76 yX3_row := fun a U h => h.use a 549 (by decide +kernel) (by decide +kernel)
theorem yf_X3_mean : YF yX3_mean 3 := ⟨⟨by decide +kernel, by decide +kernel⟩, by decide +kernel⟩
theorem me_X3_mean : MeV yX3_mean cX3_mean 6 (some .int) := fun a U h => ⟨h.use a 517 (by decide +kernel) (by decide +kernel), h.use a 518 (by decide +kernel) (by decide +kernel), h.use a 22 (by decide +kernel) (by decide +kernel), h.use a 519 (by decide +kernel) (by decide +kernel)⟩
theorem lk_L_64 : Lk RL 64 yX3_mean := fun a U h => h.use a 516 (by decide +kernel) (by decide +kernel)
theorem yf_X3_forget : YF yX3_forget 2 := ⟨⟨by decide +kernel, by decide +kernel⟩, by decide +kernel⟩
theorem me_X3_forget : MeV yX3_forget cX3_forget 6 (some .int) := fun a U h => ⟨h.use a 526 (by decide +kernel) (by decide +kernel), h.use a 527 (by decide +kernel) (by decide +kernel), h.use a 22 (by decide +kernel) (by decide +kernel), h.use a 528 (by decide +kernel) (by decide +kernel)⟩
theorem lk_L_67 : Lk RL 67 yX3_forget := fun a U h => h.use a 525 (by decide +kernel) (by decide +kernel)
theorem yf_X3_pack : YF yX3_pack 1 := ⟨⟨by decide +kernel, by decide +kernel⟩, by decide +kernel⟩
theorem me_X3_pack : MeV yX3_pack cX3_pack 6 (some .int) := fun a U h => ⟨h.use a 542 (by decide +kernel) (by decide +kernel), h.use a 543 (by decide +kernel) (by decide +kernel), h.use a 22 (by decide +kernel) (by decide +kernel), h.use a 544 (by decide +kernel) (by decide +kernel)⟩
theorem lk_L_70 : Lk RL 70 yX3_pack := fun a U h => h.use a 541 (by decide +kernel) (by decide +kernel)
theorem yf_X3_index : YF yX3_index 2 := ⟨⟨by decide +kernel, by decide +kernel⟩, by decide +kernel⟩
theorem me_X3_index : MeV yX3_index cX3_index 5 (some .int) := fun a U h => ⟨h.use a 546 (by decide +kernel) (by decide +kernel), h.use a 547 (by decide +kernel) (by decide +kernel), h.use a 22 (by decide +kernel) (by decide +kernel), h.use a 548 (by decide +kernel) (by decide +kernel)⟩
theorem lk_L_73 : Lk RL 73 yX3_index := fun a U h => h.use a 545 (by decide +kernel) (by decide +kernel)
theorem yf_X3_remove : YF yX3_remove 1 := ⟨⟨by decide +kernel, by decide +kernel⟩, by decide +kernel⟩
theorem me_X3_remove : MeV yX3_remove cX3_remove 3 (some .int) := fun a U h => ⟨h.use a 571 (by decide +kernel) (by decide +kernel), h.use a 572 (by decide +kernel) (by decide +kernel), h.use a 22 (by decide +kernel) (by decide +kernel), h.use a 573 (by decide +kernel) (by decide +kernel)⟩
theorem lk_L_82 : Lk RL 82 yX3_remove := fun a U h => h.use a 570 (by decide +kernel) (by decide +kernel)
theorem yf_X3_limit : YF yX3_limit 3 := ⟨⟨by decide +kernel, by decide +kernel⟩, by decide +kernel⟩
theorem me_X3_limit : MeV yX3_limit cX3_limit 6 (some .int) := fun a U h => ⟨h.use a 591 (by decide +kernel) (by decide +kernel), h.use a 592 (by decide +kernel) (by decide +kernel), h.use a 22 (by decide +kernel) (by decide +kernel), h.use a 593 (by decide +kernel) (by decide +kernel)⟩
theorem lk_L_88 : Lk RL 88 yX3_limit := fun a U h => h.use a 590 (by decide +kernel) (by decide +kernel)
theorem lk_L_92 : Lk RL 92 yL_undo := fun a U h => h.use a 594 (by decide +kernel) (by decide +kernel)
theorem mh_L_undo : ∀ (a : Array Value) (U : State), Wd U → (Cond.static yL_undo).before a U = true ∧ (Cond.initialized yL_undo.cls).before a U = true ∧ (Cond.codeWith yL_undo cL_undo 2 (some .int) [(0, 4, 5, 15)]).before a U = true := fun a U h => ⟨h.use a 595 (by decide +kernel) (by decide +kernel), h.use a 21 (by decide +kernel) (by decide +kernel), h.use a 596 (by decide +kernel) (by decide +kernel)⟩
theorem yf_L_undo : YF yL_undo 1 := ⟨⟨by decide +kernel, by decide +kernel⟩, by decide +kernel⟩
def F_L_low (p1 : Int32) (p2 : Int32) (m0 : Mem) : Option Int32 :=
  bd (p1 &&& 2147483647) fun v1 => ck (!decide (p2 = 0)) (bd (v1 - v1 / p2 * p2) fun v2 => some v2)
set_option maxHeartbeats 4000000 in
set_option maxRecDepth 100000 in
theorem c_L_low (l : Launch) (hlf : l.stackTraces = false) (X : XW)  (p1 : Int32) (p2 : Int32) (m0 : Mem) (rv : Int32) (hF : F_L_low p1 p2 m0 = some rv) : MX X l yL_low cL_low 2 (some .int) 0 [.int p1, .int p2] m0 (QI X rv m0) := by
  refine startI hlf (by decide +kernel) rfl [(0, .int p1), (1, .int p2)] rfl (Nat.le_of_ble_eq_true rfl) (fun K hk hR => ?_)
  unfold F_L_low at hF
  refine r_iload_n hk 0 (dtL_low_0 0 (0, .iload_n 0, 1) rfl) rfl ?_
  refine r_ldc hk cn_L_7 (dtL_low_0 1 (1, .ldc 7, 2) rfl) ?_
  refine r_iand hk hF (dtL_low_0 2 (3, .iand, 1) rfl) (fun v1 hF => ?_)
  refine r_iload_n hk 1 (dtL_low_0 3 (4, .iload_n 1, 1) rfl) rfl ?_
  refine r_iremv hk hF (dtL_low_0 4 (5, .irem, 1) rfl) (fun v2 hF => ?_)
  cases Option.some.inj hF
  exact hR _ _ (dtL_low_0 5 (6, .ireturn, 1) rfl)
def J_L_cell_20  (v1 : Int32) : Option Int32 :=
  some v1
def F_L_cell (sL : Nat) (sx : Nat → Int32) (p2 : Int32) (m0 : Mem) : Option Int32 :=
  (if (Int32.ofNat sL) ≤ p2 then bd (40503 * p2) fun v3 => bd (v3 + 977) fun v4 => J_L_cell_20 v4 else ck (ib p2 sL) (bd (sx (Int32.toNatClampNeg p2)) fun v5 => J_L_cell_20 v5))
set_option maxHeartbeats 4000000 in
set_option maxRecDepth 100000 in
theorem c_L_cell (l : Launch) (hlf : l.stackTraces = false) (X : XW)  (p2 : Int32) (m0 : Mem) (rv : Int32) (hF : F_L_cell (xL X) (xs X) p2 m0 = some rv) : MX X l yL_cell cL_cell 2 (some .int) 0 [.ref (xb X), .int p2] m0 (QI X rv m0) := by
  refine startI hlf (by decide +kernel) rfl [(0, .ref (xb X)), (1, .int p2)] rfl (Nat.le_of_ble_eq_true rfl) (fun K hk hR => ?_)
  unfold F_L_cell at hF
  refine r_iload_n hk 1 (dtL_cell_0 0 (0, .iload_n 1, 1) rfl) rfl ?_
  refine r_aload_n hk 0 (dtL_cell_0 1 (1, .aload_n 0, 1) rfl) rfl ?_
  refine r_slen hk (dtL_cell_0 2 (2, .arraylength, 1) rfl) ?_
  have j20_2 : ∀ (v1 : Int32), J_L_cell_20 v1 = some rv → G X K 20 [] [.int v1] m0 := by
    intro v1 hF
    unfold J_L_cell_20 at hF
    cases Option.some.inj hF
    exact hR _ _ (dtL_cell_0 13 (20, .ireturn, 1) rfl)
  refine r_icmp_ge hk 12 hF (dtL_cell_0 3 (3, .if_icmp .ge 9, 3) rfl) (by decide) (fun hF => ?_) (fun hF => ?_)
  · refine r_ldc hk cn_L_8 (dtL_cell_0 8 (12, .ldc 8, 2) rfl) ?_
    refine r_iload_n hk 1 (dtL_cell_0 9 (14, .iload_n 1, 1) rfl) rfl ?_
    refine r_imul hk hF (dtL_cell_0 10 (15, .imul, 1) rfl) (fun v3 hF => ?_)
    refine r_sipush (v := 977) hk (dtL_cell_0 11 (16, .sipush 977, 3) rfl) (by decide) ?_
    refine r_iadd hk hF (dtL_cell_0 12 (19, .iadd, 1) rfl) (fun v4 hF => ?_)
    exact r_sub hk [] rfl (j20_2 v4 hF)
  · refine r_aload_n hk 0 (dtL_cell_0 4 (6, .aload_n 0, 1) rfl) rfl ?_
    refine r_iload_n hk 1 (dtL_cell_0 5 (7, .iload_n 1, 1) rfl) rfl ?_
    refine r_sld hk hF (dtL_cell_0 6 (8, .iaload, 1) rfl) (fun v5 hF => ?_)
    refine r_goto hk 20 (dtL_cell_0 7 (9, .goto 11, 3) rfl) (by decide) ?_
    exact r_sub hk [] rfl (j20_2 v5 hF)
def J_L_table_581  (v11 : Int32) : Option Int32 :=
  ck (isB v11) (some v11)
def J_L_table_580   : Option Int32 :=
  J_L_table_581 0
def C_L_table_525 (m0 : Mem) (v6 : Int32) (v7 : Int32) (v8 : Int32) (v9 : Int32) : Option Int32 :=
  (if v9 = 0 then J_L_table_580 else bts (F_X3_count 1 m0) (fun _ => none) fun v14 => (if v6 = v14 then bts (F_X3_count 0 m0) (fun _ => none) fun v15 => (if v7 = v15 then bts (F_X3_count 6 m0) (fun _ => none) fun v16 => (if v8 = v16 then bo (F_X3_fullness m0) fun v17 => bd (Op.cmpValue (FP.dcmp v17 0) .l) fun v18 => (if v18 < 0 then J_L_table_580 else bo (F_X3_fullness m0) fun v19 => bd (Op.cmpValue (FP.dcmp v19 0x3ff0000000000000) .g) fun v20 => (if 0 < v20 then J_L_table_580 else J_L_table_581 1)) else J_L_table_580) else J_L_table_580) else J_L_table_580))
def J_L_table_517 (v25 : Int32) (kb303_26 : Int32 → Int32 → Int32 → Int32 → Int32 → Option Int32) (v32 : Int32) (v36 : Int32) (v38 : Int32) (v39 : Int32) : Option Int32 :=
  bd (v25 + 1) fun v41 => kb303_26 v32 v36 v38 v39 v41
def J_L_table_516 (v25 : Int32) (kb303_26 : Int32 → Int32 → Int32 → Int32 → Int32 → Option Int32) (v32 : Int32) (v36 : Int32) (v38 : Int32)  : Option Int32 :=
  (J_L_table_517 v25 kb303_26 v32 v36 v38) 0
def J_L_table_483 (m0 : Mem) (v22 : Int32) (v23 : Int32) (v25 : Int32) (kb303_26 : Int32 → Int32 → Int32 → Int32 → Int32 → Option Int32) (v28 : Int32) (v29 : Int32) (v32 : Int32) (v34 : Int32) : Option Int32 :=
  bd (v22 + v34) fun v36 => bts (F_X3_tenant v25 4 m0) (fun _ => none) fun v37 => bd (v23 + v37) fun v38 => (if v28 = 0 then (J_L_table_516 v25 kb303_26 v32 v36 v38) else bts (F_X3_tenant v25 1 m0) (fun _ => none) fun v43 => (if v43 = v29 then (J_L_table_517 v25 kb303_26 v32 v36 v38) 1 else (J_L_table_516 v25 kb303_26 v32 v36 v38)))
def C_L_table_450 (m0 : Mem) (v21 : Int32) (v22 : Int32) (v23 : Int32) (v25 : Int32) (kb303_26 : Int32 → Int32 → Int32 → Int32 → Int32 → Option Int32) (v28 : Int32) (v29 : Int32) : Option Int32 :=
  bts (F_X3_tenant v25 0 m0) (fun _ => none) fun v31 => bd (v21 + v31) fun v32 => bts (F_X3_tenant v25 4 m0) (fun _ => none) fun v33 => (if v33 = 1 then (J_L_table_483 m0 v22 v23 v25 kb303_26 v28 v29 v32) 0 else bts (F_X3_tenant v25 0 m0) (fun _ => none) fun v44 => (J_L_table_483 m0 v22 v23 v25 kb303_26 v28 v29 v32) v44)
def J_L_table_441 (v47 : Int32) (v48 : Int32) (kb323_49 : Int32 → Int32 → Int32 → Int32 → Option Int32) (v52 : Int32) (v56 : Int32) (v57 : Int32) : Option Int32 :=
  bd (v47 + v57) fun v59 => bd (v48 + 1) fun v60 => kb323_49 v52 v56 v59 v60
def J_L_table_425 (v46 : Int32) (v47 : Int32) (v48 : Int32) (kb323_49 : Int32 → Int32 → Int32 → Int32 → Option Int32) (v51 : Int32) (v52 : Int32) (v54 : Int32) : Option Int32 :=
  bd (v46 ||| v54) fun v56 => (if v51 = (-1) then (J_L_table_441 v47 v48 kb323_49 v52 v56) 0 else (J_L_table_441 v47 v48 kb323_49 v52 v56) 1)
def J_L_table_407 (v46 : Int32) (v47 : Int32) (v48 : Int32) (kb323_49 : Int32 → Int32 → Int32 → Int32 → Option Int32) (v51 : Int32) (v52 : Int32) : Option Int32 :=
  (if v51 = (-1) then (J_L_table_425 v46 v47 v48 kb323_49 v51 v52) 0 else bd (1 <<< (v51 &&& 31)) fun v61 => (J_L_table_425 v46 v47 v48 kb323_49 v51 v52) v61)
def J_L_table_402 (v46 : Int32) (v47 : Int32) (v48 : Int32) (kb323_49 : Int32 → Int32 → Int32 → Int32 → Option Int32) (v51 : Int32)  : Option Int32 :=
  (J_L_table_407 v46 v47 v48 kb323_49 v51) 1
def J_L_table_406 (v46 : Int32) (v47 : Int32) (v48 : Int32) (kb323_49 : Int32 → Int32 → Int32 → Int32 → Option Int32) (v51 : Int32)  : Option Int32 :=
  (J_L_table_407 v46 v47 v48 kb323_49 v51) 0
def L_L_table_323 (m0 : Mem) (v21 : Int32) (v22 : Int32) (v23 : Int32) (v25 : Int32) (kb303_26 : Int32 → Int32 → Int32 → Int32 → Int32 → Option Int32) : Nat → Int32 → Int32 → Int32 → Int32 → Option Int32
  | 0, _, _, _, _ => none
  | n50 + 1, v45, v46, v47, v48 => (if 8 ≤ v48 then (C_L_table_450 m0 v21 v22 v23 v25 kb303_26) v45 v47 else (if v45 = 0 then (C_L_table_450 m0 v21 v22 v23 v25 kb303_26) v45 v47 else bts (F_X3_column v25 v48 0 m0) (fun _ => none) fun v51 => (if v51 = (-1) then (J_L_table_402 v46 v47 v48 (fun w0 w1 w2 w3 => L_L_table_323 m0 v21 v22 v23 v25 kb303_26 n50 w0 w1 w2 w3) v51) else bd (v46 >>> (v51 &&& 31)) fun v63 => bd (v63 &&& 1) fun v64 => (if v64 = 0 then bts (F_X3_column v25 v48 3 m0) (fun _ => none) fun v66 => bts (F_X3_tenant v25 0 m0) (fun _ => none) fun v67 => (if v67 < v66 then (J_L_table_406 v46 v47 v48 (fun w0 w1 w2 w3 => L_L_table_323 m0 v21 v22 v23 v25 kb303_26 n50 w0 w1 w2 w3) v51) else bts (F_X3_column v25 v48 5 m0) (fun _ => none) fun v68 => bts (F_X3_column v25 v48 3 m0) (fun _ => none) fun v69 => (if v69 < v68 then (J_L_table_406 v46 v47 v48 (fun w0 w1 w2 w3 => L_L_table_323 m0 v21 v22 v23 v25 kb303_26 n50 w0 w1 w2 w3) v51) else (J_L_table_402 v46 v47 v48 (fun w0 w1 w2 w3 => L_L_table_323 m0 v21 v22 v23 v25 kb303_26 n50 w0 w1 w2 w3) v51))) else (J_L_table_406 v46 v47 v48 (fun w0 w1 w2 w3 => L_L_table_323 m0 v21 v22 v23 v25 kb303_26 n50 w0 w1 w2 w3) v51)))))
def L_L_table_303 (m0 : Mem) : Nat → Int32 → Int32 → Int32 → Int32 → Int32 → Option Int32
  | 0, _, _, _, _, _ => none
  | n27 + 1, v21, v22, v23, v24, v25 => (if 3 ≤ v25 then (C_L_table_525 m0) v21 v22 v23 v24 else (if v24 = 0 then (C_L_table_525 m0) v21 v22 v23 v24 else L_L_table_323 m0 v21 v22 v23 v25 (fun w0 w1 w2 w3 w4 => L_L_table_303 m0 n27 w0 w1 w2 w3 w4) fu v24 0 0 0))
def C_L_table_300 (m0 : Mem) (v4 : Int32) : Option Int32 :=
  L_L_table_303 m0 fu 0 0 0 v4 0
def J_L_table_288 (v72 : Int32) (kb45_73 : Int32 → Int32 → Int32 → Option Int32) (v78 : Int32) (v83 : Int32) : Option Int32 :=
  bd (v72 + 1) fun v85 => kb45_73 v83 v78 v85
def J_L_table_287 (v72 : Int32) (kb45_73 : Int32 → Int32 → Int32 → Option Int32) (v78 : Int32)  : Option Int32 :=
  (J_L_table_288 v72 kb45_73 v78) 0
def J_L_table_280 (v72 : Int32) (kb45_73 : Int32 → Int32 → Int32 → Option Int32) (v78 : Int32) (v88 : Int32) (v91 : Int32) : Option Int32 :=
  (if v88 = v91 then (J_L_table_288 v72 kb45_73 v78) 1 else (J_L_table_287 v72 kb45_73 v78))
def J_L_table_265 (m0 : Mem) (v72 : Int32) (kb45_73 : Int32 → Int32 → Int32 → Option Int32) (v78 : Int32) (v88 : Int32) : Option Int32 :=
  bts (F_X3_count 0 m0) (fun _ => none) fun v90 => (if v90 ≤ v72 then (J_L_table_280 v72 kb45_73 v78 v88) 0 else (J_L_table_280 v72 kb45_73 v78 v88) 1)
def C_L_table_229 (m0 : Mem) (v71 : Int32) (v72 : Int32) (kb45_73 : Int32 → Int32 → Int32 → Option Int32) (v78 : Int32) (v80 : Int32) (v81 : Int32) : Option Int32 :=
  (if v80 = 0 then (J_L_table_287 v72 kb45_73 v78) else bts (F_X3_rowOf v72 9 m0) (fun _ => none) fun v87 => (if v87 = v81 then (if v78 < v71 then (J_L_table_287 v72 kb45_73 v78) else (if v78 = (-1) then (J_L_table_265 m0 v72 kb45_73 v78) 1 else (J_L_table_265 m0 v72 kb45_73 v78) 0)) else (J_L_table_287 v72 kb45_73 v78)))
def J_L_table_221 (v95 : Int32) (kb94_96 : Int32 → Int32 → Int32 → Option Int32) (v103 : Int32) (v104 : Int32) : Option Int32 :=
  bd (v95 + 1) fun v106 => kb94_96 v104 v103 v106
def J_L_table_216 (v95 : Int32) (kb94_96 : Int32 → Int32 → Int32 → Option Int32) (v103 : Int32)  : Option Int32 :=
  (J_L_table_221 v95 kb94_96 v103) 1
def J_L_table_220 (v95 : Int32) (kb94_96 : Int32 → Int32 → Int32 → Option Int32) (v103 : Int32)  : Option Int32 :=
  (J_L_table_221 v95 kb94_96 v103) 0
def J_L_table_194 (v95 : Int32) (kb94_96 : Int32 → Int32 → Int32 → Option Int32) (v99 : Int32) (v100 : Int32) (v103 : Int32)  : Option Int32 :=
  (if v100 = 2 then (if v99 < 10000 then (J_L_table_220 v95 kb94_96 v103) else (if 13650 < v99 then (J_L_table_220 v95 kb94_96 v103) else (J_L_table_216 v95 kb94_96 v103))) else (J_L_table_220 v95 kb94_96 v103))
def J_L_table_172 (v95 : Int32) (kb94_96 : Int32 → Int32 → Int32 → Option Int32) (v99 : Int32) (v100 : Int32) (v103 : Int32)  : Option Int32 :=
  (if v100 = 1 then (if v99 < 10000 then (J_L_table_194 v95 kb94_96 v99 v100 v103) else (if v99 ≤ 10001 then (J_L_table_216 v95 kb94_96 v103) else (J_L_table_194 v95 kb94_96 v99 v100 v103))) else (J_L_table_194 v95 kb94_96 v99 v100 v103))
def J_L_table_142 (v94 : Int32) (v95 : Int32) (kb94_96 : Int32 → Int32 → Int32 → Option Int32) (v99 : Int32) (v100 : Int32) (v101 : Int32) : Option Int32 :=
  bd (v94 + v101) fun v103 => (if v99 = (-1) then (J_L_table_216 v95 kb94_96 v103) else (if v100 = 0 then (if v99 < 9001 then (J_L_table_172 v95 kb94_96 v99 v100 v103) else (if v99 ≤ 10999 then (J_L_table_216 v95 kb94_96 v103) else (J_L_table_172 v95 kb94_96 v99 v100 v103))) else (J_L_table_172 v95 kb94_96 v99 v100 v103)))
def L_L_table_94 (m0 : Mem) (v71 : Int32) (v72 : Int32) (kb45_73 : Int32 → Int32 → Int32 → Option Int32) (v76 : Int32) (v78 : Int32) : Nat → Int32 → Int32 → Int32 → Option Int32
  | 0, _, _, _ => none
  | n97 + 1, v93, v94, v95 => (if 8 ≤ v95 then (C_L_table_229 m0 v71 v72 kb45_73 v78) v93 v94 else (if v93 = 0 then (C_L_table_229 m0 v71 v72 kb45_73 v78) v93 v94 else bd (1 + v95) fun v98 => bts (F_X3_rowOf v72 v98 m0) (fun _ => none) fun v99 => bts (F_X3_column v76 v95 1 m0) (fun _ => none) fun v100 => (if v99 = (-1) then (J_L_table_142 v94 v95 (fun w0 w1 w2 => L_L_table_94 m0 v71 v72 kb45_73 v76 v78 n97 w0 w1 w2) v99 v100) 0 else (J_L_table_142 v94 v95 (fun w0 w1 w2 => L_L_table_94 m0 v71 v72 kb45_73 v76 v78 n97 w0 w1 w2) v99 v100) 1)))
def J_L_table_86 (m0 : Mem) (v70 : Int32) (v71 : Int32) (v72 : Int32) (kb45_73 : Int32 → Int32 → Int32 → Option Int32) (v76 : Int32) (v78 : Int32) : Option Int32 :=
  L_L_table_94 m0 v71 v72 kb45_73 v76 v78 fu v70 0 0
def L_L_table_45 (m0 : Mem) : Nat → Int32 → Int32 → Int32 → Option Int32
  | 0, _, _, _ => none
  | n74 + 1, v70, v71, v72 => bts (F_X3_count 1 m0) (fun _ => none) fun v75 => (if v75 ≤ v72 then (C_L_table_300 m0) v70 else (if v70 = 0 then (C_L_table_300 m0) v70 else bts (F_X3_rowOf v72 0 m0) (fun _ => none) fun v76 => bts (F_X3_tenant v76 4 m0) (fun _ => none) fun v77 => (if v77 = 1 then (J_L_table_86 m0 v70 v71 v72 (fun w0 w1 w2 => L_L_table_45 m0 n74 w0 w1 w2) v76) v76 else (J_L_table_86 m0 v70 v71 v72 (fun w0 w1 w2 => L_L_table_45 m0 n74 w0 w1 w2) v76) (-1))))
def J_L_table_37 (m0 : Mem) (v2 : Int32) : Option Int32 :=
  L_L_table_45 m0 fu v2 (-1) 0
def J_L_table_36 (m0 : Mem)  : Option Int32 :=
  (J_L_table_37 m0) 0
def F_L_table (m0 : Mem) : Option Int32 :=
  bts (F_X3_count 0 m0) (fun _ => none) fun v1 => (if 40 < v1 then (J_L_table_36 m0) else bts (F_X3_count 3 m0) (fun _ => none) fun v112 => bts (F_X3_count 4 m0) (fun _ => none) fun v113 => bd (v112 + v113) fun v114 => (if 8 < v114 then (J_L_table_36 m0) else (J_L_table_37 m0) 1))
set_option maxHeartbeats 4000000 in
set_option maxRecDepth 100000 in
theorem c_L_table (l : Launch) (hlf : l.stackTraces = false) (X : XW)   (m0 : Mem) (rv : Int32) (hF : F_L_table m0 = some rv) : MX X l yL_table cL_table 13 (some .boolean) 9 [.ref (xad X (0, 0, 0, 0))] m0 (QI X rv m0) := by
  refine startZ hlf (by decide +kernel) rfl [(0, .ref (xad X (0, 0, 0, 0)))] rfl (Nat.le_of_ble_eq_true rfl) (fun K hk hR => ?_)
  unfold F_L_table at hF
  refine r_iconst (v := 0) hk (dtL_table_0 0 (0, .iconst 0, 1) rfl) (by decide) ?_
  refine r_istore_n hk [(1, .int 0), (0, .ref (xad X (0, 0, 0, 0)))] (dtL_table_0 1 (1, .istore_n 1, 1) rfl) (by decide) rfl ?_
  refine r_iconst (v := 0) hk (dtL_table_0 2 (2, .iconst 0, 1) rfl) (by decide) ?_
  refine r_istore_n hk [(2, .int 0), (1, .int 0), (0, .ref (xad X (0, 0, 0, 0)))] (dtL_table_0 3 (3, .istore_n 2, 1) rfl) (by decide) rfl ?_
  refine r_iconst (v := 0) hk (dtL_table_0 4 (4, .iconst 0, 1) rfl) (by decide) ?_
  refine r_istore_n hk [(3, .int 0), (2, .int 0), (1, .int 0), (0, .ref (xad X (0, 0, 0, 0)))] (dtL_table_0 5 (5, .istore_n 3, 1) rfl) (by decide) rfl ?_
  refine r_aload_n hk 3 (dtL_table_0 6 (6, .aload_n 0, 1) rfl) rfl ?_
  refine r_iconst (v := 0) hk (dtL_table_0 7 (7, .iconst 0, 1) rfl) (by decide) ?_
  refine r_callIts hk hF (fun c h => nomatch h) (fun R h hf H locs ls hH hS hl => runT_V (y := yX3_count) hk (in_main 0 (by decide)) rfl rfl (c_X3_count (kl K) hk.2.2.2.2.2.2.2.2.2.2.2 X  0 m0 R h) lk_L_17 me_X3_count yf_X3_count (by decide) (by decide) rfl (Nat.le_of_ble_eq_true rfl) rfl (dtL_table_0 8 (8, .invokevirtual 17, 3) rfl) hf hH hS hl) (fun v1 hF => ?_)
  refine r_bipush (v := 40) hk (dtL_table_0 9 (11, .bipush 40, 2) rfl) (by decide) ?_
  have j37_3 : ∀ (v2 : Int32), (J_L_table_37 m0) v2 = some rv → G X K 37 [(0, .ref (xad X (0, 0, 0, 0))), (1, .int 0), (2, .int 0), (3, .int 0)] [.int v2] m0 := by
    intro v2 hF
    unfold J_L_table_37 at hF
    refine r_istore hk [(4, .int v2), (0, .ref (xad X (0, 0, 0, 0))), (1, .int 0), (2, .int 0), (3, .int 0)] (dtL_table_0 23 (37, .istore 4, 2) rfl) (by decide) rfl ?_
    refine r_iconst (v := (-1)) hk (dtL_table_0 24 (39, .iconst (-1), 1) rfl) (by decide) ?_
    refine r_istore hk [(5, .int (-1)), (4, .int v2), (0, .ref (xad X (0, 0, 0, 0))), (1, .int 0), (2, .int 0), (3, .int 0)] (dtL_table_0 25 (40, .istore 5, 2) rfl) (by decide) rfl ?_
    refine r_iconst (v := 0) hk (dtL_table_0 26 (42, .iconst 0, 1) rfl) (by decide) ?_
    refine r_istore hk [(6, .int 0), (5, .int (-1)), (4, .int v2), (0, .ref (xad X (0, 0, 0, 0))), (1, .int 0), (2, .int 0), (3, .int 0)] (dtL_table_0 27 (43, .istore 6, 2) rfl) (by decide) rfl ?_
    have e300_5 : ∀ (v4 : Int32), (C_L_table_300 m0) v4 = some rv → G X K 300 [(0, .ref (xad X (0, 0, 0, 0))), (1, .int 0), (2, .int 0), (3, .int 0), (4, .int v4)] [] m0 := by
      intro v4 hF
      unfold C_L_table_300 at hF
      refine r_iconst (v := 0) hk (dtL_table_2 22 (300, .iconst 0, 1) rfl) (by decide) ?_
      refine r_istore hk [(6, .int 0), (0, .ref (xad X (0, 0, 0, 0))), (1, .int 0), (2, .int 0), (3, .int 0), (4, .int v4)] (dtL_table_2 23 (301, .istore 6, 2) rfl) (by decide) rfl ?_
      have e525_10 : ∀ (v6 : Int32) (v7 : Int32) (v8 : Int32) (v9 : Int32), (C_L_table_525 m0) v6 v7 v8 v9 = some rv → G X K 525 [(0, .ref (xad X (0, 0, 0, 0))), (1, .int v6), (2, .int v7), (3, .int v8), (4, .int v9)] [] m0 := by
        intro v6 v7 v8 v9 hF
        unfold C_L_table_525 at hF
        refine r_iload hk 4 (dtL_table_4 17 (525, .iload 4, 2) rfl) rfl ?_
        have j581_12 : ∀ (v11 : Int32), J_L_table_581 v11 = some rv → G X K 581 [] [.int v11] m0 := by
          intro v11 hF
          unfold J_L_table_581 at hF
          obtain ⟨hz, hF⟩ := ck_some hF
          cases Option.some.inj hF
          exact hR _ _ hz (dtL_table_4 47 (581, .ireturn, 1) rfl)
        have j580_13 : J_L_table_580 = some rv → G X K 580 [] [] m0 := by
          intro hF
          unfold J_L_table_580 at hF
          refine r_iconst (v := 0) hk (dtL_table_4 46 (580, .iconst 0, 1) rfl) (by decide) ?_
          exact r_sub hk [] rfl (j581_12 0 hF)
        refine r_if_eq hk 580 hF (dtL_table_4 18 (527, .ifCond .eq 53, 3) rfl) (by decide) (fun hF => ?_) (fun hF => ?_)
        · exact r_sub hk [] rfl (j580_13 hF)
        · refine r_iload_n hk 1 (dtL_table_4 19 (530, .iload_n 1, 1) rfl) rfl ?_
          refine r_aload_n hk 0 (dtL_table_4 20 (531, .aload_n 0, 1) rfl) rfl ?_
          refine r_iconst (v := 1) hk (dtL_table_4 21 (532, .iconst 1, 1) rfl) (by decide) ?_
          refine r_callIts hk hF (fun c h => nomatch h) (fun R h hf H locs ls hH hS hl => runT_V (y := yX3_count) hk (in_main 0 (by decide)) rfl rfl (c_X3_count (kl K) hk.2.2.2.2.2.2.2.2.2.2.2 X  1 m0 R h) lk_L_17 me_X3_count yf_X3_count (by decide) (by decide) rfl (Nat.le_of_ble_eq_true rfl) rfl (dtL_table_4 22 (533, .invokevirtual 17, 3) rfl) hf hH hS hl) (fun v14 hF => ?_)
          refine r_icmp_ne hk 580 hF (dtL_table_4 23 (536, .if_icmp .ne 44, 3) rfl) (by decide) (fun hF => ?_) (fun hF => ?_)
          · exact r_sub hk [] rfl (j580_13 hF)
          · refine r_iload_n hk 2 (dtL_table_4 24 (539, .iload_n 2, 1) rfl) rfl ?_
            refine r_aload_n hk 0 (dtL_table_4 25 (540, .aload_n 0, 1) rfl) rfl ?_
            refine r_iconst (v := 0) hk (dtL_table_4 26 (541, .iconst 0, 1) rfl) (by decide) ?_
            refine r_callIts hk hF (fun c h => nomatch h) (fun R h hf H locs ls hH hS hl => runT_V (y := yX3_count) hk (in_main 0 (by decide)) rfl rfl (c_X3_count (kl K) hk.2.2.2.2.2.2.2.2.2.2.2 X  0 m0 R h) lk_L_17 me_X3_count yf_X3_count (by decide) (by decide) rfl (Nat.le_of_ble_eq_true rfl) rfl (dtL_table_4 27 (542, .invokevirtual 17, 3) rfl) hf hH hS hl) (fun v15 hF => ?_)
            refine r_icmp_ne hk 580 hF (dtL_table_4 28 (545, .if_icmp .ne 35, 3) rfl) (by decide) (fun hF => ?_) (fun hF => ?_)
            · exact r_sub hk [] rfl (j580_13 hF)
            · refine r_iload_n hk 3 (dtL_table_4 29 (548, .iload_n 3, 1) rfl) rfl ?_
              refine r_aload_n hk 0 (dtL_table_4 30 (549, .aload_n 0, 1) rfl) rfl ?_
              refine r_bipush (v := 6) hk (dtL_table_4 31 (550, .bipush 6, 2) rfl) (by decide) ?_
              refine r_callIts hk hF (fun c h => nomatch h) (fun R h hf H locs ls hH hS hl => runT_V (y := yX3_count) hk (in_main 0 (by decide)) rfl rfl (c_X3_count (kl K) hk.2.2.2.2.2.2.2.2.2.2.2 X  6 m0 R h) lk_L_17 me_X3_count yf_X3_count (by decide) (by decide) rfl (Nat.le_of_ble_eq_true rfl) rfl (dtL_table_4 32 (552, .invokevirtual 17, 3) rfl) hf hH hS hl) (fun v16 hF => ?_)
              refine r_icmp_ne hk 580 hF (dtL_table_4 33 (555, .if_icmp .ne 25, 3) rfl) (by decide) (fun hF => ?_) (fun hF => ?_)
              · exact r_sub hk [] rfl (j580_13 hF)
              · refine r_aload_n hk 0 (dtL_table_4 34 (558, .aload_n 0, 1) rfl) rfl ?_
                refine r_callD hF (fun v17 h H locs ls hH hS hl => run_V (y := yX3_fullness) hk (in_main 0 (by decide)) rfl rfl (c_X3_fullness (kl K) hk.2.2.2.2.2.2.2.2.2.2.2 X   m0 v17 h) lk_L_32 me_X3_fullness yf_X3_fullness (by decide) (by decide) rfl (Nat.le_of_ble_eq_true rfl) rfl (dtL_table_4 35 (559, .invokevirtual 32, 3) rfl) hH hS hl) (fun v17 hF => ?_)
                refine r_dconst0 hk (dtL_table_4 36 (562, .dconst 0, 1) rfl) ?_
                refine r_dcmp hk hF (dtL_table_4 37 (563, .dcmp .l, 1) rfl) (fun v18 hF => ?_)
                refine r_if_lt hk 580 hF (dtL_table_4 38 (564, .ifCond .lt 16, 3) rfl) (by decide) (fun hF => ?_) (fun hF => ?_)
                · exact r_sub hk [] rfl (j580_13 hF)
                · refine r_aload_n hk 0 (dtL_table_4 39 (567, .aload_n 0, 1) rfl) rfl ?_
                  refine r_callD hF (fun v19 h H locs ls hH hS hl => run_V (y := yX3_fullness) hk (in_main 0 (by decide)) rfl rfl (c_X3_fullness (kl K) hk.2.2.2.2.2.2.2.2.2.2.2 X   m0 v19 h) lk_L_32 me_X3_fullness yf_X3_fullness (by decide) (by decide) rfl (Nat.le_of_ble_eq_true rfl) rfl (dtL_table_4 40 (568, .invokevirtual 32, 3) rfl) hH hS hl) (fun v19 hF => ?_)
                  refine r_dconst1 hk (dtL_table_4 41 (571, .dconst 1, 1) rfl) ?_
                  refine r_dcmp hk hF (dtL_table_4 42 (572, .dcmp .g, 1) rfl) (fun v20 hF => ?_)
                  refine r_if_gt hk 580 hF (dtL_table_4 43 (573, .ifCond .gt 7, 3) rfl) (by decide) (fun hF => ?_) (fun hF => ?_)
                  · exact r_sub hk [] rfl (j580_13 hF)
                  · refine r_iconst (v := 1) hk (dtL_table_4 44 (576, .iconst 1, 1) rfl) (by decide) ?_
                    refine r_goto hk 581 (dtL_table_4 45 (577, .goto 4, 3) rfl) (by decide) ?_
                    exact r_sub hk [] rfl (j581_12 1 hF)
      have l27 : ∀ (n27 : Nat) (v21 : Int32) (v22 : Int32) (v23 : Int32) (v24 : Int32) (v25 : Int32), L_L_table_303 m0 n27 v21 v22 v23 v24 v25 = some rv → G X K 303 [(0, .ref (xad X (0, 0, 0, 0))), (1, .int v21), (2, .int v22), (3, .int v23), (4, .int v24), (6, .int v25)] [] m0 := by
        intro n27
        induction n27 with
        | zero => intro v21 v22 v23 v24 v25 hF; exact nomatch (show (none : Option Int32) = some rv from hF)
        | succ n27 ih27 =>
          intro v21 v22 v23 v24 v25 hF
          rw [L_L_table_303] at hF
          refine r_iload hk 5 (dtL_table_2 24 (303, .iload 6, 2) rfl) rfl ?_
          refine r_iconst (v := 3) hk (dtL_table_2 25 (305, .iconst 3, 1) rfl) (by decide) ?_
          refine r_icmp_ge hk 525 hF (dtL_table_2 26 (306, .if_icmp .ge 219, 3) rfl) (by decide) (fun hF => ?_) (fun hF => ?_)
          · exact r_sub hk [0, 1, 2, 3, 4] rfl (e525_10 v21 v22 v23 v24 hF)
          · refine r_iload hk 4 (dtL_table_2 27 (309, .iload 4, 2) rfl) rfl ?_
            refine r_if_eq hk 525 hF (dtL_table_2 28 (311, .ifCond .eq 214, 3) rfl) (by decide) (fun hF => ?_) (fun hF => ?_)
            · exact r_sub hk [0, 1, 2, 3, 4] rfl (e525_10 v21 v22 v23 v24 hF)
            · refine r_iconst (v := 0) hk (dtL_table_2 29 (314, .iconst 0, 1) rfl) (by decide) ?_
              refine r_istore hk [(7, .int 0), (0, .ref (xad X (0, 0, 0, 0))), (1, .int v21), (2, .int v22), (3, .int v23), (4, .int v24), (6, .int v25)] (dtL_table_2 30 (315, .istore 7, 2) rfl) (by decide) rfl ?_
              refine r_iconst (v := 0) hk (dtL_table_2 31 (317, .iconst 0, 1) rfl) (by decide) ?_
              refine r_istore hk [(8, .int 0), (7, .int 0), (0, .ref (xad X (0, 0, 0, 0))), (1, .int v21), (2, .int v22), (3, .int v23), (4, .int v24), (6, .int v25)] (dtL_table_2 32 (318, .istore 8, 2) rfl) (by decide) rfl ?_
              refine r_iconst (v := 0) hk (dtL_table_2 33 (320, .iconst 0, 1) rfl) (by decide) ?_
              refine r_istore hk [(9, .int 0), (8, .int 0), (7, .int 0), (0, .ref (xad X (0, 0, 0, 0))), (1, .int v21), (2, .int v22), (3, .int v23), (4, .int v24), (6, .int v25)] (dtL_table_2 34 (321, .istore 9, 2) rfl) (by decide) rfl ?_
              have e450_30 : ∀ (v28 : Int32) (v29 : Int32), (C_L_table_450 m0 v21 v22 v23 v25 (fun w0 w1 w2 w3 w4 => L_L_table_303 m0 n27 w0 w1 w2 w3 w4)) v28 v29 = some rv → G X K 450 [(0, .ref (xad X (0, 0, 0, 0))), (1, .int v21), (2, .int v22), (3, .int v23), (4, .int v28), (6, .int v25), (8, .int v29)] [] m0 := by
                intro v28 v29 hF
                unfold C_L_table_450 at hF
                refine r_iload_n hk 1 (dtL_table_3 38 (450, .iload_n 1, 1) rfl) rfl ?_
                refine r_aload_n hk 0 (dtL_table_3 39 (451, .aload_n 0, 1) rfl) rfl ?_
                refine r_iload hk 5 (dtL_table_3 40 (452, .iload 6, 2) rfl) rfl ?_
                refine r_iconst (v := 0) hk (dtL_table_3 41 (454, .iconst 0, 1) rfl) (by decide) ?_
                refine r_callIts hk hF (fun c h => nomatch h) (fun R h hf H locs ls hH hS hl => runT_V (y := yX3_tenant) hk (in_main 0 (by decide)) rfl rfl (c_X3_tenant (kl K) hk.2.2.2.2.2.2.2.2.2.2.2 X  v25 0 m0 R h) lk_L_25 me_X3_tenant yf_X3_tenant (by decide) (by decide) rfl (Nat.le_of_ble_eq_true rfl) rfl (dtL_table_3 42 (455, .invokevirtual 25, 3) rfl) hf hH hS hl) (fun v31 hF => ?_)
                refine r_iadd hk hF (dtL_table_3 43 (458, .iadd, 1) rfl) (fun v32 hF => ?_)
                refine r_istore_n hk [(1, .int v32), (0, .ref (xad X (0, 0, 0, 0))), (2, .int v22), (3, .int v23), (4, .int v28), (6, .int v25), (8, .int v29)] (dtL_table_3 44 (459, .istore_n 1, 1) rfl) (by decide) rfl ?_
                refine r_iload_n hk 2 (dtL_table_3 45 (460, .iload_n 2, 1) rfl) rfl ?_
                refine r_aload_n hk 1 (dtL_table_3 46 (461, .aload_n 0, 1) rfl) rfl ?_
                refine r_iload hk 5 (dtL_table_3 47 (462, .iload 6, 2) rfl) rfl ?_
                refine r_iconst (v := 4) hk (dtL_table_3 48 (464, .iconst 4, 1) rfl) (by decide) ?_
                refine r_callIts hk hF (fun c h => nomatch h) (fun R h hf H locs ls hH hS hl => runT_V (y := yX3_tenant) hk (in_main 0 (by decide)) rfl rfl (c_X3_tenant (kl K) hk.2.2.2.2.2.2.2.2.2.2.2 X  v25 4 m0 R h) lk_L_25 me_X3_tenant yf_X3_tenant (by decide) (by decide) rfl (Nat.le_of_ble_eq_true rfl) rfl (dtL_table_3 49 (465, .invokevirtual 25, 3) rfl) hf hH hS hl) (fun v33 hF => ?_)
                refine r_iconst (v := 1) hk (dtL_table_3 50 (468, .iconst 1, 1) rfl) (by decide) ?_
                have j483_35 : ∀ (v34 : Int32), (J_L_table_483 m0 v22 v23 v25 (fun w0 w1 w2 w3 w4 => L_L_table_303 m0 n27 w0 w1 w2 w3 w4) v28 v29 v32) v34 = some rv → G X K 483 [(0, .ref (xad X (0, 0, 0, 0))), (1, .int v32), (3, .int v23), (4, .int v28), (6, .int v25), (8, .int v29)] [.int v34, .int v22] m0 := by
                  intro v34 hF
                  unfold J_L_table_483 at hF
                  refine r_iadd hk hF (dtL_table_3 58 (483, .iadd, 1) rfl) (fun v36 hF => ?_)
                  refine r_istore_n hk [(2, .int v36), (0, .ref (xad X (0, 0, 0, 0))), (1, .int v32), (3, .int v23), (4, .int v28), (6, .int v25), (8, .int v29)] (dtL_table_3 59 (484, .istore_n 2, 1) rfl) (by decide) rfl ?_
                  refine r_iload_n hk 3 (dtL_table_3 60 (485, .iload_n 3, 1) rfl) rfl ?_
                  refine r_aload_n hk 1 (dtL_table_3 61 (486, .aload_n 0, 1) rfl) rfl ?_
                  refine r_iload hk 5 (dtL_table_3 62 (487, .iload 6, 2) rfl) rfl ?_
                  refine r_iconst (v := 4) hk (dtL_table_3 63 (489, .iconst 4, 1) rfl) (by decide) ?_
                  refine r_callIts hk hF (fun c h => nomatch h) (fun R h hf H locs ls hH hS hl => runT_V (y := yX3_tenant) hk (in_main 0 (by decide)) rfl rfl (c_X3_tenant (kl K) hk.2.2.2.2.2.2.2.2.2.2.2 X  v25 4 m0 R h) lk_L_25 me_X3_tenant yf_X3_tenant (by decide) (by decide) rfl (Nat.le_of_ble_eq_true rfl) rfl (dtL_table_4 0 (490, .invokevirtual 25, 3) rfl) hf hH hS hl) (fun v37 hF => ?_)
                  refine r_iadd hk hF (dtL_table_4 1 (493, .iadd, 1) rfl) (fun v38 hF => ?_)
                  refine r_istore_n hk [(3, .int v38), (2, .int v36), (0, .ref (xad X (0, 0, 0, 0))), (1, .int v32), (4, .int v28), (6, .int v25), (8, .int v29)] (dtL_table_4 2 (494, .istore_n 3, 1) rfl) (by decide) rfl ?_
                  refine r_iload hk 4 (dtL_table_4 3 (495, .iload 4, 2) rfl) rfl ?_
                  have j517_40 : ∀ (v39 : Int32), (J_L_table_517 v25 (fun w0 w1 w2 w3 w4 => L_L_table_303 m0 n27 w0 w1 w2 w3 w4) v32 v36 v38) v39 = some rv → G X K 517 [(0, .ref (xad X (0, 0, 0, 0))), (1, .int v32), (2, .int v36), (3, .int v38), (6, .int v25)] [.int v39] m0 := by
                    intro v39 hF
                    unfold J_L_table_517 at hF
                    refine r_istore hk [(4, .int v39), (0, .ref (xad X (0, 0, 0, 0))), (1, .int v32), (2, .int v36), (3, .int v38), (6, .int v25)] (dtL_table_4 14 (517, .istore 4, 2) rfl) (by decide) rfl ?_
                    refine r_iinc hk 1 5 (fun v41 => [(6, .int v41), (4, .int v39), (0, .ref (xad X (0, 0, 0, 0))), (1, .int v32), (2, .int v36), (3, .int v38)]) hF (dtL_table_4 15 (519, .iinc 6 1, 3) rfl) rfl (by decide) (by decide) (fun _ => rfl) (fun v41 hF => ?_)
                    refine r_goto hk 303 (dtL_table_4 16 (522, .goto (-219), 3) rfl) (by decide) ?_
                    exact r_sub hk [2, 3, 4, 5, 1, 0] rfl (ih27 v32 v36 v38 v39 v41 hF)
                  have j516_42 : (J_L_table_516 v25 (fun w0 w1 w2 w3 w4 => L_L_table_303 m0 n27 w0 w1 w2 w3 w4) v32 v36 v38) = some rv → G X K 516 [(0, .ref (xad X (0, 0, 0, 0))), (1, .int v32), (2, .int v36), (3, .int v38), (6, .int v25)] [] m0 := by
                    intro hF
                    unfold J_L_table_516 at hF
                    refine r_iconst (v := 0) hk (dtL_table_4 13 (516, .iconst 0, 1) rfl) (by decide) ?_
                    exact r_sub hk [0, 1, 2, 3, 4] rfl (j517_40 0 hF)
                  refine r_if_eq hk 516 hF (dtL_table_4 4 (497, .ifCond .eq 19, 3) rfl) (by decide) (fun hF => ?_) (fun hF => ?_)
                  · exact r_sub hk [2, 3, 1, 0, 5] rfl (j516_42 hF)
                  · refine r_aload_n hk 2 (dtL_table_4 5 (500, .aload_n 0, 1) rfl) rfl ?_
                    refine r_iload hk 5 (dtL_table_4 6 (501, .iload 6, 2) rfl) rfl ?_
                    refine r_iconst (v := 1) hk (dtL_table_4 7 (503, .iconst 1, 1) rfl) (by decide) ?_
                    refine r_callIts hk hF (fun c h => nomatch h) (fun R h hf H locs ls hH hS hl => runT_V (y := yX3_tenant) hk (in_main 0 (by decide)) rfl rfl (c_X3_tenant (kl K) hk.2.2.2.2.2.2.2.2.2.2.2 X  v25 1 m0 R h) lk_L_25 me_X3_tenant yf_X3_tenant (by decide) (by decide) rfl (Nat.le_of_ble_eq_true rfl) rfl (dtL_table_4 8 (504, .invokevirtual 25, 3) rfl) hf hH hS hl) (fun v43 hF => ?_)
                    refine r_iload hk 6 (dtL_table_4 9 (507, .iload 8, 2) rfl) rfl ?_
                    refine r_icmp_ne hk 516 hF (dtL_table_4 10 (509, .if_icmp .ne 7, 3) rfl) (by decide) (fun hF => ?_) (fun hF => ?_)
                    · exact r_sub hk [2, 3, 1, 0, 5] rfl (j516_42 hF)
                    · refine r_iconst (v := 1) hk (dtL_table_4 11 (512, .iconst 1, 1) rfl) (by decide) ?_
                      refine r_goto hk 517 (dtL_table_4 12 (513, .goto 4, 3) rfl) (by decide) ?_
                      exact r_sub hk [2, 3, 1, 0, 5] rfl (j517_40 1 hF)
                refine r_icmp_ne hk 476 hF (dtL_table_3 51 (469, .if_icmp .ne 7, 3) rfl) (by decide) (fun hF => ?_) (fun hF => ?_)
                · refine r_aload_n hk 1 (dtL_table_3 54 (476, .aload_n 0, 1) rfl) rfl ?_
                  refine r_iload hk 5 (dtL_table_3 55 (477, .iload 6, 2) rfl) rfl ?_
                  refine r_iconst (v := 0) hk (dtL_table_3 56 (479, .iconst 0, 1) rfl) (by decide) ?_
                  refine r_callIts hk hF (fun c h => nomatch h) (fun R h hf H locs ls hH hS hl => runT_V (y := yX3_tenant) hk (in_main 0 (by decide)) rfl rfl (c_X3_tenant (kl K) hk.2.2.2.2.2.2.2.2.2.2.2 X  v25 0 m0 R h) lk_L_25 me_X3_tenant yf_X3_tenant (by decide) (by decide) rfl (Nat.le_of_ble_eq_true rfl) rfl (dtL_table_3 57 (480, .invokevirtual 25, 3) rfl) hf hH hS hl) (fun v44 hF => ?_)
                  exact r_sub hk [1, 0, 3, 4, 5, 6] rfl (j483_35 v44 hF)
                · refine r_iconst (v := 0) hk (dtL_table_3 52 (472, .iconst 0, 1) rfl) (by decide) ?_
                  refine r_goto hk 483 (dtL_table_3 53 (473, .goto 10, 3) rfl) (by decide) ?_
                  exact r_sub hk [1, 0, 3, 4, 5, 6] rfl (j483_35 0 hF)
              have l50 : ∀ (n50 : Nat) (v45 : Int32) (v46 : Int32) (v47 : Int32) (v48 : Int32), L_L_table_323 m0 v21 v22 v23 v25 (fun w0 w1 w2 w3 w4 => L_L_table_303 m0 n27 w0 w1 w2 w3 w4) n50 v45 v46 v47 v48 = some rv → G X K 323 [(0, .ref (xad X (0, 0, 0, 0))), (1, .int v21), (2, .int v22), (3, .int v23), (4, .int v45), (6, .int v25), (7, .int v46), (8, .int v47), (9, .int v48)] [] m0 := by
                intro n50
                induction n50 with
                | zero => intro v45 v46 v47 v48 hF; exact nomatch (show (none : Option Int32) = some rv from hF)
                | succ n50 ih50 =>
                  intro v45 v46 v47 v48 hF
                  rw [L_L_table_323] at hF
                  refine r_iload hk 8 (dtL_table_2 35 (323, .iload 9, 2) rfl) rfl ?_
                  refine r_bipush (v := 8) hk (dtL_table_2 36 (325, .bipush 8, 2) rfl) (by decide) ?_
                  refine r_icmp_ge hk 450 hF (dtL_table_2 37 (327, .if_icmp .ge 123, 3) rfl) (by decide) (fun hF => ?_) (fun hF => ?_)
                  · exact r_sub hk [0, 1, 2, 3, 4, 5, 7] rfl (e450_30 v45 v47 hF)
                  · refine r_iload hk 4 (dtL_table_2 38 (330, .iload 4, 2) rfl) rfl ?_
                    refine r_if_eq hk 450 hF (dtL_table_2 39 (332, .ifCond .eq 118, 3) rfl) (by decide) (fun hF => ?_) (fun hF => ?_)
                    · exact r_sub hk [0, 1, 2, 3, 4, 5, 7] rfl (e450_30 v45 v47 hF)
                    · refine r_aload_n hk 0 (dtL_table_2 40 (335, .aload_n 0, 1) rfl) rfl ?_
                      refine r_iload hk 5 (dtL_table_2 41 (336, .iload 6, 2) rfl) rfl ?_
                      refine r_iload hk 8 (dtL_table_2 42 (338, .iload 9, 2) rfl) rfl ?_
                      refine r_iconst (v := 0) hk (dtL_table_2 43 (340, .iconst 0, 1) rfl) (by decide) ?_
                      refine r_callIts hk hF (fun c h => nomatch h) (fun R h hf H locs ls hH hS hl => runT_V (y := yX3_column) hk (in_main 0 (by decide)) rfl rfl (c_X3_column (kl K) hk.2.2.2.2.2.2.2.2.2.2.2 X  v25 v48 0 m0 R h) lk_L_28 me_X3_column yf_X3_column (by decide) (by decide) rfl (Nat.le_of_ble_eq_true rfl) rfl (dtL_table_2 44 (341, .invokevirtual 28, 3) rfl) hf hH hS hl) (fun v51 hF => ?_)
                      refine r_istore hk [(10, .int v51), (0, .ref (xad X (0, 0, 0, 0))), (1, .int v21), (2, .int v22), (3, .int v23), (4, .int v45), (6, .int v25), (7, .int v46), (8, .int v47), (9, .int v48)] (dtL_table_2 45 (344, .istore 10, 2) rfl) (by decide) rfl ?_
                      refine r_iload hk 0 (dtL_table_2 46 (346, .iload 10, 2) rfl) rfl ?_
                      refine r_iconst (v := (-1)) hk (dtL_table_2 47 (348, .iconst (-1), 1) rfl) (by decide) ?_
                      have j407_53 : ∀ (v52 : Int32), (J_L_table_407 v46 v47 v48 (fun w0 w1 w2 w3 => L_L_table_323 m0 v21 v22 v23 v25 (fun w0 w1 w2 w3 w4 => L_L_table_303 m0 n27 w0 w1 w2 w3 w4) n50 w0 w1 w2 w3) v51) v52 = some rv → G X K 407 [(0, .ref (xad X (0, 0, 0, 0))), (1, .int v21), (2, .int v22), (3, .int v23), (6, .int v25), (7, .int v46), (8, .int v47), (9, .int v48), (10, .int v51)] [.int v52] m0 := by
                        intro v52 hF
                        unfold J_L_table_407 at hF
                        refine r_istore hk [(4, .int v52), (0, .ref (xad X (0, 0, 0, 0))), (1, .int v21), (2, .int v22), (3, .int v23), (6, .int v25), (7, .int v46), (8, .int v47), (9, .int v48), (10, .int v51)] (dtL_table_3 15 (407, .istore 4, 2) rfl) (by decide) rfl ?_
                        refine r_iload hk 6 (dtL_table_3 16 (409, .iload 7, 2) rfl) rfl ?_
                        refine r_iload hk 9 (dtL_table_3 17 (411, .iload 10, 2) rfl) rfl ?_
                        refine r_iconst (v := (-1)) hk (dtL_table_3 18 (413, .iconst (-1), 1) rfl) (by decide) ?_
                        have j425_55 : ∀ (v54 : Int32), (J_L_table_425 v46 v47 v48 (fun w0 w1 w2 w3 => L_L_table_323 m0 v21 v22 v23 v25 (fun w0 w1 w2 w3 w4 => L_L_table_303 m0 n27 w0 w1 w2 w3 w4) n50 w0 w1 w2 w3) v51 v52) v54 = some rv → G X K 425 [(0, .ref (xad X (0, 0, 0, 0))), (1, .int v21), (2, .int v22), (3, .int v23), (4, .int v52), (6, .int v25), (8, .int v47), (9, .int v48), (10, .int v51)] [.int v54, .int v46] m0 := by
                          intro v54 hF
                          unfold J_L_table_425 at hF
                          refine r_ior hk hF (dtL_table_3 25 (425, .ior, 1) rfl) (fun v56 hF => ?_)
                          refine r_istore hk [(7, .int v56), (0, .ref (xad X (0, 0, 0, 0))), (1, .int v21), (2, .int v22), (3, .int v23), (4, .int v52), (6, .int v25), (8, .int v47), (9, .int v48), (10, .int v51)] (dtL_table_3 26 (426, .istore 7, 2) rfl) (by decide) rfl ?_
                          refine r_iload hk 7 (dtL_table_3 27 (428, .iload 8, 2) rfl) rfl ?_
                          refine r_iload hk 9 (dtL_table_3 28 (430, .iload 10, 2) rfl) rfl ?_
                          refine r_iconst (v := (-1)) hk (dtL_table_3 29 (432, .iconst (-1), 1) rfl) (by decide) ?_
                          have j441_58 : ∀ (v57 : Int32), (J_L_table_441 v47 v48 (fun w0 w1 w2 w3 => L_L_table_323 m0 v21 v22 v23 v25 (fun w0 w1 w2 w3 w4 => L_L_table_303 m0 n27 w0 w1 w2 w3 w4) n50 w0 w1 w2 w3) v52 v56) v57 = some rv → G X K 441 [(0, .ref (xad X (0, 0, 0, 0))), (1, .int v21), (2, .int v22), (3, .int v23), (4, .int v52), (6, .int v25), (7, .int v56), (9, .int v48)] [.int v57, .int v47] m0 := by
                            intro v57 hF
                            unfold J_L_table_441 at hF
                            refine r_iadd hk hF (dtL_table_3 34 (441, .iadd, 1) rfl) (fun v59 hF => ?_)
                            refine r_istore hk [(8, .int v59), (0, .ref (xad X (0, 0, 0, 0))), (1, .int v21), (2, .int v22), (3, .int v23), (4, .int v52), (6, .int v25), (7, .int v56), (9, .int v48)] (dtL_table_3 35 (442, .istore 8, 2) rfl) (by decide) rfl ?_
                            refine r_iinc hk 1 8 (fun v60 => [(9, .int v60), (8, .int v59), (0, .ref (xad X (0, 0, 0, 0))), (1, .int v21), (2, .int v22), (3, .int v23), (4, .int v52), (6, .int v25), (7, .int v56)]) hF (dtL_table_3 36 (444, .iinc 9 1, 3) rfl) rfl (by decide) (by decide) (fun _ => rfl) (fun v60 hF => ?_)
                            refine r_goto hk 323 (dtL_table_3 37 (447, .goto (-124), 3) rfl) (by decide) ?_
                            exact r_sub hk [2, 3, 4, 5, 6, 7, 8, 1, 0] rfl (ih50 v52 v56 v59 v60 hF)
                          refine r_icmp_ne hk 440 hF (dtL_table_3 30 (433, .if_icmp .ne 7, 3) rfl) (by decide) (fun hF => ?_) (fun hF => ?_)
                          · refine r_iconst (v := 1) hk (dtL_table_3 33 (440, .iconst 1, 1) rfl) (by decide) ?_
                            exact r_sub hk [1, 2, 3, 4, 5, 6, 0, 8] rfl (j441_58 1 hF)
                          · refine r_iconst (v := 0) hk (dtL_table_3 31 (436, .iconst 0, 1) rfl) (by decide) ?_
                            refine r_goto hk 441 (dtL_table_3 32 (437, .goto 4, 3) rfl) (by decide) ?_
                            exact r_sub hk [1, 2, 3, 4, 5, 6, 0, 8] rfl (j441_58 0 hF)
                        refine r_icmp_ne hk 421 hF (dtL_table_3 19 (414, .if_icmp .ne 7, 3) rfl) (by decide) (fun hF => ?_) (fun hF => ?_)
                        · refine r_iconst (v := 1) hk (dtL_table_3 22 (421, .iconst 1, 1) rfl) (by decide) ?_
                          refine r_iload hk 9 (dtL_table_3 23 (422, .iload 10, 2) rfl) rfl ?_
                          refine r_ishl hk hF (dtL_table_3 24 (424, .ishl, 1) rfl) (fun v61 hF => ?_)
                          exact r_sub hk [1, 2, 3, 4, 0, 5, 7, 8, 9] rfl (j425_55 v61 hF)
                        · refine r_iconst (v := 0) hk (dtL_table_3 20 (417, .iconst 0, 1) rfl) (by decide) ?_
                          refine r_goto hk 425 (dtL_table_3 21 (418, .goto 7, 3) rfl) (by decide) ?_
                          exact r_sub hk [1, 2, 3, 4, 0, 5, 7, 8, 9] rfl (j425_55 0 hF)
                      have j402_62 : (J_L_table_402 v46 v47 v48 (fun w0 w1 w2 w3 => L_L_table_323 m0 v21 v22 v23 v25 (fun w0 w1 w2 w3 w4 => L_L_table_303 m0 n27 w0 w1 w2 w3 w4) n50 w0 w1 w2 w3) v51) = some rv → G X K 402 [(0, .ref (xad X (0, 0, 0, 0))), (1, .int v21), (2, .int v22), (3, .int v23), (6, .int v25), (7, .int v46), (8, .int v47), (9, .int v48), (10, .int v51)] [] m0 := by
                        intro hF
                        unfold J_L_table_402 at hF
                        refine r_iconst (v := 1) hk (dtL_table_3 12 (402, .iconst 1, 1) rfl) (by decide) ?_
                        refine r_goto hk 407 (dtL_table_3 13 (403, .goto 4, 3) rfl) (by decide) ?_
                        exact r_sub hk [0, 1, 2, 3, 4, 5, 6, 7, 8] rfl (j407_53 1 hF)
                      refine r_icmp_eq hk 402 hF (dtL_table_2 48 (349, .if_icmp .eq 53, 3) rfl) (by decide) (fun hF => ?_) (fun hF => ?_)
                      · exact r_sub hk [1, 2, 3, 4, 6, 7, 8, 9, 0] rfl (j402_62 hF)
                      · refine r_iload hk 7 (dtL_table_2 49 (352, .iload 7, 2) rfl) rfl ?_
                        refine r_iload hk 0 (dtL_table_2 50 (354, .iload 10, 2) rfl) rfl ?_
                        refine r_ishr hk hF (dtL_table_2 51 (356, .ishr, 1) rfl) (fun v63 hF => ?_)
                        refine r_iconst (v := 1) hk (dtL_table_2 52 (357, .iconst 1, 1) rfl) (by decide) ?_
                        refine r_iand hk hF (dtL_table_2 53 (358, .iand, 1) rfl) (fun v64 hF => ?_)
                        have j406_65 : (J_L_table_406 v46 v47 v48 (fun w0 w1 w2 w3 => L_L_table_323 m0 v21 v22 v23 v25 (fun w0 w1 w2 w3 w4 => L_L_table_303 m0 n27 w0 w1 w2 w3 w4) n50 w0 w1 w2 w3) v51) = some rv → G X K 406 [(0, .ref (xad X (0, 0, 0, 0))), (1, .int v21), (2, .int v22), (3, .int v23), (6, .int v25), (7, .int v46), (8, .int v47), (9, .int v48), (10, .int v51)] [] m0 := by
                          intro hF
                          unfold J_L_table_406 at hF
                          refine r_iconst (v := 0) hk (dtL_table_3 14 (406, .iconst 0, 1) rfl) (by decide) ?_
                          exact r_sub hk [0, 1, 2, 3, 4, 5, 6, 7, 8] rfl (j407_53 0 hF)
                        refine r_if_ne hk 406 hF (dtL_table_2 54 (359, .ifCond .ne 47, 3) rfl) (by decide) (fun hF => ?_) (fun hF => ?_)
                        · exact r_sub hk [1, 2, 3, 4, 6, 7, 8, 9, 0] rfl (j406_65 hF)
                        · refine r_aload_n hk 1 (dtL_table_2 55 (362, .aload_n 0, 1) rfl) rfl ?_
                          refine r_iload hk 6 (dtL_table_2 56 (363, .iload 6, 2) rfl) rfl ?_
                          refine r_iload hk 9 (dtL_table_2 57 (365, .iload 9, 2) rfl) rfl ?_
                          refine r_iconst (v := 3) hk (dtL_table_2 58 (367, .iconst 3, 1) rfl) (by decide) ?_
                          refine r_callIts hk hF (fun c h => nomatch h) (fun R h hf H locs ls hH hS hl => runT_V (y := yX3_column) hk (in_main 0 (by decide)) rfl rfl (c_X3_column (kl K) hk.2.2.2.2.2.2.2.2.2.2.2 X  v25 v48 3 m0 R h) lk_L_28 me_X3_column yf_X3_column (by decide) (by decide) rfl (Nat.le_of_ble_eq_true rfl) rfl (dtL_table_2 59 (368, .invokevirtual 28, 3) rfl) hf hH hS hl) (fun v66 hF => ?_)
                          refine r_aload_n hk 1 (dtL_table_2 60 (371, .aload_n 0, 1) rfl) rfl ?_
                          refine r_iload hk 6 (dtL_table_2 61 (372, .iload 6, 2) rfl) rfl ?_
                          refine r_iconst (v := 0) hk (dtL_table_2 62 (374, .iconst 0, 1) rfl) (by decide) ?_
                          refine r_callIts hk hF (fun c h => nomatch h) (fun R h hf H locs ls hH hS hl => runT_V (y := yX3_tenant) hk (in_main 0 (by decide)) rfl rfl (c_X3_tenant (kl K) hk.2.2.2.2.2.2.2.2.2.2.2 X  v25 0 m0 R h) lk_L_25 me_X3_tenant yf_X3_tenant (by decide) (by decide) rfl (Nat.le_of_ble_eq_true rfl) rfl (dtL_table_2 63 (375, .invokevirtual 25, 3) rfl) hf hH hS hl) (fun v67 hF => ?_)
                          refine r_icmp_gt hk 406 hF (dtL_table_3 0 (378, .if_icmp .gt 28, 3) rfl) (by decide) (fun hF => ?_) (fun hF => ?_)
                          · exact r_sub hk [1, 2, 3, 4, 6, 7, 8, 9, 0] rfl (j406_65 hF)
                          · refine r_aload_n hk 1 (dtL_table_3 1 (381, .aload_n 0, 1) rfl) rfl ?_
                            refine r_iload hk 6 (dtL_table_3 2 (382, .iload 6, 2) rfl) rfl ?_
                            refine r_iload hk 9 (dtL_table_3 3 (384, .iload 9, 2) rfl) rfl ?_
                            refine r_iconst (v := 5) hk (dtL_table_3 4 (386, .iconst 5, 1) rfl) (by decide) ?_
                            refine r_callIts hk hF (fun c h => nomatch h) (fun R h hf H locs ls hH hS hl => runT_V (y := yX3_column) hk (in_main 0 (by decide)) rfl rfl (c_X3_column (kl K) hk.2.2.2.2.2.2.2.2.2.2.2 X  v25 v48 5 m0 R h) lk_L_28 me_X3_column yf_X3_column (by decide) (by decide) rfl (Nat.le_of_ble_eq_true rfl) rfl (dtL_table_3 5 (387, .invokevirtual 28, 3) rfl) hf hH hS hl) (fun v68 hF => ?_)
                            refine r_aload_n hk 1 (dtL_table_3 6 (390, .aload_n 0, 1) rfl) rfl ?_
                            refine r_iload hk 6 (dtL_table_3 7 (391, .iload 6, 2) rfl) rfl ?_
                            refine r_iload hk 9 (dtL_table_3 8 (393, .iload 9, 2) rfl) rfl ?_
                            refine r_iconst (v := 3) hk (dtL_table_3 9 (395, .iconst 3, 1) rfl) (by decide) ?_
                            refine r_callIts hk hF (fun c h => nomatch h) (fun R h hf H locs ls hH hS hl => runT_V (y := yX3_column) hk (in_main 0 (by decide)) rfl rfl (c_X3_column (kl K) hk.2.2.2.2.2.2.2.2.2.2.2 X  v25 v48 3 m0 R h) lk_L_28 me_X3_column yf_X3_column (by decide) (by decide) rfl (Nat.le_of_ble_eq_true rfl) rfl (dtL_table_3 10 (396, .invokevirtual 28, 3) rfl) hf hH hS hl) (fun v69 hF => ?_)
                            refine r_icmp_gt hk 406 hF (dtL_table_3 11 (399, .if_icmp .gt 7, 3) rfl) (by decide) (fun hF => ?_) (fun hF => ?_)
                            · exact r_sub hk [1, 2, 3, 4, 6, 7, 8, 9, 0] rfl (j406_65 hF)
                            · exact r_sub hk [1, 2, 3, 4, 6, 7, 8, 9, 0] rfl (j402_62 hF)
              exact r_sub hk [3, 4, 5, 6, 7, 8, 2, 1, 0] rfl (l50 fu v24 0 0 0 hF)
      exact r_sub hk [1, 2, 3, 4, 5, 0] rfl (l27 fu 0 0 0 v4 0 hF)
    have l74 : ∀ (n74 : Nat) (v70 : Int32) (v71 : Int32) (v72 : Int32), L_L_table_45 m0 n74 v70 v71 v72 = some rv → G X K 45 [(0, .ref (xad X (0, 0, 0, 0))), (1, .int 0), (2, .int 0), (3, .int 0), (4, .int v70), (5, .int v71), (6, .int v72)] [] m0 := by
      intro n74
      induction n74 with
      | zero => intro v70 v71 v72 hF; exact nomatch (show (none : Option Int32) = some rv from hF)
      | succ n74 ih74 =>
        intro v70 v71 v72 hF
        rw [L_L_table_45] at hF
        refine r_iload hk 6 (dtL_table_0 28 (45, .iload 6, 2) rfl) rfl ?_
        refine r_aload_n hk 0 (dtL_table_0 29 (47, .aload_n 0, 1) rfl) rfl ?_
        refine r_iconst (v := 1) hk (dtL_table_0 30 (48, .iconst 1, 1) rfl) (by decide) ?_
        refine r_callIts hk hF (fun c h => nomatch h) (fun R h hf H locs ls hH hS hl => runT_V (y := yX3_count) hk (in_main 0 (by decide)) rfl rfl (c_X3_count (kl K) hk.2.2.2.2.2.2.2.2.2.2.2 X  1 m0 R h) lk_L_17 me_X3_count yf_X3_count (by decide) (by decide) rfl (Nat.le_of_ble_eq_true rfl) rfl (dtL_table_0 31 (49, .invokevirtual 17, 3) rfl) hf hH hS hl) (fun v75 hF => ?_)
        refine r_icmp_ge hk 300 hF (dtL_table_0 32 (52, .if_icmp .ge 248, 3) rfl) (by decide) (fun hF => ?_) (fun hF => ?_)
        · exact r_sub hk [0, 1, 2, 3, 4] rfl (e300_5 v70 hF)
        · refine r_iload hk 4 (dtL_table_0 33 (55, .iload 4, 2) rfl) rfl ?_
          refine r_if_eq hk 300 hF (dtL_table_0 34 (57, .ifCond .eq 243, 3) rfl) (by decide) (fun hF => ?_) (fun hF => ?_)
          · exact r_sub hk [0, 1, 2, 3, 4] rfl (e300_5 v70 hF)
          · refine r_aload_n hk 0 (dtL_table_0 35 (60, .aload_n 0, 1) rfl) rfl ?_
            refine r_iload hk 6 (dtL_table_0 36 (61, .iload 6, 2) rfl) rfl ?_
            refine r_iconst (v := 0) hk (dtL_table_0 37 (63, .iconst 0, 1) rfl) (by decide) ?_
            refine r_callIts hk hF (fun c h => nomatch h) (fun R h hf H locs ls hH hS hl => runT_V (y := yX3_rowOf) hk (in_main 0 (by decide)) rfl rfl (c_X3_rowOf (kl K) hk.2.2.2.2.2.2.2.2.2.2.2 X  v72 0 m0 R h) lk_L_21 me_X3_rowOf yf_X3_rowOf (by decide) (by decide) rfl (Nat.le_of_ble_eq_true rfl) rfl (dtL_table_0 38 (64, .invokevirtual 21, 3) rfl) hf hH hS hl) (fun v76 hF => ?_)
            refine r_istore hk [(7, .int v76), (0, .ref (xad X (0, 0, 0, 0))), (1, .int 0), (2, .int 0), (3, .int 0), (4, .int v70), (5, .int v71), (6, .int v72)] (dtL_table_0 39 (67, .istore 7, 2) rfl) (by decide) rfl ?_
            refine r_aload_n hk 1 (dtL_table_0 40 (69, .aload_n 0, 1) rfl) rfl ?_
            refine r_iload hk 0 (dtL_table_0 41 (70, .iload 7, 2) rfl) rfl ?_
            refine r_iconst (v := 4) hk (dtL_table_0 42 (72, .iconst 4, 1) rfl) (by decide) ?_
            refine r_callIts hk hF (fun c h => nomatch h) (fun R h hf H locs ls hH hS hl => runT_V (y := yX3_tenant) hk (in_main 0 (by decide)) rfl rfl (c_X3_tenant (kl K) hk.2.2.2.2.2.2.2.2.2.2.2 X  v76 4 m0 R h) lk_L_25 me_X3_tenant yf_X3_tenant (by decide) (by decide) rfl (Nat.le_of_ble_eq_true rfl) rfl (dtL_table_0 43 (73, .invokevirtual 25, 3) rfl) hf hH hS hl) (fun v77 hF => ?_)
            refine r_iconst (v := 1) hk (dtL_table_0 44 (76, .iconst 1, 1) rfl) (by decide) ?_
            have j86_79 : ∀ (v78 : Int32), (J_L_table_86 m0 v70 v71 v72 (fun w0 w1 w2 => L_L_table_45 m0 n74 w0 w1 w2) v76) v78 = some rv → G X K 86 [(0, .ref (xad X (0, 0, 0, 0))), (1, .int 0), (2, .int 0), (3, .int 0), (4, .int v70), (5, .int v71), (6, .int v72), (7, .int v76)] [.int v78] m0 := by
              intro v78 hF
              unfold J_L_table_86 at hF
              refine r_istore hk [(8, .int v78), (0, .ref (xad X (0, 0, 0, 0))), (1, .int 0), (2, .int 0), (3, .int 0), (4, .int v70), (5, .int v71), (6, .int v72), (7, .int v76)] (dtL_table_0 49 (86, .istore 8, 2) rfl) (by decide) rfl ?_
              refine r_iconst (v := 0) hk (dtL_table_0 50 (88, .iconst 0, 1) rfl) (by decide) ?_
              refine r_istore hk [(9, .int 0), (8, .int v78), (0, .ref (xad X (0, 0, 0, 0))), (1, .int 0), (2, .int 0), (3, .int 0), (4, .int v70), (5, .int v71), (6, .int v72), (7, .int v76)] (dtL_table_0 51 (89, .istore 9, 2) rfl) (by decide) rfl ?_
              refine r_iconst (v := 0) hk (dtL_table_0 52 (91, .iconst 0, 1) rfl) (by decide) ?_
              refine r_istore hk [(10, .int 0), (9, .int 0), (8, .int v78), (0, .ref (xad X (0, 0, 0, 0))), (1, .int 0), (2, .int 0), (3, .int 0), (4, .int v70), (5, .int v71), (6, .int v72), (7, .int v76)] (dtL_table_0 53 (92, .istore 10, 2) rfl) (by decide) rfl ?_
              have e229_82 : ∀ (v80 : Int32) (v81 : Int32), (C_L_table_229 m0 v71 v72 (fun w0 w1 w2 => L_L_table_45 m0 n74 w0 w1 w2) v78) v80 v81 = some rv → G X K 229 [(0, .ref (xad X (0, 0, 0, 0))), (1, .int 0), (2, .int 0), (3, .int 0), (4, .int v80), (5, .int v71), (6, .int v72), (8, .int v78), (9, .int v81)] [] m0 := by
                intro v80 v81 hF
                unfold C_L_table_229 at hF
                refine r_iload hk 4 (dtL_table_1 52 (229, .iload 4, 2) rfl) rfl ?_
                have j288_84 : ∀ (v83 : Int32), (J_L_table_288 v72 (fun w0 w1 w2 => L_L_table_45 m0 n74 w0 w1 w2) v78) v83 = some rv → G X K 288 [(0, .ref (xad X (0, 0, 0, 0))), (1, .int 0), (2, .int 0), (3, .int 0), (6, .int v72), (8, .int v78)] [.int v83] m0 := by
                  intro v83 hF
                  unfold J_L_table_288 at hF
                  refine r_istore hk [(4, .int v83), (0, .ref (xad X (0, 0, 0, 0))), (1, .int 0), (2, .int 0), (3, .int 0), (6, .int v72), (8, .int v78)] (dtL_table_2 17 (288, .istore 4, 2) rfl) (by decide) rfl ?_
                  refine r_iload hk 6 (dtL_table_2 18 (290, .iload 8, 2) rfl) rfl ?_
                  refine r_istore hk [(5, .int v78), (4, .int v83), (0, .ref (xad X (0, 0, 0, 0))), (1, .int 0), (2, .int 0), (3, .int 0), (6, .int v72), (8, .int v78)] (dtL_table_2 19 (292, .istore 5, 2) rfl) (by decide) rfl ?_
                  refine r_iinc hk 1 6 (fun v85 => [(6, .int v85), (5, .int v78), (4, .int v83), (0, .ref (xad X (0, 0, 0, 0))), (1, .int 0), (2, .int 0), (3, .int 0), (8, .int v78)]) hF (dtL_table_2 20 (294, .iinc 6 1, 3) rfl) rfl (by decide) (by decide) (fun _ => rfl) (fun v85 hF => ?_)
                  refine r_goto hk 45 (dtL_table_2 21 (297, .goto (-252), 3) rfl) (by decide) ?_
                  exact r_sub hk [3, 4, 5, 6, 2, 1, 0] rfl (ih74 v83 v78 v85 hF)
                have j287_86 : (J_L_table_287 v72 (fun w0 w1 w2 => L_L_table_45 m0 n74 w0 w1 w2) v78) = some rv → G X K 287 [(0, .ref (xad X (0, 0, 0, 0))), (1, .int 0), (2, .int 0), (3, .int 0), (6, .int v72), (8, .int v78)] [] m0 := by
                  intro hF
                  unfold J_L_table_287 at hF
                  refine r_iconst (v := 0) hk (dtL_table_2 16 (287, .iconst 0, 1) rfl) (by decide) ?_
                  exact r_sub hk [0, 1, 2, 3, 4, 5] rfl (j288_84 0 hF)
                refine r_if_eq hk 287 hF (dtL_table_1 53 (231, .ifCond .eq 56, 3) rfl) (by decide) (fun hF => ?_) (fun hF => ?_)
                · exact r_sub hk [0, 1, 2, 3, 6, 7] rfl (j287_86 hF)
                · refine r_aload_n hk 0 (dtL_table_1 54 (234, .aload_n 0, 1) rfl) rfl ?_
                  refine r_iload hk 6 (dtL_table_1 55 (235, .iload 6, 2) rfl) rfl ?_
                  refine r_bipush (v := 9) hk (dtL_table_1 56 (237, .bipush 9, 2) rfl) (by decide) ?_
                  refine r_callIts hk hF (fun c h => nomatch h) (fun R h hf H locs ls hH hS hl => runT_V (y := yX3_rowOf) hk (in_main 0 (by decide)) rfl rfl (c_X3_rowOf (kl K) hk.2.2.2.2.2.2.2.2.2.2.2 X  v72 9 m0 R h) lk_L_21 me_X3_rowOf yf_X3_rowOf (by decide) (by decide) rfl (Nat.le_of_ble_eq_true rfl) rfl (dtL_table_1 57 (239, .invokevirtual 21, 3) rfl) hf hH hS hl) (fun v87 hF => ?_)
                  refine r_iload hk 8 (dtL_table_1 58 (242, .iload 9, 2) rfl) rfl ?_
                  refine r_icmp_ne hk 287 hF (dtL_table_1 59 (244, .if_icmp .ne 43, 3) rfl) (by decide) (fun hF => ?_) (fun hF => ?_)
                  · exact r_sub hk [0, 1, 2, 3, 6, 7] rfl (j287_86 hF)
                  · refine r_iload hk 7 (dtL_table_1 60 (247, .iload 8, 2) rfl) rfl ?_
                    refine r_iload hk 5 (dtL_table_1 61 (249, .iload 5, 2) rfl) rfl ?_
                    refine r_icmp_lt hk 287 hF (dtL_table_1 62 (251, .if_icmp .lt 36, 3) rfl) (by decide) (fun hF => ?_) (fun hF => ?_)
                    · exact r_sub hk [0, 1, 2, 3, 6, 7] rfl (j287_86 hF)
                    · refine r_iload hk 7 (dtL_table_1 63 (254, .iload 8, 2) rfl) rfl ?_
                      refine r_iconst (v := (-1)) hk (dtL_table_2 0 (256, .iconst (-1), 1) rfl) (by decide) ?_
                      have j265_89 : ∀ (v88 : Int32), (J_L_table_265 m0 v72 (fun w0 w1 w2 => L_L_table_45 m0 n74 w0 w1 w2) v78) v88 = some rv → G X K 265 [(0, .ref (xad X (0, 0, 0, 0))), (1, .int 0), (2, .int 0), (3, .int 0), (6, .int v72), (8, .int v78)] [.int v88] m0 := by
                        intro v88 hF
                        unfold J_L_table_265 at hF
                        refine r_iload hk 4 (dtL_table_2 5 (265, .iload 6, 2) rfl) rfl ?_
                        refine r_aload_n hk 0 (dtL_table_2 6 (267, .aload_n 0, 1) rfl) rfl ?_
                        refine r_iconst (v := 0) hk (dtL_table_2 7 (268, .iconst 0, 1) rfl) (by decide) ?_
                        refine r_callIts hk hF (fun c h => nomatch h) (fun R h hf H locs ls hH hS hl => runT_V (y := yX3_count) hk (in_main 0 (by decide)) rfl rfl (c_X3_count (kl K) hk.2.2.2.2.2.2.2.2.2.2.2 X  0 m0 R h) lk_L_17 me_X3_count yf_X3_count (by decide) (by decide) rfl (Nat.le_of_ble_eq_true rfl) rfl (dtL_table_2 8 (269, .invokevirtual 17, 3) rfl) hf hH hS hl) (fun v90 hF => ?_)
                        have j280_92 : ∀ (v91 : Int32), (J_L_table_280 v72 (fun w0 w1 w2 => L_L_table_45 m0 n74 w0 w1 w2) v78 v88) v91 = some rv → G X K 280 [(0, .ref (xad X (0, 0, 0, 0))), (1, .int 0), (2, .int 0), (3, .int 0), (6, .int v72), (8, .int v78)] [.int v91, .int v88] m0 := by
                          intro v91 hF
                          unfold J_L_table_280 at hF
                          refine r_icmp_ne hk 287 hF (dtL_table_2 13 (280, .if_icmp .ne 7, 3) rfl) (by decide) (fun hF => ?_) (fun hF => ?_)
                          · exact r_sub hk [0, 1, 2, 3, 4, 5] rfl (j287_86 hF)
                          · refine r_iconst (v := 1) hk (dtL_table_2 14 (283, .iconst 1, 1) rfl) (by decide) ?_
                            refine r_goto hk 288 (dtL_table_2 15 (284, .goto 4, 3) rfl) (by decide) ?_
                            exact r_sub hk [0, 1, 2, 3, 4, 5] rfl (j288_84 1 hF)
                        refine r_icmp_ge hk 279 hF (dtL_table_2 9 (272, .if_icmp .ge 7, 3) rfl) (by decide) (fun hF => ?_) (fun hF => ?_)
                        · refine r_iconst (v := 0) hk (dtL_table_2 12 (279, .iconst 0, 1) rfl) (by decide) ?_
                          exact r_sub hk [0, 1, 2, 3, 4, 5] rfl (j280_92 0 hF)
                        · refine r_iconst (v := 1) hk (dtL_table_2 10 (275, .iconst 1, 1) rfl) (by decide) ?_
                          refine r_goto hk 280 (dtL_table_2 11 (276, .goto 4, 3) rfl) (by decide) ?_
                          exact r_sub hk [0, 1, 2, 3, 4, 5] rfl (j280_92 1 hF)
                      refine r_icmp_ne hk 264 hF (dtL_table_2 1 (257, .if_icmp .ne 7, 3) rfl) (by decide) (fun hF => ?_) (fun hF => ?_)
                      · refine r_iconst (v := 0) hk (dtL_table_2 4 (264, .iconst 0, 1) rfl) (by decide) ?_
                        exact r_sub hk [0, 1, 2, 3, 6, 7] rfl (j265_89 0 hF)
                      · refine r_iconst (v := 1) hk (dtL_table_2 2 (260, .iconst 1, 1) rfl) (by decide) ?_
                        refine r_goto hk 265 (dtL_table_2 3 (261, .goto 4, 3) rfl) (by decide) ?_
                        exact r_sub hk [0, 1, 2, 3, 6, 7] rfl (j265_89 1 hF)
              have l97 : ∀ (n97 : Nat) (v93 : Int32) (v94 : Int32) (v95 : Int32), L_L_table_94 m0 v71 v72 (fun w0 w1 w2 => L_L_table_45 m0 n74 w0 w1 w2) v76 v78 n97 v93 v94 v95 = some rv → G X K 94 [(0, .ref (xad X (0, 0, 0, 0))), (1, .int 0), (2, .int 0), (3, .int 0), (4, .int v93), (5, .int v71), (6, .int v72), (7, .int v76), (8, .int v78), (9, .int v94), (10, .int v95)] [] m0 := by
                intro n97
                induction n97 with
                | zero => intro v93 v94 v95 hF; exact nomatch (show (none : Option Int32) = some rv from hF)
                | succ n97 ih97 =>
                  intro v93 v94 v95 hF
                  rw [L_L_table_94] at hF
                  refine r_iload hk 10 (dtL_table_0 54 (94, .iload 10, 2) rfl) rfl ?_
                  refine r_bipush (v := 8) hk (dtL_table_0 55 (96, .bipush 8, 2) rfl) (by decide) ?_
                  refine r_icmp_ge hk 229 hF (dtL_table_0 56 (98, .if_icmp .ge 131, 3) rfl) (by decide) (fun hF => ?_) (fun hF => ?_)
                  · exact r_sub hk [0, 1, 2, 3, 4, 5, 6, 8, 9] rfl (e229_82 v93 v94 hF)
                  · refine r_iload hk 4 (dtL_table_0 57 (101, .iload 4, 2) rfl) rfl ?_
                    refine r_if_eq hk 229 hF (dtL_table_0 58 (103, .ifCond .eq 126, 3) rfl) (by decide) (fun hF => ?_) (fun hF => ?_)
                    · exact r_sub hk [0, 1, 2, 3, 4, 5, 6, 8, 9] rfl (e229_82 v93 v94 hF)
                    · refine r_aload_n hk 0 (dtL_table_0 59 (106, .aload_n 0, 1) rfl) rfl ?_
                      refine r_iload hk 6 (dtL_table_0 60 (107, .iload 6, 2) rfl) rfl ?_
                      refine r_iconst (v := 1) hk (dtL_table_0 61 (109, .iconst 1, 1) rfl) (by decide) ?_
                      refine r_iload hk 10 (dtL_table_0 62 (110, .iload 10, 2) rfl) rfl ?_
                      refine r_iadd hk hF (dtL_table_0 63 (112, .iadd, 1) rfl) (fun v98 hF => ?_)
                      refine r_callIts hk hF (fun c h => nomatch h) (fun R h hf H locs ls hH hS hl => runT_V (y := yX3_rowOf) hk (in_main 0 (by decide)) rfl rfl (c_X3_rowOf (kl K) hk.2.2.2.2.2.2.2.2.2.2.2 X  v72 v98 m0 R h) lk_L_21 me_X3_rowOf yf_X3_rowOf (by decide) (by decide) rfl (Nat.le_of_ble_eq_true rfl) rfl (dtL_table_1 0 (113, .invokevirtual 21, 3) rfl) hf hH hS hl) (fun v99 hF => ?_)
                      refine r_istore hk [(11, .int v99), (0, .ref (xad X (0, 0, 0, 0))), (1, .int 0), (2, .int 0), (3, .int 0), (4, .int v93), (5, .int v71), (6, .int v72), (7, .int v76), (8, .int v78), (9, .int v94), (10, .int v95)] (dtL_table_1 1 (116, .istore 11, 2) rfl) (by decide) rfl ?_
                      refine r_aload_n hk 1 (dtL_table_1 2 (118, .aload_n 0, 1) rfl) rfl ?_
                      refine r_iload hk 8 (dtL_table_1 3 (119, .iload 7, 2) rfl) rfl ?_
                      refine r_iload hk 11 (dtL_table_1 4 (121, .iload 10, 2) rfl) rfl ?_
                      refine r_iconst (v := 1) hk (dtL_table_1 5 (123, .iconst 1, 1) rfl) (by decide) ?_
                      refine r_callIts hk hF (fun c h => nomatch h) (fun R h hf H locs ls hH hS hl => runT_V (y := yX3_column) hk (in_main 0 (by decide)) rfl rfl (c_X3_column (kl K) hk.2.2.2.2.2.2.2.2.2.2.2 X  v76 v95 1 m0 R h) lk_L_28 me_X3_column yf_X3_column (by decide) (by decide) rfl (Nat.le_of_ble_eq_true rfl) rfl (dtL_table_1 6 (124, .invokevirtual 28, 3) rfl) hf hH hS hl) (fun v100 hF => ?_)
                      refine r_istore hk [(12, .int v100), (11, .int v99), (0, .ref (xad X (0, 0, 0, 0))), (1, .int 0), (2, .int 0), (3, .int 0), (4, .int v93), (5, .int v71), (6, .int v72), (7, .int v76), (8, .int v78), (9, .int v94), (10, .int v95)] (dtL_table_1 7 (127, .istore 12, 2) rfl) (by decide) rfl ?_
                      refine r_iload hk 11 (dtL_table_1 8 (129, .iload 9, 2) rfl) rfl ?_
                      refine r_iload hk 1 (dtL_table_1 9 (131, .iload 11, 2) rfl) rfl ?_
                      refine r_iconst (v := (-1)) hk (dtL_table_1 10 (133, .iconst (-1), 1) rfl) (by decide) ?_
                      have j142_102 : ∀ (v101 : Int32), (J_L_table_142 v94 v95 (fun w0 w1 w2 => L_L_table_94 m0 v71 v72 (fun w0 w1 w2 => L_L_table_45 m0 n74 w0 w1 w2) v76 v78 n97 w0 w1 w2) v99 v100) v101 = some rv → G X K 142 [(0, .ref (xad X (0, 0, 0, 0))), (1, .int 0), (2, .int 0), (3, .int 0), (5, .int v71), (6, .int v72), (7, .int v76), (8, .int v78), (10, .int v95), (11, .int v99), (12, .int v100)] [.int v101, .int v94] m0 := by
                        intro v101 hF
                        unfold J_L_table_142 at hF
                        refine r_iadd hk hF (dtL_table_1 15 (142, .iadd, 1) rfl) (fun v103 hF => ?_)
                        refine r_istore hk [(9, .int v103), (0, .ref (xad X (0, 0, 0, 0))), (1, .int 0), (2, .int 0), (3, .int 0), (5, .int v71), (6, .int v72), (7, .int v76), (8, .int v78), (10, .int v95), (11, .int v99), (12, .int v100)] (dtL_table_1 16 (143, .istore 9, 2) rfl) (by decide) rfl ?_
                        refine r_iload hk 10 (dtL_table_1 17 (145, .iload 11, 2) rfl) rfl ?_
                        refine r_iconst (v := (-1)) hk (dtL_table_1 18 (147, .iconst (-1), 1) rfl) (by decide) ?_
                        have j221_105 : ∀ (v104 : Int32), (J_L_table_221 v95 (fun w0 w1 w2 => L_L_table_94 m0 v71 v72 (fun w0 w1 w2 => L_L_table_45 m0 n74 w0 w1 w2) v76 v78 n97 w0 w1 w2) v103) v104 = some rv → G X K 221 [(0, .ref (xad X (0, 0, 0, 0))), (1, .int 0), (2, .int 0), (3, .int 0), (5, .int v71), (6, .int v72), (7, .int v76), (8, .int v78), (9, .int v103), (10, .int v95)] [.int v104] m0 := by
                          intro v104 hF
                          unfold J_L_table_221 at hF
                          refine r_istore hk [(4, .int v104), (0, .ref (xad X (0, 0, 0, 0))), (1, .int 0), (2, .int 0), (3, .int 0), (5, .int v71), (6, .int v72), (7, .int v76), (8, .int v78), (9, .int v103), (10, .int v95)] (dtL_table_1 49 (221, .istore 4, 2) rfl) (by decide) rfl ?_
                          refine r_iinc hk 1 10 (fun v106 => [(10, .int v106), (4, .int v104), (0, .ref (xad X (0, 0, 0, 0))), (1, .int 0), (2, .int 0), (3, .int 0), (5, .int v71), (6, .int v72), (7, .int v76), (8, .int v78), (9, .int v103)]) hF (dtL_table_1 50 (223, .iinc 10 1, 3) rfl) rfl (by decide) (by decide) (fun _ => rfl) (fun v106 hF => ?_)
                          refine r_goto hk 94 (dtL_table_1 51 (226, .goto (-132), 3) rfl) (by decide) ?_
                          exact r_sub hk [2, 3, 4, 5, 1, 6, 7, 8, 9, 10, 0] rfl (ih97 v104 v103 v106 hF)
                        have j216_107 : (J_L_table_216 v95 (fun w0 w1 w2 => L_L_table_94 m0 v71 v72 (fun w0 w1 w2 => L_L_table_45 m0 n74 w0 w1 w2) v76 v78 n97 w0 w1 w2) v103) = some rv → G X K 216 [(0, .ref (xad X (0, 0, 0, 0))), (1, .int 0), (2, .int 0), (3, .int 0), (5, .int v71), (6, .int v72), (7, .int v76), (8, .int v78), (9, .int v103), (10, .int v95)] [] m0 := by
                          intro hF
                          unfold J_L_table_216 at hF
                          refine r_iconst (v := 1) hk (dtL_table_1 46 (216, .iconst 1, 1) rfl) (by decide) ?_
                          refine r_goto hk 221 (dtL_table_1 47 (217, .goto 4, 3) rfl) (by decide) ?_
                          exact r_sub hk [0, 1, 2, 3, 4, 5, 6, 7, 8, 9] rfl (j221_105 1 hF)
                        refine r_icmp_eq hk 216 hF (dtL_table_1 19 (148, .if_icmp .eq 68, 3) rfl) (by decide) (fun hF => ?_) (fun hF => ?_)
                        · exact r_sub hk [1, 2, 3, 4, 5, 6, 7, 8, 0, 9] rfl (j216_107 hF)
                        · refine r_iload hk 11 (dtL_table_1 20 (151, .iload 12, 2) rfl) rfl ?_
                          have j172_108 : (J_L_table_172 v95 (fun w0 w1 w2 => L_L_table_94 m0 v71 v72 (fun w0 w1 w2 => L_L_table_45 m0 n74 w0 w1 w2) v76 v78 n97 w0 w1 w2) v99 v100 v103) = some rv → G X K 172 [(0, .ref (xad X (0, 0, 0, 0))), (1, .int 0), (2, .int 0), (3, .int 0), (5, .int v71), (6, .int v72), (7, .int v76), (8, .int v78), (9, .int v103), (10, .int v95), (11, .int v99), (12, .int v100)] [] m0 := by
                            intro hF
                            unfold J_L_table_172 at hF
                            refine r_iload hk 11 (dtL_table_1 28 (172, .iload 12, 2) rfl) rfl ?_
                            refine r_iconst (v := 1) hk (dtL_table_1 29 (174, .iconst 1, 1) rfl) (by decide) ?_
                            have j194_109 : (J_L_table_194 v95 (fun w0 w1 w2 => L_L_table_94 m0 v71 v72 (fun w0 w1 w2 => L_L_table_45 m0 n74 w0 w1 w2) v76 v78 n97 w0 w1 w2) v99 v100 v103) = some rv → G X K 194 [(0, .ref (xad X (0, 0, 0, 0))), (1, .int 0), (2, .int 0), (3, .int 0), (5, .int v71), (6, .int v72), (7, .int v76), (8, .int v78), (9, .int v103), (10, .int v95), (11, .int v99), (12, .int v100)] [] m0 := by
                              intro hF
                              unfold J_L_table_194 at hF
                              refine r_iload hk 11 (dtL_table_1 37 (194, .iload 12, 2) rfl) rfl ?_
                              refine r_iconst (v := 2) hk (dtL_table_1 38 (196, .iconst 2, 1) rfl) (by decide) ?_
                              have j220_110 : (J_L_table_220 v95 (fun w0 w1 w2 => L_L_table_94 m0 v71 v72 (fun w0 w1 w2 => L_L_table_45 m0 n74 w0 w1 w2) v76 v78 n97 w0 w1 w2) v103) = some rv → G X K 220 [(0, .ref (xad X (0, 0, 0, 0))), (1, .int 0), (2, .int 0), (3, .int 0), (5, .int v71), (6, .int v72), (7, .int v76), (8, .int v78), (9, .int v103), (10, .int v95)] [] m0 := by
                                intro hF
                                unfold J_L_table_220 at hF
                                refine r_iconst (v := 0) hk (dtL_table_1 48 (220, .iconst 0, 1) rfl) (by decide) ?_
                                exact r_sub hk [0, 1, 2, 3, 4, 5, 6, 7, 8, 9] rfl (j221_105 0 hF)
                              refine r_icmp_ne hk 220 hF (dtL_table_1 39 (197, .if_icmp .ne 23, 3) rfl) (by decide) (fun hF => ?_) (fun hF => ?_)
                              · exact r_sub hk [0, 1, 2, 3, 4, 5, 6, 7, 8, 9] rfl (j220_110 hF)
                              · refine r_iload hk 10 (dtL_table_1 40 (200, .iload 11, 2) rfl) rfl ?_
                                refine r_sipush (v := 10000) hk (dtL_table_1 41 (202, .sipush 10000, 3) rfl) (by decide) ?_
                                refine r_icmp_lt hk 220 hF (dtL_table_1 42 (205, .if_icmp .lt 15, 3) rfl) (by decide) (fun hF => ?_) (fun hF => ?_)
                                · exact r_sub hk [0, 1, 2, 3, 4, 5, 6, 7, 8, 9] rfl (j220_110 hF)
                                · refine r_iload hk 10 (dtL_table_1 43 (208, .iload 11, 2) rfl) rfl ?_
                                  refine r_sipush (v := 13650) hk (dtL_table_1 44 (210, .sipush 13650, 3) rfl) (by decide) ?_
                                  refine r_icmp_gt hk 220 hF (dtL_table_1 45 (213, .if_icmp .gt 7, 3) rfl) (by decide) (fun hF => ?_) (fun hF => ?_)
                                  · exact r_sub hk [0, 1, 2, 3, 4, 5, 6, 7, 8, 9] rfl (j220_110 hF)
                                  · exact r_sub hk [0, 1, 2, 3, 4, 5, 6, 7, 8, 9] rfl (j216_107 hF)
                            refine r_icmp_ne hk 194 hF (dtL_table_1 30 (175, .if_icmp .ne 19, 3) rfl) (by decide) (fun hF => ?_) (fun hF => ?_)
                            · exact r_sub hk [0, 1, 2, 3, 4, 5, 6, 7, 8, 9, 10, 11] rfl (j194_109 hF)
                            · refine r_iload hk 10 (dtL_table_1 31 (178, .iload 11, 2) rfl) rfl ?_
                              refine r_sipush (v := 10000) hk (dtL_table_1 32 (180, .sipush 10000, 3) rfl) (by decide) ?_
                              refine r_icmp_lt hk 194 hF (dtL_table_1 33 (183, .if_icmp .lt 11, 3) rfl) (by decide) (fun hF => ?_) (fun hF => ?_)
                              · exact r_sub hk [0, 1, 2, 3, 4, 5, 6, 7, 8, 9, 10, 11] rfl (j194_109 hF)
                              · refine r_iload hk 10 (dtL_table_1 34 (186, .iload 11, 2) rfl) rfl ?_
                                refine r_sipush (v := 10001) hk (dtL_table_1 35 (188, .sipush 10001, 3) rfl) (by decide) ?_
                                refine r_icmp_le hk 216 hF (dtL_table_1 36 (191, .if_icmp .le 25, 3) rfl) (by decide) (fun hF => ?_) (fun hF => ?_)
                                · exact r_sub hk [0, 1, 2, 3, 4, 5, 6, 7, 8, 9] rfl (j216_107 hF)
                                · exact r_sub hk [0, 1, 2, 3, 4, 5, 6, 7, 8, 9, 10, 11] rfl (j194_109 hF)
                          refine r_if_ne hk 172 hF (dtL_table_1 21 (153, .ifCond .ne 19, 3) rfl) (by decide) (fun hF => ?_) (fun hF => ?_)
                          · exact r_sub hk [1, 2, 3, 4, 5, 6, 7, 8, 0, 9, 10, 11] rfl (j172_108 hF)
                          · refine r_iload hk 10 (dtL_table_1 22 (156, .iload 11, 2) rfl) rfl ?_
                            refine r_sipush (v := 9001) hk (dtL_table_1 23 (158, .sipush 9001, 3) rfl) (by decide) ?_
                            refine r_icmp_lt hk 172 hF (dtL_table_1 24 (161, .if_icmp .lt 11, 3) rfl) (by decide) (fun hF => ?_) (fun hF => ?_)
                            · exact r_sub hk [1, 2, 3, 4, 5, 6, 7, 8, 0, 9, 10, 11] rfl (j172_108 hF)
                            · refine r_iload hk 10 (dtL_table_1 25 (164, .iload 11, 2) rfl) rfl ?_
                              refine r_sipush (v := 10999) hk (dtL_table_1 26 (166, .sipush 10999, 3) rfl) (by decide) ?_
                              refine r_icmp_le hk 216 hF (dtL_table_1 27 (169, .if_icmp .le 47, 3) rfl) (by decide) (fun hF => ?_) (fun hF => ?_)
                              · exact r_sub hk [1, 2, 3, 4, 5, 6, 7, 8, 0, 9] rfl (j216_107 hF)
                              · exact r_sub hk [1, 2, 3, 4, 5, 6, 7, 8, 0, 9, 10, 11] rfl (j172_108 hF)
                      refine r_icmp_ne hk 141 hF (dtL_table_1 11 (134, .if_icmp .ne 7, 3) rfl) (by decide) (fun hF => ?_) (fun hF => ?_)
                      · refine r_iconst (v := 1) hk (dtL_table_1 14 (141, .iconst 1, 1) rfl) (by decide) ?_
                        exact r_sub hk [2, 3, 4, 5, 7, 8, 9, 10, 12, 1, 0] rfl (j142_102 1 hF)
                      · refine r_iconst (v := 0) hk (dtL_table_1 12 (137, .iconst 0, 1) rfl) (by decide) ?_
                        refine r_goto hk 142 (dtL_table_1 13 (138, .goto 4, 3) rfl) (by decide) ?_
                        exact r_sub hk [2, 3, 4, 5, 7, 8, 9, 10, 12, 1, 0] rfl (j142_102 0 hF)
              exact r_sub hk [3, 4, 5, 6, 7, 8, 9, 10, 2, 1, 0] rfl (l97 fu v70 0 0 hF)
            refine r_icmp_ne hk 85 hF (dtL_table_0 45 (77, .if_icmp .ne 8, 3) rfl) (by decide) (fun hF => ?_) (fun hF => ?_)
            · refine r_iconst (v := (-1)) hk (dtL_table_0 48 (85, .iconst (-1), 1) rfl) (by decide) ?_
              exact r_sub hk [1, 2, 3, 4, 5, 6, 7, 0] rfl (j86_79 (-1) hF)
            · refine r_iload hk 0 (dtL_table_0 46 (80, .iload 7, 2) rfl) rfl ?_
              refine r_goto hk 86 (dtL_table_0 47 (82, .goto 4, 3) rfl) (by decide) ?_
              exact r_sub hk [1, 2, 3, 4, 5, 6, 7, 0] rfl (j86_79 v76 hF)
    exact r_sub hk [3, 4, 5, 6, 2, 1, 0] rfl (l74 fu v2 (-1) 0 hF)
  have j36_111 : (J_L_table_36 m0) = some rv → G X K 36 [(0, .ref (xad X (0, 0, 0, 0))), (1, .int 0), (2, .int 0), (3, .int 0)] [] m0 := by
    intro hF
    unfold J_L_table_36 at hF
    refine r_iconst (v := 0) hk (dtL_table_0 22 (36, .iconst 0, 1) rfl) (by decide) ?_
    exact r_sub hk [0, 1, 2, 3] rfl (j37_3 0 hF)
  refine r_icmp_gt hk 36 hF (dtL_table_0 10 (13, .if_icmp .gt 23, 3) rfl) (by decide) (fun hF => ?_) (fun hF => ?_)
  · exact r_sub hk [3, 2, 1, 0] rfl (j36_111 hF)
  · refine r_aload_n hk 3 (dtL_table_0 11 (16, .aload_n 0, 1) rfl) rfl ?_
    refine r_iconst (v := 3) hk (dtL_table_0 12 (17, .iconst 3, 1) rfl) (by decide) ?_
    refine r_callIts hk hF (fun c h => nomatch h) (fun R h hf H locs ls hH hS hl => runT_V (y := yX3_count) hk (in_main 0 (by decide)) rfl rfl (c_X3_count (kl K) hk.2.2.2.2.2.2.2.2.2.2.2 X  3 m0 R h) lk_L_17 me_X3_count yf_X3_count (by decide) (by decide) rfl (Nat.le_of_ble_eq_true rfl) rfl (dtL_table_0 13 (18, .invokevirtual 17, 3) rfl) hf hH hS hl) (fun v112 hF => ?_)
    refine r_aload_n hk 3 (dtL_table_0 14 (21, .aload_n 0, 1) rfl) rfl ?_
    refine r_iconst (v := 4) hk (dtL_table_0 15 (22, .iconst 4, 1) rfl) (by decide) ?_
    refine r_callIts hk hF (fun c h => nomatch h) (fun R h hf H locs ls hH hS hl => runT_V (y := yX3_count) hk (in_main 0 (by decide)) rfl rfl (c_X3_count (kl K) hk.2.2.2.2.2.2.2.2.2.2.2 X  4 m0 R h) lk_L_17 me_X3_count yf_X3_count (by decide) (by decide) rfl (Nat.le_of_ble_eq_true rfl) rfl (dtL_table_0 16 (23, .invokevirtual 17, 3) rfl) hf hH hS hl) (fun v113 hF => ?_)
    refine r_iadd hk hF (dtL_table_0 17 (26, .iadd, 1) rfl) (fun v114 hF => ?_)
    refine r_bipush (v := 8) hk (dtL_table_0 18 (27, .bipush 8, 2) rfl) (by decide) ?_
    refine r_icmp_gt hk 36 hF (dtL_table_0 19 (29, .if_icmp .gt 7, 3) rfl) (by decide) (fun hF => ?_) (fun hF => ?_)
    · exact r_sub hk [3, 2, 1, 0] rfl (j36_111 hF)
    · refine r_iconst (v := 1) hk (dtL_table_0 20 (32, .iconst 1, 1) rfl) (by decide) ?_
      refine r_goto hk 37 (dtL_table_0 21 (33, .goto 4, 3) rfl) (by decide) ?_
      exact r_sub hk [3, 2, 1, 0] rfl (j37_3 1 hF)
def J_L_asks_230  (v21 : Int32) (m22 : Mem) : Option (Int32 × Mem) :=
  bm (F_X3_clearBuffer m22) fun v24 m25 => ck (isB v21) (some (v21, m25))
def J_L_asks_229  (m26 : Mem) : Option (Int32 × Mem) :=
  J_L_asks_230 0 m26
def J_L_asks_225  (m36 : Mem) : Option (Int32 × Mem) :=
  J_L_asks_230 1 m36
def C_L_asks_127 (p2 : Int32) (v14 : Int32) (v15 : Int32) (m16 : Mem) : Option (Int32 × Mem) :=
  btm (F_X3_looked p2 0 m16) (fun _ _ => none) fun v18 m19 => bts (F_X3_tenant p2 6 m19) (fun _ => none) fun v20 => (if v15 = 0 then J_L_asks_229 m19 else btm (F_X3_ask p2 m19) (fun _ _ => none) fun v28 m29 => (if v28 = v14 then bts (F_X3_tenant p2 6 m29) (fun _ => none) fun v30 => bd (v20 + v18) fun v31 => (if v30 = v31 then (if v18 < v14 then J_L_asks_229 m29 else btm (F_X3_looked p2 1 m29) (fun _ _ => none) fun v32 m33 => bts (F_X3_tenant p2 0 m33) (fun _ => none) fun v34 => (if v32 = v34 then bts (F_X3_tenant p2 4 m33) (fun _ => none) fun v35 => (if v35 = 0 then J_L_asks_225 m33 else btm (F_X3_bestIndex p2 m33) (fun _ _ => none) fun v38 m39 => (if v38 = (-1) then bts (F_X3_tenant p2 0 m39) (fun _ => none) fun v40 => (if v18 = v40 then J_L_asks_225 m39 else J_L_asks_229 m39) else J_L_asks_229 m39)) else J_L_asks_229 m33)) else J_L_asks_229 m29) else J_L_asks_229 m29))
def J_L_asks_119 (v41 : Int32) (kb64_44 : Int32 → Int32 → Mem → Option (Int32 × Mem)) (v51 : Int32) (m52 : Mem) : Option (Int32 × Mem) :=
  bd (v41 + 1) fun v54 => kb64_44 v54 v51 m52
def J_L_asks_118 (v41 : Int32) (kb64_44 : Int32 → Int32 → Mem → Option (Int32 × Mem)) (m55 : Mem) : Option (Int32 × Mem) :=
  (J_L_asks_119 v41 kb64_44) 0 m55
def L_L_asks_64 (p2 : Int32) (p3 : Int32) : Nat → Int32 → Int32 → Mem → Option (Int32 × Mem)
  | 0, _, _, _ => none
  | n45 + 1, v41, v42, m43 => (if v42 = 0 then (C_L_asks_127 p2) v41 v42 m43 else btm (F_X3_answer p2 (-1) v41 m43) (fun _ _ => none) fun v46 m47 => (if v46 < 0 then (C_L_asks_127 p2) v41 v42 m47 else btm (F_X3_answer p2 (-1) v41 m47) (fun _ _ => none) fun v48 m49 => bts (F_X3_rowOf v48 0 m49) (fun _ => none) fun v50 => (if v50 = p2 then btm (F_X3_answer p2 p3 v41 m49) (fun _ _ => none) fun v57 m58 => bts (F_X3_rowOf v57 0 m58) (fun _ => none) fun v59 => (if v59 = p2 then (J_L_asks_119 v41 (fun w0 w1 w2 => L_L_asks_64 p2 p3 n45 w0 w1 w2)) 1 m58 else (J_L_asks_118 v41 (fun w0 w1 w2 => L_L_asks_64 p2 p3 n45 w0 w1 w2)) m58) else (J_L_asks_118 v41 (fun w0 w1 w2 => L_L_asks_64 p2 p3 n45 w0 w1 w2)) m49)))
def J_L_asks_39 (p2 : Int32) (p3 : Int32) (p4 : Int32) (m3 : Mem) (v5 : Int32) : Option (Int32 × Mem) :=
  btm (F_X3_append v5 m3) (fun _ _ => none) fun v7 m8 => bd (p4 >>> (4 &&& 31)) fun v9 => bo (F_L_low v9 3 m8) fun v10 => bd (48 + v10) fun v11 => btm (F_X3_append v11 m8) (fun _ _ => none) fun v12 m13 => L_L_asks_64 p2 p3 fu 0 1 m13
def F_L_asks (p2 : Int32) (p3 : Int32) (p4 : Int32) (m0 : Mem) : Option (Int32 × Mem) :=
  bd (97 + p3) fun v1 => btm (F_X3_append v1 m0) (fun _ _ => none) fun v2 m3 => bo (F_L_low p4 3 m3) fun v4 => (if v4 = 0 then (J_L_asks_39 p2 p3 p4 m3) 61 else bo (F_L_low p4 3 m3) fun v60 => (if v60 = 1 then (J_L_asks_39 p2 p3 p4 m3) 60 else (J_L_asks_39 p2 p3 p4 m3) 62))
set_option maxHeartbeats 4000000 in
set_option maxRecDepth 100000 in
theorem c_L_asks (l : Launch) (hlf : l.stackTraces = false) (X : XW)  (p2 : Int32) (p3 : Int32) (p4 : Int32) (m0 : Mem) (rv : Int32) (mE : Mem) (hF : F_L_asks p2 p3 p4 m0 = some (rv, mE)) : MX X l yL_asks cL_asks 8 (some .boolean) 9 [.ref (xad X (0, 0, 0, 0)), .int p2, .int p3, .int p4] m0 (QI X rv mE) := by
  refine startZ hlf (by decide +kernel) rfl [(0, .ref (xad X (0, 0, 0, 0))), (1, .int p2), (2, .int p3), (3, .int p4)] rfl (Nat.le_of_ble_eq_true rfl) (fun K hk hR => ?_)
  unfold F_L_asks at hF
  refine r_aload_n hk 0 (dtL_asks_0 0 (0, .aload_n 0, 1) rfl) rfl ?_
  refine r_bipush (v := 97) hk (dtL_asks_0 1 (1, .bipush 97, 2) rfl) (by decide) ?_
  refine r_iload_n hk 2 (dtL_asks_0 2 (3, .iload_n 2, 1) rfl) rfl ?_
  refine r_iadd hk hF (dtL_asks_0 3 (4, .iadd, 1) rfl) (fun v1 hF => ?_)
  refine r_callItm hk hF (fun c m1 h => nomatch h) (fun R m3 h hf H locs ls hH hS hl => runT_V (y := yX3_append) hk (in_main 0 (by decide)) rfl rfl (c_X3_append (kl K) hk.2.2.2.2.2.2.2.2.2.2.2 X  v1 m0 R m3 h) lk_L_36 me_X3_append yf_X3_append (by decide) (by decide) rfl (Nat.le_of_ble_eq_true rfl) rfl (dtL_asks_0 4 (5, .invokevirtual 36, 3) rfl) hf hH hS hl) (fun v2 m3 hF => ?_)
  refine r_pop hk (dtL_asks_0 5 (8, .pop, 1) rfl) rfl ?_
  refine r_aload_n hk 0 (dtL_asks_0 6 (9, .aload_n 0, 1) rfl) rfl ?_
  refine r_iload_n hk 3 (dtL_asks_0 7 (10, .iload_n 3, 1) rfl) rfl ?_
  refine r_iconst (v := 3) hk (dtL_asks_0 8 (11, .iconst 3, 1) rfl) (by decide) ?_
  refine r_callI hF (fun v4 h H locs ls hH hS hl => run_S hk (c_L_low (kl K) hk.2.2.2.2.2.2.2.2.2.2.2 X  p4 3 m3 v4 h) lk_L_39 me_L_low yf_L_low (by decide) (by decide) rfl (Nat.le_of_ble_eq_true rfl) rfl (dtL_asks_0 9 (12, .invokestatic 39, 3) rfl) hH hS hl) (fun v4 hF => ?_)
  have j39_6 : ∀ (v5 : Int32), (J_L_asks_39 p2 p3 p4 m3) v5 = some (rv, mE) → G X K 39 [(0, .ref (xad X (0, 0, 0, 0))), (1, .int p2), (2, .int p3), (3, .int p4)] [.int v5, .ref (xad X (0, 0, 0, 0))] m3 := by
    intro v5 hF
    unfold J_L_asks_39 at hF
    refine r_callItm hk hF (fun c m1 h => nomatch h) (fun R m8 h hf H locs ls hH hS hl => runT_V (y := yX3_append) hk (in_main 0 (by decide)) rfl rfl (c_X3_append (kl K) hk.2.2.2.2.2.2.2.2.2.2.2 X  v5 m3 R m8 h) lk_L_36 me_X3_append yf_X3_append (by decide) (by decide) rfl (Nat.le_of_ble_eq_true rfl) rfl (dtL_asks_0 21 (39, .invokevirtual 36, 3) rfl) hf hH hS hl) (fun v7 m8 hF => ?_)
    refine r_pop hk (dtL_asks_0 22 (42, .pop, 1) rfl) rfl ?_
    refine r_aload_n hk 0 (dtL_asks_0 23 (43, .aload_n 0, 1) rfl) rfl ?_
    refine r_bipush (v := 48) hk (dtL_asks_0 24 (44, .bipush 48, 2) rfl) (by decide) ?_
    refine r_iload_n hk 3 (dtL_asks_0 25 (46, .iload_n 3, 1) rfl) rfl ?_
    refine r_iconst (v := 4) hk (dtL_asks_0 26 (47, .iconst 4, 1) rfl) (by decide) ?_
    refine r_ishr hk hF (dtL_asks_0 27 (48, .ishr, 1) rfl) (fun v9 hF => ?_)
    refine r_iconst (v := 3) hk (dtL_asks_0 28 (49, .iconst 3, 1) rfl) (by decide) ?_
    refine r_callI hF (fun v10 h H locs ls hH hS hl => run_S hk (c_L_low (kl K) hk.2.2.2.2.2.2.2.2.2.2.2 X  v9 3 m8 v10 h) lk_L_39 me_L_low yf_L_low (by decide) (by decide) rfl (Nat.le_of_ble_eq_true rfl) rfl (dtL_asks_0 29 (50, .invokestatic 39, 3) rfl) hH hS hl) (fun v10 hF => ?_)
    refine r_iadd hk hF (dtL_asks_0 30 (53, .iadd, 1) rfl) (fun v11 hF => ?_)
    refine r_callItm hk hF (fun c m1 h => nomatch h) (fun R m13 h hf H locs ls hH hS hl => runT_V (y := yX3_append) hk (in_main 0 (by decide)) rfl rfl (c_X3_append (kl K) hk.2.2.2.2.2.2.2.2.2.2.2 X  v11 m8 R m13 h) lk_L_36 me_X3_append yf_X3_append (by decide) (by decide) rfl (Nat.le_of_ble_eq_true rfl) rfl (dtL_asks_0 31 (54, .invokevirtual 36, 3) rfl) hf hH hS hl) (fun v12 m13 hF => ?_)
    refine r_pop hk (dtL_asks_0 32 (57, .pop, 1) rfl) rfl ?_
    refine r_iconst (v := 0) hk (dtL_asks_0 33 (58, .iconst 0, 1) rfl) (by decide) ?_
    refine r_istore hk [(4, .int 0), (0, .ref (xad X (0, 0, 0, 0))), (1, .int p2), (2, .int p3), (3, .int p4)] (dtL_asks_0 34 (59, .istore 4, 2) rfl) (by decide) rfl ?_
    refine r_iconst (v := 1) hk (dtL_asks_0 35 (61, .iconst 1, 1) rfl) (by decide) ?_
    refine r_istore hk [(5, .int 1), (4, .int 0), (0, .ref (xad X (0, 0, 0, 0))), (1, .int p2), (2, .int p3), (3, .int p4)] (dtL_asks_0 36 (62, .istore 5, 2) rfl) (by decide) rfl ?_
    have e127_17 : ∀ (v14 : Int32) (v15 : Int32) (m16 : Mem), (C_L_asks_127 p2) v14 v15 m16 = some (rv, mE) → G X K 127 [(0, .ref (xad X (0, 0, 0, 0))), (1, .int p2), (4, .int v14), (5, .int v15)] [] m16 := by
      intro v14 v15 m16 hF
      unfold C_L_asks_127 at hF
      refine r_aload_n hk 0 (dtL_asks_1 7 (127, .aload_n 0, 1) rfl) rfl ?_
      refine r_iload_n hk 1 (dtL_asks_1 8 (128, .iload_n 1, 1) rfl) rfl ?_
      refine r_iconst (v := 0) hk (dtL_asks_1 9 (129, .iconst 0, 1) rfl) (by decide) ?_
      refine r_callItm hk hF (fun c m1 h => nomatch h) (fun R m19 h hf H locs ls hH hS hl => runT_V (y := yX3_looked) hk (in_main 0 (by decide)) rfl rfl (c_X3_looked (kl K) hk.2.2.2.2.2.2.2.2.2.2.2 X  p2 0 m16 R m19 h) lk_L_47 me_X3_looked yf_X3_looked (by decide) (by decide) rfl (Nat.le_of_ble_eq_true rfl) rfl (dtL_asks_1 10 (130, .invokevirtual 47, 3) rfl) hf hH hS hl) (fun v18 m19 hF => ?_)
      refine r_istore hk [(6, .int v18), (0, .ref (xad X (0, 0, 0, 0))), (1, .int p2), (4, .int v14), (5, .int v15)] (dtL_asks_1 11 (133, .istore 6, 2) rfl) (by decide) rfl ?_
      refine r_aload_n hk 1 (dtL_asks_1 12 (135, .aload_n 0, 1) rfl) rfl ?_
      refine r_iload_n hk 2 (dtL_asks_1 13 (136, .iload_n 1, 1) rfl) rfl ?_
      refine r_bipush (v := 6) hk (dtL_asks_1 14 (137, .bipush 6, 2) rfl) (by decide) ?_
      refine r_callIts hk hF (fun c h => nomatch h) (fun R h hf H locs ls hH hS hl => runT_V (y := yX3_tenant) hk (in_main 0 (by decide)) rfl rfl (c_X3_tenant (kl K) hk.2.2.2.2.2.2.2.2.2.2.2 X  p2 6 m19 R h) lk_L_25 me_X3_tenant yf_X3_tenant (by decide) (by decide) rfl (Nat.le_of_ble_eq_true rfl) rfl (dtL_asks_1 15 (139, .invokevirtual 25, 3) rfl) hf hH hS hl) (fun v20 hF => ?_)
      refine r_istore hk [(7, .int v20), (6, .int v18), (0, .ref (xad X (0, 0, 0, 0))), (1, .int p2), (4, .int v14), (5, .int v15)] (dtL_asks_1 16 (142, .istore 7, 2) rfl) (by decide) rfl ?_
      refine r_iload hk 5 (dtL_asks_1 17 (144, .iload 5, 2) rfl) rfl ?_
      have j230_23 : ∀ (v21 : Int32) (m22 : Mem), J_L_asks_230 v21 m22 = some (rv, mE) → G X K 230 [(0, .ref (xad X (0, 0, 0, 0)))] [.int v21] m22 := by
        intro v21 m22 hF
        unfold J_L_asks_230 at hF
        refine r_istore hk [(5, .int v21), (0, .ref (xad X (0, 0, 0, 0)))] (dtL_asks_1 63 (230, .istore 5, 2) rfl) (by decide) rfl ?_
        refine r_aload_n hk 1 (dtL_asks_2 0 (232, .aload_n 0, 1) rfl) rfl ?_
        refine r_callIm hF (fun v24 m25 h H locs ls hH hS hl => run_V (y := yX3_clearBuffer) hk (in_main 0 (by decide)) rfl rfl (c_X3_clearBuffer (kl K) hk.2.2.2.2.2.2.2.2.2.2.2 X   m22 v24 m25 h) lk_L_57 me_X3_clearBuffer yf_X3_clearBuffer (by decide) (by decide) rfl (Nat.le_of_ble_eq_true rfl) rfl (dtL_asks_2 1 (233, .invokevirtual 57, 3) rfl) hH hS hl) (fun v24 m25 hF => ?_)
        refine r_pop hk (dtL_asks_2 2 (236, .pop, 1) rfl) rfl ?_
        refine r_iload hk 0 (dtL_asks_2 3 (237, .iload 5, 2) rfl) rfl ?_
        obtain ⟨hz, hF⟩ := ck_some hF
        cases Option.some.inj hF
        exact hR _ _ hz (dtL_asks_2 4 (239, .ireturn, 1) rfl)
      have j229_27 : ∀ (m26 : Mem), J_L_asks_229 m26 = some (rv, mE) → G X K 229 [(0, .ref (xad X (0, 0, 0, 0)))] [] m26 := by
        intro m26 hF
        unfold J_L_asks_229 at hF
        refine r_iconst (v := 0) hk (dtL_asks_1 62 (229, .iconst 0, 1) rfl) (by decide) ?_
        exact r_sub hk [0] rfl (j230_23 0 m26 hF)
      refine r_if_eq hk 229 hF (dtL_asks_1 18 (146, .ifCond .eq 83, 3) rfl) (by decide) (fun hF => ?_) (fun hF => ?_)
      · exact r_sub hk [2] rfl (j229_27 m19 hF)
      · refine r_aload_n hk 2 (dtL_asks_1 19 (149, .aload_n 0, 1) rfl) rfl ?_
        refine r_iload_n hk 3 (dtL_asks_1 20 (150, .iload_n 1, 1) rfl) rfl ?_
        refine r_callItm hk hF (fun c m1 h => nomatch h) (fun R m29 h hf H locs ls hH hS hl => runT_V (y := yX3_ask) hk (in_main 0 (by decide)) rfl rfl (c_X3_ask (kl K) hk.2.2.2.2.2.2.2.2.2.2.2 X  p2 m19 R m29 h) lk_L_51 me_X3_ask yf_X3_ask (by decide) (by decide) rfl (Nat.le_of_ble_eq_true rfl) rfl (dtL_asks_1 21 (151, .invokevirtual 51, 3) rfl) hf hH hS hl) (fun v28 m29 hF => ?_)
        refine r_iload hk 4 (dtL_asks_1 22 (154, .iload 4, 2) rfl) rfl ?_
        refine r_icmp_ne hk 229 hF (dtL_asks_1 23 (156, .if_icmp .ne 73, 3) rfl) (by decide) (fun hF => ?_) (fun hF => ?_)
        · exact r_sub hk [2] rfl (j229_27 m29 hF)
        · refine r_aload_n hk 2 (dtL_asks_1 24 (159, .aload_n 0, 1) rfl) rfl ?_
          refine r_iload_n hk 3 (dtL_asks_1 25 (160, .iload_n 1, 1) rfl) rfl ?_
          refine r_bipush (v := 6) hk (dtL_asks_1 26 (161, .bipush 6, 2) rfl) (by decide) ?_
          refine r_callIts hk hF (fun c h => nomatch h) (fun R h hf H locs ls hH hS hl => runT_V (y := yX3_tenant) hk (in_main 0 (by decide)) rfl rfl (c_X3_tenant (kl K) hk.2.2.2.2.2.2.2.2.2.2.2 X  p2 6 m29 R h) lk_L_25 me_X3_tenant yf_X3_tenant (by decide) (by decide) rfl (Nat.le_of_ble_eq_true rfl) rfl (dtL_asks_1 27 (163, .invokevirtual 25, 3) rfl) hf hH hS hl) (fun v30 hF => ?_)
          refine r_iload hk 0 (dtL_asks_1 28 (166, .iload 7, 2) rfl) rfl ?_
          refine r_iload hk 1 (dtL_asks_1 29 (168, .iload 6, 2) rfl) rfl ?_
          refine r_iadd hk hF (dtL_asks_1 30 (170, .iadd, 1) rfl) (fun v31 hF => ?_)
          refine r_icmp_ne hk 229 hF (dtL_asks_1 31 (171, .if_icmp .ne 58, 3) rfl) (by decide) (fun hF => ?_) (fun hF => ?_)
          · exact r_sub hk [2] rfl (j229_27 m29 hF)
          · refine r_iload hk 1 (dtL_asks_1 32 (174, .iload 6, 2) rfl) rfl ?_
            refine r_iload hk 4 (dtL_asks_1 33 (176, .iload 4, 2) rfl) rfl ?_
            refine r_icmp_lt hk 229 hF (dtL_asks_1 34 (178, .if_icmp .lt 51, 3) rfl) (by decide) (fun hF => ?_) (fun hF => ?_)
            · exact r_sub hk [2] rfl (j229_27 m29 hF)
            · refine r_aload_n hk 2 (dtL_asks_1 35 (181, .aload_n 0, 1) rfl) rfl ?_
              refine r_iload_n hk 3 (dtL_asks_1 36 (182, .iload_n 1, 1) rfl) rfl ?_
              refine r_iconst (v := 1) hk (dtL_asks_1 37 (183, .iconst 1, 1) rfl) (by decide) ?_
              refine r_callItm hk hF (fun c m1 h => nomatch h) (fun R m33 h hf H locs ls hH hS hl => runT_V (y := yX3_looked) hk (in_main 0 (by decide)) rfl rfl (c_X3_looked (kl K) hk.2.2.2.2.2.2.2.2.2.2.2 X  p2 1 m29 R m33 h) lk_L_47 me_X3_looked yf_X3_looked (by decide) (by decide) rfl (Nat.le_of_ble_eq_true rfl) rfl (dtL_asks_1 38 (184, .invokevirtual 47, 3) rfl) hf hH hS hl) (fun v32 m33 hF => ?_)
              refine r_aload_n hk 2 (dtL_asks_1 39 (187, .aload_n 0, 1) rfl) rfl ?_
              refine r_iload_n hk 3 (dtL_asks_1 40 (188, .iload_n 1, 1) rfl) rfl ?_
              refine r_iconst (v := 0) hk (dtL_asks_1 41 (189, .iconst 0, 1) rfl) (by decide) ?_
              refine r_callIts hk hF (fun c h => nomatch h) (fun R h hf H locs ls hH hS hl => runT_V (y := yX3_tenant) hk (in_main 0 (by decide)) rfl rfl (c_X3_tenant (kl K) hk.2.2.2.2.2.2.2.2.2.2.2 X  p2 0 m33 R h) lk_L_25 me_X3_tenant yf_X3_tenant (by decide) (by decide) rfl (Nat.le_of_ble_eq_true rfl) rfl (dtL_asks_1 42 (190, .invokevirtual 25, 3) rfl) hf hH hS hl) (fun v34 hF => ?_)
              refine r_icmp_ne hk 229 hF (dtL_asks_1 43 (193, .if_icmp .ne 36, 3) rfl) (by decide) (fun hF => ?_) (fun hF => ?_)
              · exact r_sub hk [2] rfl (j229_27 m33 hF)
              · refine r_aload_n hk 2 (dtL_asks_1 44 (196, .aload_n 0, 1) rfl) rfl ?_
                refine r_iload_n hk 3 (dtL_asks_1 45 (197, .iload_n 1, 1) rfl) rfl ?_
                refine r_iconst (v := 4) hk (dtL_asks_1 46 (198, .iconst 4, 1) rfl) (by decide) ?_
                refine r_callIts hk hF (fun c h => nomatch h) (fun R h hf H locs ls hH hS hl => runT_V (y := yX3_tenant) hk (in_main 0 (by decide)) rfl rfl (c_X3_tenant (kl K) hk.2.2.2.2.2.2.2.2.2.2.2 X  p2 4 m33 R h) lk_L_25 me_X3_tenant yf_X3_tenant (by decide) (by decide) rfl (Nat.le_of_ble_eq_true rfl) rfl (dtL_asks_1 47 (199, .invokevirtual 25, 3) rfl) hf hH hS hl) (fun v35 hF => ?_)
                have j225_37 : ∀ (m36 : Mem), J_L_asks_225 m36 = some (rv, mE) → G X K 225 [(0, .ref (xad X (0, 0, 0, 0)))] [] m36 := by
                  intro m36 hF
                  unfold J_L_asks_225 at hF
                  refine r_iconst (v := 1) hk (dtL_asks_1 60 (225, .iconst 1, 1) rfl) (by decide) ?_
                  refine r_goto hk 230 (dtL_asks_1 61 (226, .goto 4, 3) rfl) (by decide) ?_
                  exact r_sub hk [0] rfl (j230_23 1 m36 hF)
                refine r_if_eq hk 225 hF (dtL_asks_1 48 (202, .ifCond .eq 23, 3) rfl) (by decide) (fun hF => ?_) (fun hF => ?_)
                · exact r_sub hk [2] rfl (j225_37 m33 hF)
                · refine r_aload_n hk 2 (dtL_asks_1 49 (205, .aload_n 0, 1) rfl) rfl ?_
                  refine r_iload_n hk 3 (dtL_asks_1 50 (206, .iload_n 1, 1) rfl) rfl ?_
                  refine r_callItm hk hF (fun c m1 h => nomatch h) (fun R m39 h hf H locs ls hH hS hl => runT_V (y := yX3_bestIndex) hk (in_main 0 (by decide)) rfl rfl (c_X3_bestIndex (kl K) hk.2.2.2.2.2.2.2.2.2.2.2 X  p2 m33 R m39 h) lk_L_54 me_X3_bestIndex yf_X3_bestIndex (by decide) (by decide) rfl (Nat.le_of_ble_eq_true rfl) rfl (dtL_asks_1 51 (207, .invokevirtual 54, 3) rfl) hf hH hS hl) (fun v38 m39 hF => ?_)
                  refine r_iconst (v := (-1)) hk (dtL_asks_1 52 (210, .iconst (-1), 1) rfl) (by decide) ?_
                  refine r_icmp_ne hk 229 hF (dtL_asks_1 53 (211, .if_icmp .ne 18, 3) rfl) (by decide) (fun hF => ?_) (fun hF => ?_)
                  · exact r_sub hk [2] rfl (j229_27 m39 hF)
                  · refine r_iload hk 1 (dtL_asks_1 54 (214, .iload 6, 2) rfl) rfl ?_
                    refine r_aload_n hk 2 (dtL_asks_1 55 (216, .aload_n 0, 1) rfl) rfl ?_
                    refine r_iload_n hk 3 (dtL_asks_1 56 (217, .iload_n 1, 1) rfl) rfl ?_
                    refine r_iconst (v := 0) hk (dtL_asks_1 57 (218, .iconst 0, 1) rfl) (by decide) ?_
                    refine r_callIts hk hF (fun c h => nomatch h) (fun R h hf H locs ls hH hS hl => runT_V (y := yX3_tenant) hk (in_main 0 (by decide)) rfl rfl (c_X3_tenant (kl K) hk.2.2.2.2.2.2.2.2.2.2.2 X  p2 0 m39 R h) lk_L_25 me_X3_tenant yf_X3_tenant (by decide) (by decide) rfl (Nat.le_of_ble_eq_true rfl) rfl (dtL_asks_1 58 (219, .invokevirtual 25, 3) rfl) hf hH hS hl) (fun v40 hF => ?_)
                    refine r_icmp_ne hk 229 hF (dtL_asks_1 59 (222, .if_icmp .ne 7, 3) rfl) (by decide) (fun hF => ?_) (fun hF => ?_)
                    · exact r_sub hk [2] rfl (j229_27 m39 hF)
                    · exact r_sub hk [2] rfl (j225_37 m39 hF)
    have l45 : ∀ (n45 : Nat) (v41 : Int32) (v42 : Int32) (m43 : Mem), L_L_asks_64 p2 p3 n45 v41 v42 m43 = some (rv, mE) → G X K 64 [(0, .ref (xad X (0, 0, 0, 0))), (1, .int p2), (2, .int p3), (4, .int v41), (5, .int v42)] [] m43 := by
      intro n45
      induction n45 with
      | zero => intro v41 v42 m43 hF; exact nomatch (show (none : Option (Int32 × Mem)) = some (rv, mE) from hF)
      | succ n45 ih45 =>
        intro v41 v42 m43 hF
        rw [L_L_asks_64] at hF
        refine r_iload hk 4 (dtL_asks_0 37 (64, .iload 5, 2) rfl) rfl ?_
        refine r_if_eq hk 127 hF (dtL_asks_0 38 (66, .ifCond .eq 61, 3) rfl) (by decide) (fun hF => ?_) (fun hF => ?_)
        · exact r_sub hk [0, 1, 3, 4] rfl (e127_17 v41 v42 m43 hF)
        · refine r_aload_n hk 0 (dtL_asks_0 39 (69, .aload_n 0, 1) rfl) rfl ?_
          refine r_iload_n hk 1 (dtL_asks_0 40 (70, .iload_n 1, 1) rfl) rfl ?_
          refine r_iconst (v := (-1)) hk (dtL_asks_0 41 (71, .iconst (-1), 1) rfl) (by decide) ?_
          refine r_iload hk 3 (dtL_asks_0 42 (72, .iload 4, 2) rfl) rfl ?_
          refine r_callItm hk hF (fun c m1 h => nomatch h) (fun R m47 h hf H locs ls hH hS hl => runT_V (y := yX3_answer) hk (in_main 0 (by decide)) rfl rfl (c_X3_answer (kl K) hk.2.2.2.2.2.2.2.2.2.2.2 X  p2 (-1) v41 m43 R m47 h) lk_L_44 me_X3_answer yf_X3_answer (by decide) (by decide) rfl (Nat.le_of_ble_eq_true rfl) rfl (dtL_asks_0 43 (74, .invokevirtual 44, 3) rfl) hf hH hS hl) (fun v46 m47 hF => ?_)
          refine r_if_lt hk 127 hF (dtL_asks_0 44 (77, .ifCond .lt 50, 3) rfl) (by decide) (fun hF => ?_) (fun hF => ?_)
          · exact r_sub hk [0, 1, 3, 4] rfl (e127_17 v41 v42 m47 hF)
          · refine r_aload_n hk 0 (dtL_asks_0 45 (80, .aload_n 0, 1) rfl) rfl ?_
            refine r_aload_n hk 0 (dtL_asks_0 46 (81, .aload_n 0, 1) rfl) rfl ?_
            refine r_iload_n hk 1 (dtL_asks_0 47 (82, .iload_n 1, 1) rfl) rfl ?_
            refine r_iconst (v := (-1)) hk (dtL_asks_0 48 (83, .iconst (-1), 1) rfl) (by decide) ?_
            refine r_iload hk 3 (dtL_asks_0 49 (84, .iload 4, 2) rfl) rfl ?_
            refine r_callItm hk hF (fun c m1 h => nomatch h) (fun R m49 h hf H locs ls hH hS hl => runT_V (y := yX3_answer) hk (in_main 0 (by decide)) rfl rfl (c_X3_answer (kl K) hk.2.2.2.2.2.2.2.2.2.2.2 X  p2 (-1) v41 m47 R m49 h) lk_L_44 me_X3_answer yf_X3_answer (by decide) (by decide) rfl (Nat.le_of_ble_eq_true rfl) rfl (dtL_asks_0 50 (86, .invokevirtual 44, 3) rfl) hf hH hS hl) (fun v48 m49 hF => ?_)
            refine r_iconst (v := 0) hk (dtL_asks_0 51 (89, .iconst 0, 1) rfl) (by decide) ?_
            refine r_callIts hk hF (fun c h => nomatch h) (fun R h hf H locs ls hH hS hl => runT_V (y := yX3_rowOf) hk (in_main 0 (by decide)) rfl rfl (c_X3_rowOf (kl K) hk.2.2.2.2.2.2.2.2.2.2.2 X  v48 0 m49 R h) lk_L_21 me_X3_rowOf yf_X3_rowOf (by decide) (by decide) rfl (Nat.le_of_ble_eq_true rfl) rfl (dtL_asks_0 52 (90, .invokevirtual 21, 3) rfl) hf hH hS hl) (fun v50 hF => ?_)
            refine r_iload_n hk 1 (dtL_asks_0 53 (93, .iload_n 1, 1) rfl) rfl ?_
            have j119_53 : ∀ (v51 : Int32) (m52 : Mem), (J_L_asks_119 v41 (fun w0 w1 w2 => L_L_asks_64 p2 p3 n45 w0 w1 w2)) v51 m52 = some (rv, mE) → G X K 119 [(0, .ref (xad X (0, 0, 0, 0))), (1, .int p2), (2, .int p3), (4, .int v41)] [.int v51] m52 := by
              intro v51 m52 hF
              unfold J_L_asks_119 at hF
              refine r_istore hk [(5, .int v51), (0, .ref (xad X (0, 0, 0, 0))), (1, .int p2), (2, .int p3), (4, .int v41)] (dtL_asks_1 4 (119, .istore 5, 2) rfl) (by decide) rfl ?_
              refine r_iinc hk 1 4 (fun v54 => [(4, .int v54), (5, .int v51), (0, .ref (xad X (0, 0, 0, 0))), (1, .int p2), (2, .int p3)]) hF (dtL_asks_1 5 (121, .iinc 4 1, 3) rfl) rfl (by decide) (by decide) (fun _ => rfl) (fun v54 hF => ?_)
              refine r_goto hk 64 (dtL_asks_1 6 (124, .goto (-60), 3) rfl) (by decide) ?_
              exact r_sub hk [2, 3, 4, 0, 1] rfl (ih45 v54 v51 m52 hF)
            have j118_56 : ∀ (m55 : Mem), (J_L_asks_118 v41 (fun w0 w1 w2 => L_L_asks_64 p2 p3 n45 w0 w1 w2)) m55 = some (rv, mE) → G X K 118 [(0, .ref (xad X (0, 0, 0, 0))), (1, .int p2), (2, .int p3), (4, .int v41)] [] m55 := by
              intro m55 hF
              unfold J_L_asks_118 at hF
              refine r_iconst (v := 0) hk (dtL_asks_1 3 (118, .iconst 0, 1) rfl) (by decide) ?_
              exact r_sub hk [0, 1, 2, 3] rfl (j119_53 0 m55 hF)
            refine r_icmp_ne hk 118 hF (dtL_asks_0 54 (94, .if_icmp .ne 24, 3) rfl) (by decide) (fun hF => ?_) (fun hF => ?_)
            · exact r_sub hk [0, 1, 2, 3] rfl (j118_56 m49 hF)
            · refine r_aload_n hk 0 (dtL_asks_0 55 (97, .aload_n 0, 1) rfl) rfl ?_
              refine r_aload_n hk 0 (dtL_asks_0 56 (98, .aload_n 0, 1) rfl) rfl ?_
              refine r_iload_n hk 1 (dtL_asks_0 57 (99, .iload_n 1, 1) rfl) rfl ?_
              refine r_iload_n hk 2 (dtL_asks_0 58 (100, .iload_n 2, 1) rfl) rfl ?_
              refine r_iload hk 3 (dtL_asks_0 59 (101, .iload 4, 2) rfl) rfl ?_
              refine r_callItm hk hF (fun c m1 h => nomatch h) (fun R m58 h hf H locs ls hH hS hl => runT_V (y := yX3_answer) hk (in_main 0 (by decide)) rfl rfl (c_X3_answer (kl K) hk.2.2.2.2.2.2.2.2.2.2.2 X  p2 p3 v41 m49 R m58 h) lk_L_44 me_X3_answer yf_X3_answer (by decide) (by decide) rfl (Nat.le_of_ble_eq_true rfl) rfl (dtL_asks_0 60 (103, .invokevirtual 44, 3) rfl) hf hH hS hl) (fun v57 m58 hF => ?_)
              refine r_iconst (v := 0) hk (dtL_asks_0 61 (106, .iconst 0, 1) rfl) (by decide) ?_
              refine r_callIts hk hF (fun c h => nomatch h) (fun R h hf H locs ls hH hS hl => runT_V (y := yX3_rowOf) hk (in_main 0 (by decide)) rfl rfl (c_X3_rowOf (kl K) hk.2.2.2.2.2.2.2.2.2.2.2 X  v57 0 m58 R h) lk_L_21 me_X3_rowOf yf_X3_rowOf (by decide) (by decide) rfl (Nat.le_of_ble_eq_true rfl) rfl (dtL_asks_0 62 (107, .invokevirtual 21, 3) rfl) hf hH hS hl) (fun v59 hF => ?_)
              refine r_iload_n hk 1 (dtL_asks_0 63 (110, .iload_n 1, 1) rfl) rfl ?_
              refine r_icmp_ne hk 118 hF (dtL_asks_1 0 (111, .if_icmp .ne 7, 3) rfl) (by decide) (fun hF => ?_) (fun hF => ?_)
              · exact r_sub hk [0, 1, 2, 3] rfl (j118_56 m58 hF)
              · refine r_iconst (v := 1) hk (dtL_asks_1 1 (114, .iconst 1, 1) rfl) (by decide) ?_
                refine r_goto hk 119 (dtL_asks_1 2 (115, .goto 4, 3) rfl) (by decide) ?_
                exact r_sub hk [0, 1, 2, 3] rfl (j119_53 1 m58 hF)
    exact r_sub hk [2, 3, 4, 1, 0] rfl (l45 fu 0 1 m13 hF)
  refine r_if_ne hk 23 hF (dtL_asks_0 10 (15, .ifCond .ne 8, 3) rfl) (by decide) (fun hF => ?_) (fun hF => ?_)
  · refine r_iload_n hk 3 (dtL_asks_0 13 (23, .iload_n 3, 1) rfl) rfl ?_
    refine r_iconst (v := 3) hk (dtL_asks_0 14 (24, .iconst 3, 1) rfl) (by decide) ?_
    refine r_callI hF (fun v60 h H locs ls hH hS hl => run_S hk (c_L_low (kl K) hk.2.2.2.2.2.2.2.2.2.2.2 X  p4 3 m3 v60 h) lk_L_39 me_L_low yf_L_low (by decide) (by decide) rfl (Nat.le_of_ble_eq_true rfl) rfl (dtL_asks_0 15 (25, .invokestatic 39, 3) rfl) hH hS hl) (fun v60 hF => ?_)
    refine r_iconst (v := 1) hk (dtL_asks_0 16 (28, .iconst 1, 1) rfl) (by decide) ?_
    refine r_icmp_ne hk 37 hF (dtL_asks_0 17 (29, .if_icmp .ne 8, 3) rfl) (by decide) (fun hF => ?_) (fun hF => ?_)
    · refine r_bipush (v := 62) hk (dtL_asks_0 20 (37, .bipush 62, 2) rfl) (by decide) ?_
      exact r_sub hk [0, 1, 2, 3] rfl (j39_6 62 hF)
    · refine r_bipush (v := 60) hk (dtL_asks_0 18 (32, .bipush 60, 2) rfl) (by decide) ?_
      refine r_goto hk 39 (dtL_asks_0 19 (34, .goto 5, 3) rfl) (by decide) ?_
      exact r_sub hk [0, 1, 2, 3] rfl (j39_6 60 hF)
  · refine r_bipush (v := 61) hk (dtL_asks_0 11 (18, .bipush 61, 2) rfl) (by decide) ?_
    refine r_goto hk 39 (dtL_asks_0 12 (20, .goto 19, 3) rfl) (by decide) ?_
    exact r_sub hk [0, 1, 2, 3] rfl (j39_6 61 hF)
def undRes (x : Option ((Int32 ⊕ Nat) × Mem)) : Option (Int32 × Mem) := match x with
  | some (.inl v, m) => some (v, m)
  | some (.inr c, m) => if c = 1 then some (-30, m) else none
  | none => none
theorem undRes_some {x : Option ((Int32 ⊕ Nat) × Mem)} {rv : Int32} {mE : Mem} (h : undRes x = some (rv, mE)) : x = some (.inl rv, mE) ∨ (x = some (.inr 1, mE) ∧ rv = -30) := by
  rcases x with _ | ⟨R, m1⟩
  · cases h
  · cases R with
    | inl v =>
      have h2 : some (v, m1) = some (rv, mE) := h
      cases h2
      exact Or.inl rfl
    | inr c =>
      have h2 : (if c = 1 then some ((-30 : Int32), m1) else none) = some (rv, mE) := h
      by_cases hc : c = 1
      · rw [if_pos hc] at h2
        cases h2
        subst hc
        exact Or.inr ⟨rfl, rfl⟩
      · rw [if_neg hc] at h2
        cases h2
def F_L_undo (m0 : Mem) : Option (Int32 × Mem) := undRes (F_X3_undo m0)
set_option maxHeartbeats 4000000 in
set_option maxRecDepth 100000 in
theorem c_L_undo (l : Launch) (hlf : l.stackTraces = false) (X : XW) (m0 : Mem) (rv : Int32) (mE : Mem) (hF : F_L_undo m0 = some (rv, mE)) : MH X l yL_undo cL_undo 2 [(0, 4, 5, 15)] 8 [.ref (xad X (0, 0, 0, 0))] m0 rv mE := by
  refine startH hlf (by decide +kernel) rfl [(0, .ref (xad X (0, 0, 0, 0)))] rfl (Nat.le_of_ble_eq_true rfl) (fun K hk h0 h1 hc1 hs6 hT hR => ?_)
  have hk1 : Ok X (setc K 1 6) RL cL_undo 2 8 := ok_setc hk hc1 hs6
  refine r_aload_n hk 0 (dtL_undo_0 0 (0, .aload_n 0, 1) rfl) rfl ?_
  rcases undRes_some hF with hC | ⟨hC, rfl⟩
  · refine r_callIh hk h0 h1 hc1 hs6 (fun hf H locs ls hH hS hl => runT_V (y := yX3_undo) hk (in_main 0 (by decide)) rfl rfl (c_X3_undo (kl K) hk.2.2.2.2.2.2.2.2.2.2.2 X m0 (.inl rv) mE hC) lk_L_9 me_X3_undo yf_X3_undo (by decide) (by decide) rfl (Nat.le_of_ble_eq_true rfl) rfl (dtL_undo_0 1 (1, .invokevirtual 9, 3) rfl) hf hH hS hl) (fun c hc => nomatch hc) (fun v hv => ?_)
    cases hv
    exact hR _ _ (dtL_undo_0 2 (4, .ireturn, 1) rfl)
  · refine r_callIh hk h0 h1 hc1 hs6 (fun hf H locs ls hH hS hl => runT_V (y := yX3_undo) hk (in_main 0 (by decide)) rfl rfl (c_X3_undo (kl K) hk.2.2.2.2.2.2.2.2.2.2.2 X m0 (.inr 1) mE hC) lk_L_9 me_X3_undo yf_X3_undo (by decide) (by decide) rfl (Nat.le_of_ble_eq_true rfl) rfl (dtL_undo_0 1 (1, .invokevirtual 9, 3) rfl) hf hH hS hl) (fun c hc => ?_) (fun v hv => nomatch hv)
    cases hc
    refine ⟨[], ⟨0, 4, 5, 15⟩, [], "java/lang/IllegalStateException", hT, (fun z hz => nomatch hz), by decide, by decide, cl_L_15 _ _ hk.2.2.2.2.2.1.1, ca_1 _ _ hk.2.2.2.2.2.1.1, fun q => ?_⟩
    refine r_astore_n hk1 [(1, .ref q), (0, .ref (xad X (0, 0, 0, 0)))] (dtL_undo_0 3 (5, .astore_n 1, 1) rfl) (by decide) rfl ?_
    refine r_bipush (v := (-30)) hk1 (dtL_undo_0 4 (6, .bipush (-30), 2) rfl) (by decide) ?_
    exact hR _ _ (dtL_undo_0 5 (8, .ireturn, 1) rfl)
def J_L_act_281 (m0 : Mem) (v5 : Int32)  : Option (Int32 × Mem) :=
  btm (F_X3_move v5 m0) (fun _ _ => none) fun v12 m13 => some (v12, m13)
def J_L_act_258  (v15 : Int32) (m16 : Mem) : Option (Int32 × Mem) :=
  some (v15, m16)
def J_L_act_255 (m0 : Mem) (v7 : Int32) (v19 : Int32) (v21 : Int32) : Option (Int32 × Mem) :=
  btm (F_X3_put v19 v7 v21 m0) (fun _ _ => none) fun v23 m24 => J_L_act_258 v23 m24
def J_L_act_199 (m0 : Mem) (v4 : Int32) (v7 : Int32) (v8 : Int32)  : Option (Int32 × Mem) :=
  (if v8 = 0 then J_L_act_258 (-30) m0 else bd (v4 >>> (4 &&& 31)) fun v18 => bo (F_L_low v18 v8 m0) fun v19 => bo (F_L_low v4 3 m0) fun v20 => (if v20 = 0 then bd (v4 >>> (2 &&& 31)) fun v28 => bo (F_L_low v28 4 m0) fun v29 => (J_L_act_255 m0 v7 v19) v29 else bd (v4 >>> (2 &&& 31)) fun v25 => bo (F_L_low v25 4000 m0) fun v26 => bd (v26 - 200) fun v27 => (J_L_act_255 m0 v7 v19) v27))
def J_L_act_192 (m0 : Mem) (v5 : Int32)  : Option (Int32 × Mem) :=
  btm (F_X3_row v5 m0) (fun _ _ => none) fun v31 m32 => some (v31, m32)
def J_L_act_152 (m0 : Mem) (v4 : Int32) (v5 : Int32) (v7 : Int32)  : Option (Int32 × Mem) :=
  bo (F_L_low v4 3 m0) fun v34 => btm (F_X3_mean v5 v7 v34 m0) (fun _ _ => none) fun v35 m36 => some (v35, m36)
def J_L_act_280  (v43 : Int32) (m44 : Mem) : Option (Int32 × Mem) :=
  some (v43, m44)
def J_L_act_305 (m0 : Mem) (v4 : Int32) (v5 : Int32) (v50 : Int32) : Option (Int32 × Mem) :=
  bd (v4 >>> (3 &&& 31)) fun v52 => bo (F_L_low v52 9 m0) fun v53 => btm (F_X3_limit v5 v50 v53 m0) (fun _ _ => none) fun v54 m55 => some (v54, m55)
def F_L_act (sL : Nat) (sx : Nat → Int32) (p3 : Int32) (m0 : Mem) : Option (Int32 × Mem) :=
  bd (p3 + 1) fun v1 => bo (F_L_cell sL sx v1 m0) fun v2 => bd (p3 + 2) fun v3 => bo (F_L_cell sL sx v3 m0) fun v4 => bo (F_L_low v2 3 m0) fun v5 => bd (v2 >>> (2 &&& 31)) fun v6 => bo (F_L_low v6 8 m0) fun v7 => bts (F_X3_count 1 m0) (fun _ => none) fun v8 => bo (F_L_cell sL sx p3 m0) fun v9 => bo (F_L_low v9 24 m0) fun v10 => (if v10 = 0 then (J_L_act_152 m0 v4 v5 v7) else (if v10 = 1 then (J_L_act_152 m0 v4 v5 v7) else (if v10 = 2 then (J_L_act_152 m0 v4 v5 v7) else (if v10 = 3 then (J_L_act_152 m0 v4 v5 v7) else (if v10 = 4 then (J_L_act_152 m0 v4 v5 v7) else (if v10 = 5 then btm (F_X3_forget v5 v7 m0) (fun _ _ => none) fun v37 m38 => some (v37, m38) else (if v10 = 6 then btm (F_X3_pack v5 m0) (fun _ _ => none) fun v39 m40 => some (v39, m40) else (if v10 = 7 then btm (F_X3_index v5 v7 m0) (fun _ _ => none) fun v41 m42 => some (v41, m42) else (if v10 = 8 then (J_L_act_192 m0 v5) else (if v10 = 9 then (J_L_act_192 m0 v5) else (if v10 = 10 then (J_L_act_192 m0 v5) else (if v10 = 11 then (J_L_act_192 m0 v5) else (if v10 = 12 then (J_L_act_192 m0 v5) else (if v10 = 13 then (J_L_act_199 m0 v4 v7 v8) else (if v10 = 14 then (J_L_act_199 m0 v4 v7 v8) else (if v10 = 15 then (J_L_act_199 m0 v4 v7 v8) else (if v10 = 16 then (J_L_act_199 m0 v4 v7 v8) else (if v10 = 17 then (J_L_act_199 m0 v4 v7 v8) else (if v10 = 18 then (if v8 = 0 then J_L_act_280 (-30) m0 else bo (F_L_low v4 v8 m0) fun v46 => btm (F_X3_remove v46 m0) (fun _ _ => none) fun v47 m48 => J_L_act_280 v47 m48) else (if v10 = 19 then (J_L_act_281 m0 v5) else (if v10 = 20 then (J_L_act_281 m0 v5) else (if v10 = 21 then bo (F_L_low v4 2 m0) fun v49 => (if v49 = 0 then (J_L_act_305 m0 v4 v5) 1 else (J_L_act_305 m0 v4 v5) 0) else bm (F_L_undo m0) fun v56 m57 => some (v56, m57)))))))))))))))))))))))
set_option maxHeartbeats 4000000 in
set_option maxRecDepth 100000 in
theorem c_L_act (l : Launch) (hlf : l.stackTraces = false) (X : XW)  (p3 : Int32) (m0 : Mem) (rv : Int32) (mE : Mem) (hF : F_L_act (xL X) (xs X) p3 m0 = some (rv, mE)) : MA X l yL_act cL_act 8 9 [.ref (xad X (0, 0, 0, 0)), .ref (xb X), .int p3] m0 rv mE := by
  refine startA hlf (by decide +kernel) rfl [(0, .ref (xad X (0, 0, 0, 0))), (1, .ref (xb X)), (2, .int p3)] rfl (Nat.le_of_ble_eq_true rfl) (fun K hk hroom hR => ?_)
  unfold F_L_act at hF
  refine r_aload_n hk 1 (dtL_act_0 0 (0, .aload_n 1, 1) rfl) rfl ?_
  refine r_iload_n hk 2 (dtL_act_0 1 (1, .iload_n 2, 1) rfl) rfl ?_
  refine r_iconst (v := 1) hk (dtL_act_0 2 (2, .iconst 1, 1) rfl) (by decide) ?_
  refine r_iadd hk hF (dtL_act_0 3 (3, .iadd, 1) rfl) (fun v1 hF => ?_)
  refine r_callI hF (fun v2 h H locs ls hH hS hl => run_S hk (c_L_cell (kl K) hk.2.2.2.2.2.2.2.2.2.2.2 X  v1 m0 v2 h) lk_L_60 me_L_cell yf_L_cell (by decide) (by decide) rfl (Nat.le_of_ble_eq_true rfl) rfl (dtL_act_0 4 (4, .invokestatic 60, 3) rfl) hH hS hl) (fun v2 hF => ?_)
  refine r_istore_n hk [(3, .int v2), (0, .ref (xad X (0, 0, 0, 0))), (1, .ref (xb X)), (2, .int p3)] (dtL_act_0 5 (7, .istore_n 3, 1) rfl) (by decide) rfl ?_
  refine r_aload_n hk 2 (dtL_act_0 6 (8, .aload_n 1, 1) rfl) rfl ?_
  refine r_iload_n hk 3 (dtL_act_0 7 (9, .iload_n 2, 1) rfl) rfl ?_
  refine r_iconst (v := 2) hk (dtL_act_0 8 (10, .iconst 2, 1) rfl) (by decide) ?_
  refine r_iadd hk hF (dtL_act_0 9 (11, .iadd, 1) rfl) (fun v3 hF => ?_)
  refine r_callI hF (fun v4 h H locs ls hH hS hl => run_S hk (c_L_cell (kl K) hk.2.2.2.2.2.2.2.2.2.2.2 X  v3 m0 v4 h) lk_L_60 me_L_cell yf_L_cell (by decide) (by decide) rfl (Nat.le_of_ble_eq_true rfl) rfl (dtL_act_0 10 (12, .invokestatic 60, 3) rfl) hH hS hl) (fun v4 hF => ?_)
  refine r_istore hk [(4, .int v4), (3, .int v2), (0, .ref (xad X (0, 0, 0, 0))), (1, .ref (xb X)), (2, .int p3)] (dtL_act_0 11 (15, .istore 4, 2) rfl) (by decide) rfl ?_
  refine r_iload_n hk 1 (dtL_act_0 12 (17, .iload_n 3, 1) rfl) rfl ?_
  refine r_iconst (v := 3) hk (dtL_act_0 13 (18, .iconst 3, 1) rfl) (by decide) ?_
  refine r_callI hF (fun v5 h H locs ls hH hS hl => run_S hk (c_L_low (kl K) hk.2.2.2.2.2.2.2.2.2.2.2 X  v2 3 m0 v5 h) lk_L_39 me_L_low yf_L_low (by decide) (by decide) rfl (Nat.le_of_ble_eq_true rfl) rfl (dtL_act_0 14 (19, .invokestatic 39, 3) rfl) hH hS hl) (fun v5 hF => ?_)
  refine r_istore hk [(5, .int v5), (4, .int v4), (3, .int v2), (0, .ref (xad X (0, 0, 0, 0))), (1, .ref (xb X)), (2, .int p3)] (dtL_act_0 15 (22, .istore 5, 2) rfl) (by decide) rfl ?_
  refine r_iload_n hk 2 (dtL_act_0 16 (24, .iload_n 3, 1) rfl) rfl ?_
  refine r_iconst (v := 2) hk (dtL_act_0 17 (25, .iconst 2, 1) rfl) (by decide) ?_
  refine r_ishr hk hF (dtL_act_0 18 (26, .ishr, 1) rfl) (fun v6 hF => ?_)
  refine r_bipush (v := 8) hk (dtL_act_0 19 (27, .bipush 8, 2) rfl) (by decide) ?_
  refine r_callI hF (fun v7 h H locs ls hH hS hl => run_S hk (c_L_low (kl K) hk.2.2.2.2.2.2.2.2.2.2.2 X  v6 8 m0 v7 h) lk_L_39 me_L_low yf_L_low (by decide) (by decide) rfl (Nat.le_of_ble_eq_true rfl) rfl (dtL_act_0 20 (29, .invokestatic 39, 3) rfl) hH hS hl) (fun v7 hF => ?_)
  refine r_istore hk [(6, .int v7), (5, .int v5), (4, .int v4), (3, .int v2), (0, .ref (xad X (0, 0, 0, 0))), (1, .ref (xb X)), (2, .int p3)] (dtL_act_0 21 (32, .istore 6, 2) rfl) (by decide) rfl ?_
  refine r_aload_n hk 4 (dtL_act_0 22 (34, .aload_n 0, 1) rfl) rfl ?_
  refine r_iconst (v := 1) hk (dtL_act_0 23 (35, .iconst 1, 1) rfl) (by decide) ?_
  refine r_callIts hk hF (fun c h => nomatch h) (fun R h hf H locs ls hH hS hl => runT_V (y := yX3_count) hk (in_main 0 (by decide)) rfl rfl (c_X3_count (kl K) hk.2.2.2.2.2.2.2.2.2.2.2 X  1 m0 R h) lk_L_17 me_X3_count yf_X3_count (by decide) (by decide) rfl (Nat.le_of_ble_eq_true rfl) rfl (dtL_act_0 24 (36, .invokevirtual 17, 3) rfl) hf hH hS hl) (fun v8 hF => ?_)
  refine r_istore hk [(7, .int v8), (6, .int v7), (5, .int v5), (4, .int v4), (3, .int v2), (0, .ref (xad X (0, 0, 0, 0))), (1, .ref (xb X)), (2, .int p3)] (dtL_act_0 25 (39, .istore 7, 2) rfl) (by decide) rfl ?_
  refine r_aload_n hk 6 (dtL_act_0 26 (41, .aload_n 1, 1) rfl) rfl ?_
  refine r_iload_n hk 7 (dtL_act_0 27 (42, .iload_n 2, 1) rfl) rfl ?_
  refine r_callI hF (fun v9 h H locs ls hH hS hl => run_S hk (c_L_cell (kl K) hk.2.2.2.2.2.2.2.2.2.2.2 X  p3 m0 v9 h) lk_L_60 me_L_cell yf_L_cell (by decide) (by decide) rfl (Nat.le_of_ble_eq_true rfl) rfl (dtL_act_0 28 (43, .invokestatic 60, 3) rfl) hH hS hl) (fun v9 hF => ?_)
  refine r_bipush (v := 24) hk (dtL_act_0 29 (46, .bipush 24, 2) rfl) (by decide) ?_
  refine r_callI hF (fun v10 h H locs ls hH hS hl => run_S hk (c_L_low (kl K) hk.2.2.2.2.2.2.2.2.2.2.2 X  v9 24 m0 v10 h) lk_L_39 me_L_low yf_L_low (by decide) (by decide) rfl (Nat.le_of_ble_eq_true rfl) rfl (dtL_act_0 30 (48, .invokestatic 39, 3) rfl) hH hS hl) (fun v10 hF => ?_)
  have j281_11 : (J_L_act_281 m0 v5) = some (rv, mE) → G X K 281 [(0, .ref (xad X (0, 0, 0, 0))), (5, .int v5)] [] m0 := by
    intro hF
    unfold J_L_act_281 at hF
    refine r_aload_n hk 0 (dtL_act_1 34 (281, .aload_n 0, 1) rfl) rfl ?_
    refine r_iload hk 1 (dtL_act_1 35 (282, .iload 5, 2) rfl) rfl ?_
    refine r_callItm hk hF (fun c m1 h => nomatch h) (fun R m13 h hf H locs ls hH hS hl => runT_V (y := yX3_move) hk (in_main 0 (by decide)) rfl rfl (c_X3_move (kl K) hk.2.2.2.2.2.2.2.2.2.2.2 X  v5 m0 R m13 h) lk_L_85 me_X3_move yf_X3_move (by decide) (by decide) rfl (Nat.le_of_ble_eq_true rfl) rfl (dtL_act_1 36 (284, .invokevirtual 85, 3) rfl) hf hH hS hl) (fun v12 m13 hF => ?_)
    cases Option.some.inj hF
    exact g_wid (Nat.le_add_right _ _) (Nat.le_add_right _ _) (hR _ _ (dtL_act_1 37 (287, .ireturn, 1) rfl))
  have j199_14 : (J_L_act_199 m0 v4 v7 v8) = some (rv, mE) → G X K 199 [(0, .ref (xad X (0, 0, 0, 0))), (4, .int v4), (6, .int v7), (7, .int v8)] [] m0 := by
    intro hF
    unfold J_L_act_199 at hF
    refine r_iload hk 3 (dtL_act_0 58 (199, .iload 7, 2) rfl) rfl ?_
    have j258_17 : ∀ (v15 : Int32) (m16 : Mem), J_L_act_258 v15 m16 = some (rv, mE) → G X K 258 [] [.int v15] m16 := by
      intro v15 m16 hF
      unfold J_L_act_258 at hF
      cases Option.some.inj hF
      exact g_wid (Nat.le_add_right _ _) (Nat.le_add_right _ _) (hR _ _ (dtL_act_1 23 (258, .ireturn, 1) rfl))
    refine r_if_ne hk 209 hF (dtL_act_0 59 (201, .ifCond .ne 8, 3) rfl) (by decide) (fun hF => ?_) (fun hF => ?_)
    · refine r_aload_n hk 0 (dtL_act_0 62 (209, .aload_n 0, 1) rfl) rfl ?_
      refine r_iload hk 1 (dtL_act_0 63 (210, .iload 4, 2) rfl) rfl ?_
      refine r_iconst (v := 4) hk (dtL_act_1 0 (212, .iconst 4, 1) rfl) (by decide) ?_
      refine r_ishr hk hF (dtL_act_1 1 (213, .ishr, 1) rfl) (fun v18 hF => ?_)
      refine r_iload hk 3 (dtL_act_1 2 (214, .iload 7, 2) rfl) rfl ?_
      refine r_callI hF (fun v19 h H locs ls hH hS hl => run_S hk (c_L_low (kl K) hk.2.2.2.2.2.2.2.2.2.2.2 X  v18 v8 m0 v19 h) lk_L_39 me_L_low yf_L_low (by decide) (by decide) rfl (Nat.le_of_ble_eq_true rfl) rfl (dtL_act_1 3 (216, .invokestatic 39, 3) rfl) hH hS hl) (fun v19 hF => ?_)
      refine r_iload hk 2 (dtL_act_1 4 (219, .iload 6, 2) rfl) rfl ?_
      refine r_iload hk 1 (dtL_act_1 5 (221, .iload 4, 2) rfl) rfl ?_
      refine r_iconst (v := 3) hk (dtL_act_1 6 (223, .iconst 3, 1) rfl) (by decide) ?_
      refine r_callI hF (fun v20 h H locs ls hH hS hl => run_S hk (c_L_low (kl K) hk.2.2.2.2.2.2.2.2.2.2.2 X  v4 3 m0 v20 h) lk_L_39 me_L_low yf_L_low (by decide) (by decide) rfl (Nat.le_of_ble_eq_true rfl) rfl (dtL_act_1 7 (224, .invokestatic 39, 3) rfl) hH hS hl) (fun v20 hF => ?_)
      have j255_22 : ∀ (v21 : Int32), (J_L_act_255 m0 v7 v19) v21 = some (rv, mE) → G X K 255 [] [.int v21, .int v7, .int v19, .ref (xad X (0, 0, 0, 0))] m0 := by
        intro v21 hF
        unfold J_L_act_255 at hF
        refine r_callItm hk hF (fun c m1 h => nomatch h) (fun R m24 h hf H locs ls hH hS hl => runT_V (y := yX3_put) hk (in_main 0 (by decide)) rfl rfl (c_X3_put (kl K) hk.2.2.2.2.2.2.2.2.2.2.2 X  v19 v7 v21 m0 R m24 h) lk_L_79 me_X3_put yf_X3_put (by decide) (by decide) rfl (Nat.le_of_ble_eq_true rfl) rfl (dtL_act_1 22 (255, .invokevirtual 79, 3) rfl) hf hH hS hl) (fun v23 m24 hF => ?_)
        exact r_sub hk [] rfl (j258_17 v23 m24 hF)
      refine r_if_ne hk 241 hF (dtL_act_1 8 (227, .ifCond .ne 14, 3) rfl) (by decide) (fun hF => ?_) (fun hF => ?_)
      · refine r_iload hk 1 (dtL_act_1 15 (241, .iload 4, 2) rfl) rfl ?_
        refine r_iconst (v := 2) hk (dtL_act_1 16 (243, .iconst 2, 1) rfl) (by decide) ?_
        refine r_ishr hk hF (dtL_act_1 17 (244, .ishr, 1) rfl) (fun v25 hF => ?_)
        refine r_sipush (v := 4000) hk (dtL_act_1 18 (245, .sipush 4000, 3) rfl) (by decide) ?_
        refine r_callI hF (fun v26 h H locs ls hH hS hl => run_S hk (c_L_low (kl K) hk.2.2.2.2.2.2.2.2.2.2.2 X  v25 4000 m0 v26 h) lk_L_39 me_L_low yf_L_low (by decide) (by decide) rfl (Nat.le_of_ble_eq_true rfl) rfl (dtL_act_1 19 (248, .invokestatic 39, 3) rfl) hH hS hl) (fun v26 hF => ?_)
        refine r_sipush (v := 200) hk (dtL_act_1 20 (251, .sipush 200, 3) rfl) (by decide) ?_
        refine r_isub hk hF (dtL_act_1 21 (254, .isub, 1) rfl) (fun v27 hF => ?_)
        exact r_sub hk [] rfl (j255_22 v27 hF)
      · refine r_iload hk 1 (dtL_act_1 9 (230, .iload 4, 2) rfl) rfl ?_
        refine r_iconst (v := 2) hk (dtL_act_1 10 (232, .iconst 2, 1) rfl) (by decide) ?_
        refine r_ishr hk hF (dtL_act_1 11 (233, .ishr, 1) rfl) (fun v28 hF => ?_)
        refine r_iconst (v := 4) hk (dtL_act_1 12 (234, .iconst 4, 1) rfl) (by decide) ?_
        refine r_callI hF (fun v29 h H locs ls hH hS hl => run_S hk (c_L_low (kl K) hk.2.2.2.2.2.2.2.2.2.2.2 X  v28 4 m0 v29 h) lk_L_39 me_L_low yf_L_low (by decide) (by decide) rfl (Nat.le_of_ble_eq_true rfl) rfl (dtL_act_1 13 (235, .invokestatic 39, 3) rfl) hH hS hl) (fun v29 hF => ?_)
        refine r_goto hk 255 (dtL_act_1 14 (238, .goto 17, 3) rfl) (by decide) ?_
        exact r_sub hk [] rfl (j255_22 v29 hF)
    · refine r_bipush (v := (-30)) hk (dtL_act_0 60 (204, .bipush (-30), 2) rfl) (by decide) ?_
      refine r_goto hk 258 (dtL_act_0 61 (206, .goto 52, 3) rfl) (by decide) ?_
      exact r_sub hk [] rfl (j258_17 (-30) m0 hF)
  have j192_30 : (J_L_act_192 m0 v5) = some (rv, mE) → G X K 192 [(0, .ref (xad X (0, 0, 0, 0))), (5, .int v5)] [] m0 := by
    intro hF
    unfold J_L_act_192 at hF
    refine r_aload_n hk 0 (dtL_act_0 54 (192, .aload_n 0, 1) rfl) rfl ?_
    refine r_iload hk 1 (dtL_act_0 55 (193, .iload 5, 2) rfl) rfl ?_
    refine r_callItm hk hF (fun c m1 h => nomatch h) (fun R m32 h hf H locs ls hH hS hl => runT_V (y := yX3_row) hk (in_main 0 (by decide)) rfl rfl (c_X3_row (kl K) hk.2.2.2.2.2.2.2.2.2.2.2 X  v5 m0 R m32 h) lk_L_76 me_X3_row yf_X3_row (by decide) (by decide) rfl (Nat.le_of_ble_eq_true rfl) rfl (dtL_act_0 56 (195, .invokevirtual 76, 3) rfl) hf hH hS hl) (fun v31 m32 hF => ?_)
    cases Option.some.inj hF
    exact g_wid (Nat.le_add_right _ _) (Nat.le_add_right _ _) (hR _ _ (dtL_act_0 57 (198, .ireturn, 1) rfl))
  have j152_33 : (J_L_act_152 m0 v4 v5 v7) = some (rv, mE) → G X K 152 [(0, .ref (xad X (0, 0, 0, 0))), (4, .int v4), (5, .int v5), (6, .int v7)] [] m0 := by
    intro hF
    unfold J_L_act_152 at hF
    refine r_aload_n hk 0 (dtL_act_0 32 (152, .aload_n 0, 1) rfl) rfl ?_
    refine r_iload hk 2 (dtL_act_0 33 (153, .iload 5, 2) rfl) rfl ?_
    refine r_iload hk 3 (dtL_act_0 34 (155, .iload 6, 2) rfl) rfl ?_
    refine r_iload hk 1 (dtL_act_0 35 (157, .iload 4, 2) rfl) rfl ?_
    refine r_iconst (v := 3) hk (dtL_act_0 36 (159, .iconst 3, 1) rfl) (by decide) ?_
    refine r_callI hF (fun v34 h H locs ls hH hS hl => run_S hk (c_L_low (kl K) hk.2.2.2.2.2.2.2.2.2.2.2 X  v4 3 m0 v34 h) lk_L_39 me_L_low yf_L_low (by decide) (by decide) rfl (Nat.le_of_ble_eq_true rfl) rfl (dtL_act_0 37 (160, .invokestatic 39, 3) rfl) hH hS hl) (fun v34 hF => ?_)
    refine r_callItm hk hF (fun c m1 h => nomatch h) (fun R m36 h hf H locs ls hH hS hl => runT_V (y := yX3_mean) hk (in_main 0 (by decide)) rfl rfl (c_X3_mean (kl K) hk.2.2.2.2.2.2.2.2.2.2.2 X  v5 v7 v34 m0 R m36 h) lk_L_64 me_X3_mean yf_X3_mean (by decide) (by decide) rfl (Nat.le_of_ble_eq_true rfl) rfl (dtL_act_0 38 (163, .invokevirtual 64, 3) rfl) hf hH hS hl) (fun v35 m36 hF => ?_)
    cases Option.some.inj hF
    exact g_wid (Nat.le_add_right _ _) (Nat.le_add_right _ _) (hR _ _ (dtL_act_0 39 (166, .ireturn, 1) rfl))
  by_cases hs51_0 : v10 = 0
  · rw [if_pos hs51_0] at hF
    refine r_tabIn hk 152 (dtL_act_0 31 (51, .tableswitch 267 0 21 #[101, 101, 101, 101, 101, 116, 125, 132, 141, 141, 141, 141, 141, 148, 148, 148, 148, 148, 208, 230, 230, 237], 101) rfl) (by rw [hs51_0]; decide) (by rw [hs51_0]; decide) (by rw [hs51_0]; rfl) (by decide) ?_
    exact r_sub hk [5, 3, 2, 1] rfl (j152_33 hF)
  · rw [if_neg hs51_0] at hF
    by_cases hs51_1 : v10 = 1
    · rw [if_pos hs51_1] at hF
      refine r_tabIn hk 152 (dtL_act_0 31 (51, .tableswitch 267 0 21 #[101, 101, 101, 101, 101, 116, 125, 132, 141, 141, 141, 141, 141, 148, 148, 148, 148, 148, 208, 230, 230, 237], 101) rfl) (by rw [hs51_1]; decide) (by rw [hs51_1]; decide) (by rw [hs51_1]; rfl) (by decide) ?_
      exact r_sub hk [5, 3, 2, 1] rfl (j152_33 hF)
    · rw [if_neg hs51_1] at hF
      by_cases hs51_2 : v10 = 2
      · rw [if_pos hs51_2] at hF
        refine r_tabIn hk 152 (dtL_act_0 31 (51, .tableswitch 267 0 21 #[101, 101, 101, 101, 101, 116, 125, 132, 141, 141, 141, 141, 141, 148, 148, 148, 148, 148, 208, 230, 230, 237], 101) rfl) (by rw [hs51_2]; decide) (by rw [hs51_2]; decide) (by rw [hs51_2]; rfl) (by decide) ?_
        exact r_sub hk [5, 3, 2, 1] rfl (j152_33 hF)
      · rw [if_neg hs51_2] at hF
        by_cases hs51_3 : v10 = 3
        · rw [if_pos hs51_3] at hF
          refine r_tabIn hk 152 (dtL_act_0 31 (51, .tableswitch 267 0 21 #[101, 101, 101, 101, 101, 116, 125, 132, 141, 141, 141, 141, 141, 148, 148, 148, 148, 148, 208, 230, 230, 237], 101) rfl) (by rw [hs51_3]; decide) (by rw [hs51_3]; decide) (by rw [hs51_3]; rfl) (by decide) ?_
          exact r_sub hk [5, 3, 2, 1] rfl (j152_33 hF)
        · rw [if_neg hs51_3] at hF
          by_cases hs51_4 : v10 = 4
          · rw [if_pos hs51_4] at hF
            refine r_tabIn hk 152 (dtL_act_0 31 (51, .tableswitch 267 0 21 #[101, 101, 101, 101, 101, 116, 125, 132, 141, 141, 141, 141, 141, 148, 148, 148, 148, 148, 208, 230, 230, 237], 101) rfl) (by rw [hs51_4]; decide) (by rw [hs51_4]; decide) (by rw [hs51_4]; rfl) (by decide) ?_
            exact r_sub hk [5, 3, 2, 1] rfl (j152_33 hF)
          · rw [if_neg hs51_4] at hF
            by_cases hs51_5 : v10 = 5
            · rw [if_pos hs51_5] at hF
              refine r_tabIn hk 167 (dtL_act_0 31 (51, .tableswitch 267 0 21 #[101, 101, 101, 101, 101, 116, 125, 132, 141, 141, 141, 141, 141, 148, 148, 148, 148, 148, 208, 230, 230, 237], 101) rfl) (by rw [hs51_5]; decide) (by rw [hs51_5]; decide) (by rw [hs51_5]; rfl) (by decide) ?_
              refine r_aload_n hk 5 (dtL_act_0 40 (167, .aload_n 0, 1) rfl) rfl ?_
              refine r_iload hk 2 (dtL_act_0 41 (168, .iload 5, 2) rfl) rfl ?_
              refine r_iload hk 1 (dtL_act_0 42 (170, .iload 6, 2) rfl) rfl ?_
              refine r_callItm hk hF (fun c m1 h => nomatch h) (fun R m38 h hf H locs ls hH hS hl => runT_V (y := yX3_forget) hk (in_main 0 (by decide)) rfl rfl (c_X3_forget (kl K) hk.2.2.2.2.2.2.2.2.2.2.2 X  v5 v7 m0 R m38 h) lk_L_67 me_X3_forget yf_X3_forget (by decide) (by decide) rfl (Nat.le_of_ble_eq_true rfl) rfl (dtL_act_0 43 (172, .invokevirtual 67, 3) rfl) hf hH hS hl) (fun v37 m38 hF => ?_)
              cases Option.some.inj hF
              exact g_wid (Nat.le_add_right _ _) (Nat.le_add_right _ _) (hR _ _ (dtL_act_0 44 (175, .ireturn, 1) rfl))
            · rw [if_neg hs51_5] at hF
              by_cases hs51_6 : v10 = 6
              · rw [if_pos hs51_6] at hF
                refine r_tabIn hk 176 (dtL_act_0 31 (51, .tableswitch 267 0 21 #[101, 101, 101, 101, 101, 116, 125, 132, 141, 141, 141, 141, 141, 148, 148, 148, 148, 148, 208, 230, 230, 237], 101) rfl) (by rw [hs51_6]; decide) (by rw [hs51_6]; decide) (by rw [hs51_6]; rfl) (by decide) ?_
                refine r_aload_n hk 5 (dtL_act_0 45 (176, .aload_n 0, 1) rfl) rfl ?_
                refine r_iload hk 2 (dtL_act_0 46 (177, .iload 5, 2) rfl) rfl ?_
                refine r_callItm hk hF (fun c m1 h => nomatch h) (fun R m40 h hf H locs ls hH hS hl => runT_V (y := yX3_pack) hk (in_main 0 (by decide)) rfl rfl (c_X3_pack (kl K) hk.2.2.2.2.2.2.2.2.2.2.2 X  v5 m0 R m40 h) lk_L_70 me_X3_pack yf_X3_pack (by decide) (by decide) rfl (Nat.le_of_ble_eq_true rfl) rfl (dtL_act_0 47 (179, .invokevirtual 70, 3) rfl) hf hH hS hl) (fun v39 m40 hF => ?_)
                cases Option.some.inj hF
                exact g_wid (Nat.le_add_right _ _) (Nat.le_add_right _ _) (hR _ _ (dtL_act_0 48 (182, .ireturn, 1) rfl))
              · rw [if_neg hs51_6] at hF
                by_cases hs51_7 : v10 = 7
                · rw [if_pos hs51_7] at hF
                  refine r_tabIn hk 183 (dtL_act_0 31 (51, .tableswitch 267 0 21 #[101, 101, 101, 101, 101, 116, 125, 132, 141, 141, 141, 141, 141, 148, 148, 148, 148, 148, 208, 230, 230, 237], 101) rfl) (by rw [hs51_7]; decide) (by rw [hs51_7]; decide) (by rw [hs51_7]; rfl) (by decide) ?_
                  refine r_aload_n hk 5 (dtL_act_0 49 (183, .aload_n 0, 1) rfl) rfl ?_
                  refine r_iload hk 2 (dtL_act_0 50 (184, .iload 5, 2) rfl) rfl ?_
                  refine r_iload hk 1 (dtL_act_0 51 (186, .iload 6, 2) rfl) rfl ?_
                  refine r_callItm hk hF (fun c m1 h => nomatch h) (fun R m42 h hf H locs ls hH hS hl => runT_V (y := yX3_index) hk (in_main 0 (by decide)) rfl rfl (c_X3_index (kl K) hk.2.2.2.2.2.2.2.2.2.2.2 X  v5 v7 m0 R m42 h) lk_L_73 me_X3_index yf_X3_index (by decide) (by decide) rfl (Nat.le_of_ble_eq_true rfl) rfl (dtL_act_0 52 (188, .invokevirtual 73, 3) rfl) hf hH hS hl) (fun v41 m42 hF => ?_)
                  cases Option.some.inj hF
                  exact g_wid (Nat.le_add_right _ _) (Nat.le_add_right _ _) (hR _ _ (dtL_act_0 53 (191, .ireturn, 1) rfl))
                · rw [if_neg hs51_7] at hF
                  by_cases hs51_8 : v10 = 8
                  · rw [if_pos hs51_8] at hF
                    refine r_tabIn hk 192 (dtL_act_0 31 (51, .tableswitch 267 0 21 #[101, 101, 101, 101, 101, 116, 125, 132, 141, 141, 141, 141, 141, 148, 148, 148, 148, 148, 208, 230, 230, 237], 101) rfl) (by rw [hs51_8]; decide) (by rw [hs51_8]; decide) (by rw [hs51_8]; rfl) (by decide) ?_
                    exact r_sub hk [5, 2] rfl (j192_30 hF)
                  · rw [if_neg hs51_8] at hF
                    by_cases hs51_9 : v10 = 9
                    · rw [if_pos hs51_9] at hF
                      refine r_tabIn hk 192 (dtL_act_0 31 (51, .tableswitch 267 0 21 #[101, 101, 101, 101, 101, 116, 125, 132, 141, 141, 141, 141, 141, 148, 148, 148, 148, 148, 208, 230, 230, 237], 101) rfl) (by rw [hs51_9]; decide) (by rw [hs51_9]; decide) (by rw [hs51_9]; rfl) (by decide) ?_
                      exact r_sub hk [5, 2] rfl (j192_30 hF)
                    · rw [if_neg hs51_9] at hF
                      by_cases hs51_10 : v10 = 10
                      · rw [if_pos hs51_10] at hF
                        refine r_tabIn hk 192 (dtL_act_0 31 (51, .tableswitch 267 0 21 #[101, 101, 101, 101, 101, 116, 125, 132, 141, 141, 141, 141, 141, 148, 148, 148, 148, 148, 208, 230, 230, 237], 101) rfl) (by rw [hs51_10]; decide) (by rw [hs51_10]; decide) (by rw [hs51_10]; rfl) (by decide) ?_
                        exact r_sub hk [5, 2] rfl (j192_30 hF)
                      · rw [if_neg hs51_10] at hF
                        by_cases hs51_11 : v10 = 11
                        · rw [if_pos hs51_11] at hF
                          refine r_tabIn hk 192 (dtL_act_0 31 (51, .tableswitch 267 0 21 #[101, 101, 101, 101, 101, 116, 125, 132, 141, 141, 141, 141, 141, 148, 148, 148, 148, 148, 208, 230, 230, 237], 101) rfl) (by rw [hs51_11]; decide) (by rw [hs51_11]; decide) (by rw [hs51_11]; rfl) (by decide) ?_
                          exact r_sub hk [5, 2] rfl (j192_30 hF)
                        · rw [if_neg hs51_11] at hF
                          by_cases hs51_12 : v10 = 12
                          · rw [if_pos hs51_12] at hF
                            refine r_tabIn hk 192 (dtL_act_0 31 (51, .tableswitch 267 0 21 #[101, 101, 101, 101, 101, 116, 125, 132, 141, 141, 141, 141, 141, 148, 148, 148, 148, 148, 208, 230, 230, 237], 101) rfl) (by rw [hs51_12]; decide) (by rw [hs51_12]; decide) (by rw [hs51_12]; rfl) (by decide) ?_
                            exact r_sub hk [5, 2] rfl (j192_30 hF)
                          · rw [if_neg hs51_12] at hF
                            by_cases hs51_13 : v10 = 13
                            · rw [if_pos hs51_13] at hF
                              refine r_tabIn hk 199 (dtL_act_0 31 (51, .tableswitch 267 0 21 #[101, 101, 101, 101, 101, 116, 125, 132, 141, 141, 141, 141, 141, 148, 148, 148, 148, 148, 208, 230, 230, 237], 101) rfl) (by rw [hs51_13]; decide) (by rw [hs51_13]; decide) (by rw [hs51_13]; rfl) (by decide) ?_
                              exact r_sub hk [5, 3, 1, 0] rfl (j199_14 hF)
                            · rw [if_neg hs51_13] at hF
                              by_cases hs51_14 : v10 = 14
                              · rw [if_pos hs51_14] at hF
                                refine r_tabIn hk 199 (dtL_act_0 31 (51, .tableswitch 267 0 21 #[101, 101, 101, 101, 101, 116, 125, 132, 141, 141, 141, 141, 141, 148, 148, 148, 148, 148, 208, 230, 230, 237], 101) rfl) (by rw [hs51_14]; decide) (by rw [hs51_14]; decide) (by rw [hs51_14]; rfl) (by decide) ?_
                                exact r_sub hk [5, 3, 1, 0] rfl (j199_14 hF)
                              · rw [if_neg hs51_14] at hF
                                by_cases hs51_15 : v10 = 15
                                · rw [if_pos hs51_15] at hF
                                  refine r_tabIn hk 199 (dtL_act_0 31 (51, .tableswitch 267 0 21 #[101, 101, 101, 101, 101, 116, 125, 132, 141, 141, 141, 141, 141, 148, 148, 148, 148, 148, 208, 230, 230, 237], 101) rfl) (by rw [hs51_15]; decide) (by rw [hs51_15]; decide) (by rw [hs51_15]; rfl) (by decide) ?_
                                  exact r_sub hk [5, 3, 1, 0] rfl (j199_14 hF)
                                · rw [if_neg hs51_15] at hF
                                  by_cases hs51_16 : v10 = 16
                                  · rw [if_pos hs51_16] at hF
                                    refine r_tabIn hk 199 (dtL_act_0 31 (51, .tableswitch 267 0 21 #[101, 101, 101, 101, 101, 116, 125, 132, 141, 141, 141, 141, 141, 148, 148, 148, 148, 148, 208, 230, 230, 237], 101) rfl) (by rw [hs51_16]; decide) (by rw [hs51_16]; decide) (by rw [hs51_16]; rfl) (by decide) ?_
                                    exact r_sub hk [5, 3, 1, 0] rfl (j199_14 hF)
                                  · rw [if_neg hs51_16] at hF
                                    by_cases hs51_17 : v10 = 17
                                    · rw [if_pos hs51_17] at hF
                                      refine r_tabIn hk 199 (dtL_act_0 31 (51, .tableswitch 267 0 21 #[101, 101, 101, 101, 101, 116, 125, 132, 141, 141, 141, 141, 141, 148, 148, 148, 148, 148, 208, 230, 230, 237], 101) rfl) (by rw [hs51_17]; decide) (by rw [hs51_17]; decide) (by rw [hs51_17]; rfl) (by decide) ?_
                                      exact r_sub hk [5, 3, 1, 0] rfl (j199_14 hF)
                                    · rw [if_neg hs51_17] at hF
                                      by_cases hs51_18 : v10 = 18
                                      · rw [if_pos hs51_18] at hF
                                        refine r_tabIn hk 259 (dtL_act_0 31 (51, .tableswitch 267 0 21 #[101, 101, 101, 101, 101, 116, 125, 132, 141, 141, 141, 141, 141, 148, 148, 148, 148, 148, 208, 230, 230, 237], 101) rfl) (by rw [hs51_18]; decide) (by rw [hs51_18]; decide) (by rw [hs51_18]; rfl) (by decide) ?_
                                        refine r_iload hk 0 (dtL_act_1 24 (259, .iload 7, 2) rfl) rfl ?_
                                        have j280_45 : ∀ (v43 : Int32) (m44 : Mem), J_L_act_280 v43 m44 = some (rv, mE) → G X K 280 [] [.int v43] m44 := by
                                          intro v43 m44 hF
                                          unfold J_L_act_280 at hF
                                          cases Option.some.inj hF
                                          exact g_wid (Nat.le_add_right _ _) (Nat.le_add_right _ _) (hR _ _ (dtL_act_1 33 (280, .ireturn, 1) rfl))
                                        refine r_if_ne hk 269 hF (dtL_act_1 25 (261, .ifCond .ne 8, 3) rfl) (by decide) (fun hF => ?_) (fun hF => ?_)
                                        · refine r_aload_n hk 5 (dtL_act_1 28 (269, .aload_n 0, 1) rfl) rfl ?_
                                          refine r_iload hk 3 (dtL_act_1 29 (270, .iload 4, 2) rfl) rfl ?_
                                          refine r_iload hk 0 (dtL_act_1 30 (272, .iload 7, 2) rfl) rfl ?_
                                          refine r_callI hF (fun v46 h H locs ls hH hS hl => run_S hk (c_L_low (kl K) hk.2.2.2.2.2.2.2.2.2.2.2 X  v4 v8 m0 v46 h) lk_L_39 me_L_low yf_L_low (by decide) (by decide) rfl (Nat.le_of_ble_eq_true rfl) rfl (dtL_act_1 31 (274, .invokestatic 39, 3) rfl) hH hS hl) (fun v46 hF => ?_)
                                          refine r_callItm hk hF (fun c m1 h => nomatch h) (fun R m48 h hf H locs ls hH hS hl => runT_V (y := yX3_remove) hk (in_main 0 (by decide)) rfl rfl (c_X3_remove (kl K) hk.2.2.2.2.2.2.2.2.2.2.2 X  v46 m0 R m48 h) lk_L_82 me_X3_remove yf_X3_remove (by decide) (by decide) rfl (Nat.le_of_ble_eq_true rfl) rfl (dtL_act_1 32 (277, .invokevirtual 82, 3) rfl) hf hH hS hl) (fun v47 m48 hF => ?_)
                                          exact r_sub hk [] rfl (j280_45 v47 m48 hF)
                                        · refine r_bipush (v := (-30)) hk (dtL_act_1 26 (264, .bipush (-30), 2) rfl) (by decide) ?_
                                          refine r_goto hk 280 (dtL_act_1 27 (266, .goto 14, 3) rfl) (by decide) ?_
                                          exact r_sub hk [] rfl (j280_45 (-30) m0 hF)
                                      · rw [if_neg hs51_18] at hF
                                        by_cases hs51_19 : v10 = 19
                                        · rw [if_pos hs51_19] at hF
                                          refine r_tabIn hk 281 (dtL_act_0 31 (51, .tableswitch 267 0 21 #[101, 101, 101, 101, 101, 116, 125, 132, 141, 141, 141, 141, 141, 148, 148, 148, 148, 148, 208, 230, 230, 237], 101) rfl) (by rw [hs51_19]; decide) (by rw [hs51_19]; decide) (by rw [hs51_19]; rfl) (by decide) ?_
                                          exact r_sub hk [5, 2] rfl (j281_11 hF)
                                        · rw [if_neg hs51_19] at hF
                                          by_cases hs51_20 : v10 = 20
                                          · rw [if_pos hs51_20] at hF
                                            refine r_tabIn hk 281 (dtL_act_0 31 (51, .tableswitch 267 0 21 #[101, 101, 101, 101, 101, 116, 125, 132, 141, 141, 141, 141, 141, 148, 148, 148, 148, 148, 208, 230, 230, 237], 101) rfl) (by rw [hs51_20]; decide) (by rw [hs51_20]; decide) (by rw [hs51_20]; rfl) (by decide) ?_
                                            exact r_sub hk [5, 2] rfl (j281_11 hF)
                                          · rw [if_neg hs51_20] at hF
                                            by_cases hs51_21 : v10 = 21
                                            · rw [if_pos hs51_21] at hF
                                              refine r_tabIn hk 288 (dtL_act_0 31 (51, .tableswitch 267 0 21 #[101, 101, 101, 101, 101, 116, 125, 132, 141, 141, 141, 141, 141, 148, 148, 148, 148, 148, 208, 230, 230, 237], 101) rfl) (by rw [hs51_21]; decide) (by rw [hs51_21]; decide) (by rw [hs51_21]; rfl) (by decide) ?_
                                              refine r_aload_n hk 5 (dtL_act_1 38 (288, .aload_n 0, 1) rfl) rfl ?_
                                              refine r_iload hk 2 (dtL_act_1 39 (289, .iload 5, 2) rfl) rfl ?_
                                              refine r_iload hk 3 (dtL_act_1 40 (291, .iload 4, 2) rfl) rfl ?_
                                              refine r_iconst (v := 2) hk (dtL_act_1 41 (293, .iconst 2, 1) rfl) (by decide) ?_
                                              refine r_callI hF (fun v49 h H locs ls hH hS hl => run_S hk (c_L_low (kl K) hk.2.2.2.2.2.2.2.2.2.2.2 X  v4 2 m0 v49 h) lk_L_39 me_L_low yf_L_low (by decide) (by decide) rfl (Nat.le_of_ble_eq_true rfl) rfl (dtL_act_1 42 (294, .invokestatic 39, 3) rfl) hH hS hl) (fun v49 hF => ?_)
                                              have j305_51 : ∀ (v50 : Int32), (J_L_act_305 m0 v4 v5) v50 = some (rv, mE) → G X K 305 [(4, .int v4)] [.int v50, .int v5, .ref (xad X (0, 0, 0, 0))] m0 := by
                                                intro v50 hF
                                                unfold J_L_act_305 at hF
                                                refine r_iload hk 0 (dtL_act_1 47 (305, .iload 4, 2) rfl) rfl ?_
                                                refine r_iconst (v := 3) hk (dtL_act_1 48 (307, .iconst 3, 1) rfl) (by decide) ?_
                                                refine r_ishr hk hF (dtL_act_1 49 (308, .ishr, 1) rfl) (fun v52 hF => ?_)
                                                refine r_bipush (v := 9) hk (dtL_act_1 50 (309, .bipush 9, 2) rfl) (by decide) ?_
                                                refine r_callI hF (fun v53 h H locs ls hH hS hl => run_S hk (c_L_low (kl K) hk.2.2.2.2.2.2.2.2.2.2.2 X  v52 9 m0 v53 h) lk_L_39 me_L_low yf_L_low (by decide) (by decide) rfl (Nat.le_of_ble_eq_true rfl) rfl (dtL_act_1 51 (311, .invokestatic 39, 3) rfl) hH hS hl) (fun v53 hF => ?_)
                                                refine r_callItm hk hF (fun c m1 h => nomatch h) (fun R m55 h hf H locs ls hH hS hl => runT_V (y := yX3_limit) hk (in_main 0 (by decide)) rfl rfl (c_X3_limit (kl K) hk.2.2.2.2.2.2.2.2.2.2.2 X  v5 v50 v53 m0 R m55 h) lk_L_88 me_X3_limit yf_X3_limit (by decide) (by decide) rfl (Nat.le_of_ble_eq_true rfl) rfl (dtL_act_1 52 (314, .invokevirtual 88, 3) rfl) hf hH hS hl) (fun v54 m55 hF => ?_)
                                                cases Option.some.inj hF
                                                exact g_wid (Nat.le_add_right _ _) (Nat.le_add_right _ _) (hR _ _ (dtL_act_1 53 (317, .ireturn, 1) rfl))
                                              refine r_if_ne hk 304 hF (dtL_act_1 43 (297, .ifCond .ne 7, 3) rfl) (by decide) (fun hF => ?_) (fun hF => ?_)
                                              · refine r_iconst (v := 0) hk (dtL_act_1 46 (304, .iconst 0, 1) rfl) (by decide) ?_
                                                exact r_sub hk [3] rfl (j305_51 0 hF)
                                              · refine r_iconst (v := 1) hk (dtL_act_1 44 (300, .iconst 1, 1) rfl) (by decide) ?_
                                                refine r_goto hk 305 (dtL_act_1 45 (301, .goto 4, 3) rfl) (by decide) ?_
                                                exact r_sub hk [3] rfl (j305_51 1 hF)
                                            · rw [if_neg hs51_21] at hF
                                              refine r_tabOut hk 318 (dtL_act_0 31 (51, .tableswitch 267 0 21 #[101, 101, 101, 101, 101, 116, 125, 132, 141, 141, 141, 141, 141, 148, 148, 148, 148, 148, 208, 230, 230, 237], 101) rfl) (by have q0 := lv_neT hs51_0 (a := 0) rfl; have q1 := lv_neT hs51_1 (a := 1) rfl; have q2 := lv_neT hs51_2 (a := 2) rfl; have q3 := lv_neT hs51_3 (a := 3) rfl; have q4 := lv_neT hs51_4 (a := 4) rfl; have q5 := lv_neT hs51_5 (a := 5) rfl; have q6 := lv_neT hs51_6 (a := 6) rfl; have q7 := lv_neT hs51_7 (a := 7) rfl; have q8 := lv_neT hs51_8 (a := 8) rfl; have q9 := lv_neT hs51_9 (a := 9) rfl; have q10 := lv_neT hs51_10 (a := 10) rfl; have q11 := lv_neT hs51_11 (a := 11) rfl; have q12 := lv_neT hs51_12 (a := 12) rfl; have q13 := lv_neT hs51_13 (a := 13) rfl; have q14 := lv_neT hs51_14 (a := 14) rfl; have q15 := lv_neT hs51_15 (a := 15) rfl; have q16 := lv_neT hs51_16 (a := 16) rfl; have q17 := lv_neT hs51_17 (a := 17) rfl; have q18 := lv_neT hs51_18 (a := 18) rfl; have q19 := lv_neT hs51_19 (a := 19) rfl; have q20 := lv_neT hs51_20 (a := 20) rfl; have q21 := lv_neT hs51_21 (a := 21) rfl; omega) (by decide) ?_
                                              refine r_aload_n hk 5 (dtL_act_1 54 (318, .aload_n 0, 1) rfl) rfl ?_
                                              refine r_callH hroom hF (fun v56 m57 h H locs ls hH hS hl => run_SW hk hroom (c_L_undo (kl K) hk.2.2.2.2.2.2.2.2.2.2.2 X m0 v56 m57 h) lk_L_92 mh_L_undo yf_L_undo (by decide) (by decide) rfl (Nat.le_of_ble_eq_true rfl) rfl (dtL_act_1 55 (319, .invokestatic 92, 3) rfl) hH hS hl) (fun v56 m57 hF => ?_)
                                              cases Option.some.inj hF
                                              exact hR _ _ (dtL_act_1 56 (322, .ireturn, 1) rfl)
