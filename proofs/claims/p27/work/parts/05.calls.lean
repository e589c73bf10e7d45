/-! contracts over the memory, calls, a method's start and its ends -/
def Pic (X : XW) (m : Mem) (U : State) : Prop := Old X U ∧ Hp X m U.heap
abbrev rmd (d k : Nat) : Room := { frames := d, cells := k, slots := 6 * k, locals := 36 * d }
abbrev PcX (X : XW) (m : Mem) (As : List Value) : Array Value → State → Prop := va_Pc As (Pic X m)
theorem PcX.blind {X : XW} {m : Mem} {As : List Value} : FrameBlind (PcX X m As) := fun a U g mk h => ⟨h.1, h.2.1.same rfl rfl, h.2.2⟩
abbrev QI (X : XW) (v : Int32) (m1 : Mem) : Array Value → State → Outcome → State → Prop := va_Qi (fun (w : Int32) (_ : Unit) => w = v) (fun _ t => Hp X m1 t.heap) (xA X)
abbrev QL (X : XW) (v : Int64) (m1 : Mem) : Array Value → State → Outcome → State → Prop := va_Ql (fun (w : Int64) (_ : Unit) => w = v) (fun _ t => Hp X m1 t.heap) (xA X)
abbrev QD (X : XW) (v : UInt64) (m1 : Mem) : Array Value → State → Outcome → State → Prop := va_Qd (fun (w : UInt64) (_ : Unit) => w = v) (fun _ t => Hp X m1 t.heap) (xA X)
abbrev QV (X : XW) (m1 : Mem) : Array Value → State → Outcome → State → Prop := va_Qv (fun (_ : Unit) => True) (fun _ t => Hp X m1 t.heap) (xA X)
abbrev QR (X : XW) (a : Nat) (m1 : Mem) : Array Value → State → Outcome → State → Prop := va_Qr (fun (_ : Unit) => True) (fun _ ra t => ra = a ∧ Hp X m1 t.heap) (xA X)
abbrev MX (X : XW) (l : Launch) (y : MethodName) (b : ByteArray) (n : Nat) (ret : Option FieldType) (d : Nat) (As : List Value) (m : Mem) (Qc : Array Value → State → Outcome → State → Prop) : Prop := Met l y [.code y b n ret] (rmd d 0) (PcX X m As) Qc 0 0 (xA X)
/-- the exceptions' numbers -/
def en : Nat → String
  | 0 => "java/lang/IllegalArgumentException"
  | 1 => "java/lang/IllegalStateException"
  | _ => "java/lang/IndexOutOfBoundsException"
def mcR {β : Type} : β ⊕ Nat → Nat
  | .inl _ => 0
  | .inr _ => 1
abbrev QTI (X : XW) (R : Int32 ⊕ Nat) (m1 : Mem) : Array Value → State → Outcome → State → Prop := va_Qi (fun (w : Int32) (_ : Unit) => R = .inl w) (fun _ t => Hp X m1 t.heap) (xA X)
abbrev QTV (X : XW) (R : Unit ⊕ Nat) (m1 : Mem) : Array Value → State → Outcome → State → Prop := va_Qv (fun (_ : Unit) => R = .inl ()) (fun _ t => Hp X m1 t.heap) (xA X)
abbrev XCx {β : Type} (X : XW) (R : β ⊕ Nat) (m1 : Mem) : String → State → State → Prop := vx_X (fun (_ : Unit) => True) (fun E _ t => (∃ c, R = .inr c ∧ E = en c) ∧ Hp X m1 t.heap) (xA X)
abbrev MT {β : Type} (X : XW) (l : Launch) (y : MethodName) (b : ByteArray) (n : Nat) (ret : Option FieldType) (d : Nat) (As : List Value) (m : Mem) (R : β ⊕ Nat) (m1 : Mem) (Qc : Array Value → State → Outcome → State → Prop) : Prop := vx_Met l y [.code y b n ret] (rmd d (mcR R)) (PcX X m As) Qc (XCx X R m1) (mcR R) (6 * mcR R) (xA X)
-- what the tables say of a method, and of a call of it
def YF (y : MethodName) (k : Nat) : Prop := (y.cls ≠ "java/lang/invoke/MethodHandle" ∧ y.cls ≠ "java/lang/invoke/VarHandle") ∧ (parseMethodDescriptor y.desc).map (fun d => d.parameters.length) = some k
def MeV (y : MethodName) (b : ByteArray) (n : Nat) (ret : Option FieldType) : Prop := ∀ (a : Array Value) (U : State), Wd U → (Cond.instanceMethod y).before a U = true ∧ (Cond.selects y.cls y y).before a U = true ∧ (Cond.initialized y.cls).before a U = true ∧ (Cond.code y b n ret).before a U = true
def MeS (y : MethodName) (b : ByteArray) (n : Nat) (ret : Option FieldType) : Prop := ∀ (a : Array Value) (U : State), Wd U → (Cond.static y).before a U = true ∧ (Cond.initialized y.cls).before a U = true ∧ (Cond.code y b n ret).before a U = true
def Lk (own : String) (ix : Nat) (y : MethodName) : Prop := ∀ (a : Array Value) (U : State), Wd U → (Cond.methodLink own ix y).before a U = true
def LkN (own : String) (ix : Nat) (y : MethodName) (host : String) : Prop := ∀ (a : Array Value) (U : State), Wd U → (Cond.methodLinkNest own ix y host).before a U = true
theorem code_stays {y : MethodName} {b : ByteArray} {n : Nat} {ret : Option FieldType} {a : Array Value} {s : State} (h : (Cond.code y b n ret).before a s = true) : ∀ w ∈ ([.code y b n ret] : List Cond), ∀ (a' : Array Value) (U : State), s.WarmedH U.vm → w.before a' U = true := by
  intro w hw a' U hW
  rw [List.mem_singleton] at hw
  subst hw
  exact word_at hW (Or.inl rfl) h
section CALLS
variable {X : XW} {K : MC} {own : String} {cc : ByteArray} {n d pc : Nat} {lv : List (Nat × Value)} {rest stk : List Value} {mm : Mem} {α : Type} {r : α}
variable {y : MethodName} {b : ByteArray} {nL k ix d1 : Nat} {ret : Option FieldType} {As : List Value} {Qc : Array Value → State → Outcome → State → Prop}
theorem callB_mk (hk : Ok X K own cc n d) (c : Nat) (hc : (Cond.code y b nL ret).before (ka K) (ks K) = true) (hi : (Cond.initialized y.cls).before (ka K) (ks K) = true) (hl : (Cond.methodLink own ix y).before (ka K) (ks K) = true) (hy : YF y k) (hd : d1 + 1 ≤ d) (hn : nL ≤ 17) :
    CallB (kR K) (ks K) (ka K) own ix y b nL ret [.code y b nL ret] (rmd d1 c) c (6 * c) k := by
  have hR1 := hk.2.2.2.2.2.2.2.1
  have hR2 := hk.2.2.2.2.2.2.2.2.1
  refine ⟨rfl, rfl, by show d1 + 1 ≤ _; omega, by show 8 + (nL + 11) + 36 * d1 ≤ _; omega, code_stays hc, List.mem_cons_self, hc, hi, hy.1, fun sig h => ?_, hl⟩
  have h2 := hy.2
  rw [h] at h2
  exact (Option.some.inj h2).symm
theorem callN_mk {host : String} (hk : Ok X K own cc n d) (c : Nat) (hc : (Cond.code y b nL ret).before (ka K) (ks K) = true) (hi : (Cond.initialized y.cls).before (ka K) (ks K) = true) (hl : (Cond.methodLinkNest own ix y host).before (ka K) (ks K) = true) (hy : YF y k) (hd : d1 + 1 ≤ d) (hn : nL ≤ 17) :
    va_CN (kR K) (ks K) (ka K) own ix y host b nL ret [.code y b nL ret] (rmd d1 c) c (6 * c) k := by
  have hR1 := hk.2.2.2.2.2.2.2.1
  have hR2 := hk.2.2.2.2.2.2.2.2.1
  refine ⟨⟨rfl, rfl, by show d1 + 1 ≤ _; omega, by show 8 + (nL + 11) + 36 * d1 ≤ _; omega, code_stays hc, List.mem_cons_self⟩, hc, hi, hy.1, fun sig h => ?_, hl⟩
  have h2 := hy.2
  rw [h] at h2
  exact (Option.some.inj h2).symm
theorem preV_mk (hk : Ok X K own cc n d) {H : Heap} {locs : List Loc} {lb : Lb} {ci : Nat} {fs : List Value} {C : String} {T : u_T} {N : Nat} (hH : Hp X mm H) (hS : va_S (xA X) (ks K).heap H locs) (hlb : lb ∈ lbs) (hce : ce X lb mm = .inr (ci, fs)) (hc : vwCl[ci]? = some (C, T, N)) :
    PreV (ks K) H C (xad X lb) (PcX X mm (.ref (xad X lb) :: As)) As := by
  obtain ⟨q, -, hq⟩ := cel_at X mm hlb
  rw [hce] at hq
  refine ⟨PcX.blind, va_recv (q := (C, T, N)) hk.2.2.2.2.2.1.2.1 hH.1 hc hq, fun U hU hW => ⟨rfl, hk.2.2.2.2.2.1.moved hW (locs := locs) (by rw [hU]; exact hS), by rw [hU]; exact hH⟩⟩
theorem preS_mk (hk : Ok X K own cc n d) {H : Heap} {locs : List Loc} (hH : Hp X mm H) (hS : va_S (xA X) (ks K).heap H locs) : PreS (ks K) H (PcX X mm As) As :=
  ⟨PcX.blind, fun U hU hW => ⟨rfl, hk.2.2.2.2.2.1.moved hW (locs := locs) (by rw [hU]; exact hS), by rw [hU]; exact hH⟩⟩
theorem fix_mk (hk : Ok X K own cc n d) : CallFix (kp K) (km K) (kc K) cc n (ks K) (ka K) [] own := ⟨hk.1, hk.2.1, hk.2.2.1, hk.2.2.2.2.1, fun w h => nomatch h⟩

theorem run_V (hk : Ok X K own cc n d) {lb : Lb} {ci : Nat} {fs : List Value} {T : u_T} {N : Nat} (hlb : lb ∈ lbs) (hce : ce X lb mm = .inr (ci, fs)) (hc : vwCl[ci]? = some (y.cls, T, N)) (hM : MX X (kl K) y b nL ret d1 (.ref (xad X lb) :: As) mm Qc) (hL : Lk own ix y) (hm : MeV y b nL ret) (hy : YF y k) (hdd : d1 + 1 ≤ d) (hnL : nL ≤ 17) (hn : As.length = k) (hst : (rest.map fun v => v.category).sum ≤ 8) (hs : stk = As.reverse ++ .ref (xad X lb) :: rest) (hd : decode cc pc = .ok (.invokevirtual ix, 3)) {H : Heap} {locs : List Loc} {ls : Array Slot} (hH : Hp X mm H) (hS : va_S (xA X) (ks K).heap H locs) (hl : lv_has ls (kn K) lv) : va_Run (kp K) (kl K) (ke K) (kR K) (ks K) (km K) (ka K) (kb K) (kmt K) (kc K) H locs (kce K) (ksl K) 0 0 (F0 (km K) pc ls stk) rest (Qc (Value.ref (xad X lb) :: As).toArray) (xA X) := by
  obtain ⟨m1', m2, m3, m4⟩ := hm (ka K) (ks K) hk.2.2.2.2.2.1.1
  exact va_runV (fix_mk hk) hM ⟨callB_mk hk 0 m4 m3 (hL _ _ hk.2.2.2.2.2.1.1) hy hdd hnL, m1', m2⟩ (preV_mk hk hH hS hlb hce hc) rfl hn (by show ls.size = n; rw [hl.1, hk.2.2.2.1]) hs (lv_room hst) hd ⟨hk.2.2.2.2.2.2.2.2.2.1, hk.2.2.2.2.2.2.2.2.2.2.1⟩
theorem run_S (hk : Ok X K own cc n d) (hM : MX X (kl K) y b nL ret d1 As mm Qc) (hL : Lk own ix y) (hm : MeS y b nL ret) (hy : YF y k) (hdd : d1 + 1 ≤ d) (hnL : nL ≤ 17) (hn : As.length = k) (hst : (rest.map fun v => v.category).sum ≤ 8) (hs : stk = As.reverse ++ rest) (hd : decode cc pc = .ok (.invokestatic ix, 3)) {H : Heap} {locs : List Loc} {ls : Array Slot} (hH : Hp X mm H) (hS : va_S (xA X) (ks K).heap H locs) (hl : lv_has ls (kn K) lv) : va_Run (kp K) (kl K) (ke K) (kR K) (ks K) (km K) (ka K) (kb K) (kmt K) (kc K) H locs (kce K) (ksl K) 0 0 (F0 (km K) pc ls stk) rest (Qc As.toArray) (xA X) := by
  obtain ⟨m2, m3, m4⟩ := hm (ka K) (ks K) hk.2.2.2.2.2.1.1
  exact va_runS (fix_mk hk) hM ⟨callB_mk hk 0 m4 m3 (hL _ _ hk.2.2.2.2.2.1.1) hy hdd hnL, m2⟩ (preS_mk hk hH hS) rfl hn (by show ls.size = n; rw [hl.1, hk.2.2.2.1]) hs (lv_room hst) hd ⟨hk.2.2.2.2.2.2.2.2.2.1, hk.2.2.2.2.2.2.2.2.2.2.1⟩
theorem run_VN (hk : Ok X K own cc n d) {host : String} {lb : Lb} {ci : Nat} {fs : List Value} {T : u_T} {N : Nat} (hlb : lb ∈ lbs) (hce : ce X lb mm = .inr (ci, fs)) (hc : vwCl[ci]? = some (y.cls, T, N)) (hM : MX X (kl K) y b nL ret d1 (.ref (xad X lb) :: As) mm Qc) (hL : LkN own ix y host) (hm : MeV y b nL ret) (hy : YF y k) (hdd : d1 + 1 ≤ d) (hnL : nL ≤ 17) (hn : As.length = k) (hst : (rest.map fun v => v.category).sum ≤ 8) (hs : stk = As.reverse ++ .ref (xad X lb) :: rest) (hd : decode cc pc = .ok (.invokevirtual ix, 3)) {H : Heap} {locs : List Loc} {ls : Array Slot} (hH : Hp X mm H) (hS : va_S (xA X) (ks K).heap H locs) (hl : lv_has ls (kn K) lv) : va_Run (kp K) (kl K) (ke K) (kR K) (ks K) (km K) (ka K) (kb K) (kmt K) (kc K) H locs (kce K) (ksl K) 0 0 (F0 (km K) pc ls stk) rest (Qc (Value.ref (xad X lb) :: As).toArray) (xA X) := by
  obtain ⟨m1', m2, m3, m4⟩ := hm (ka K) (ks K) hk.2.2.2.2.2.1.1
  exact va_runVN (fix_mk hk) hM ⟨callN_mk hk 0 m4 m3 (hL _ _ hk.2.2.2.2.2.1.1) hy hdd hnL, m1', m2⟩ (preV_mk hk hH hS hlb hce hc) rfl hn (by show ls.size = n; rw [hl.1, hk.2.2.2.1]) hs (lv_room hst) hd ⟨hk.2.2.2.2.2.2.2.2.2.1, hk.2.2.2.2.2.2.2.2.2.2.1⟩
theorem run_SN (hk : Ok X K own cc n d) {host : String} (hM : MX X (kl K) y b nL ret d1 As mm Qc) (hL : LkN own ix y host) (hm : MeS y b nL ret) (hy : YF y k) (hdd : d1 + 1 ≤ d) (hnL : nL ≤ 17) (hn : As.length = k) (hst : (rest.map fun v => v.category).sum ≤ 8) (hs : stk = As.reverse ++ rest) (hd : decode cc pc = .ok (.invokestatic ix, 3)) {H : Heap} {locs : List Loc} {ls : Array Slot} (hH : Hp X mm H) (hS : va_S (xA X) (ks K).heap H locs) (hl : lv_has ls (kn K) lv) : va_Run (kp K) (kl K) (ke K) (kR K) (ks K) (km K) (ka K) (kb K) (kmt K) (kc K) H locs (kce K) (ksl K) 0 0 (F0 (km K) pc ls stk) rest (Qc As.toArray) (xA X) := by
  obtain ⟨m2, m3, m4⟩ := hm (ka K) (ks K) hk.2.2.2.2.2.1.1
  exact va_runSN (fix_mk hk) hM ⟨callN_mk hk 0 m4 m3 (hL _ _ hk.2.2.2.2.2.1.1) hy hdd hnL, m2, trivial⟩ (preS_mk hk hH hS) rfl hn (by show ls.size = n; rw [hl.1, hk.2.2.2.1]) hs (lv_room hst) hd ⟨hk.2.2.2.2.2.2.2.2.2.1, hk.2.2.2.2.2.2.2.2.2.2.1⟩
theorem runT_V (hk : Ok X K own cc n d) {β : Type} {R : β ⊕ Nat} {m1 : Mem} {lb : Lb} {ci : Nat} {fs : List Value} {T : u_T} {N : Nat} (hlb : lb ∈ lbs) (hce : ce X lb mm = .inr (ci, fs)) (hc : vwCl[ci]? = some (y.cls, T, N)) (hM : MT X (kl K) y b nL ret d1 (.ref (xad X lb) :: As) mm R m1 Qc) (hL : Lk own ix y) (hm : MeV y b nL ret) (hy : YF y k) (hdd : d1 + 1 ≤ d) (hnL : nL ≤ 17) (hn : As.length = k) (hst : (rest.map fun v => v.category).sum ≤ 8) (hs : stk = As.reverse ++ .ref (xad X lb) :: rest) (hd : decode cc pc = .ok (.invokevirtual ix, 3)) (hf : kce K + mcR R ≤ (kR K).cells ∧ ksl K + 6 * mcR R ≤ (kR K).slots) {H : Heap} {locs : List Loc} {ls : Array Slot} (hH : Hp X mm H) (hS : va_S (xA X) (ks K).heap H locs) (hl : lv_has ls (kn K) lv) : vx_Run (kp K) (kl K) (ke K) (kR K) (ks K) (km K) (ka K) (kb K) (kmt K) (kc K) H locs (kce K) (ksl K) (mcR R) (6 * mcR R) (F0 (km K) pc ls stk) rest (Qc (Value.ref (xad X lb) :: As).toArray) (XCx X R m1) (xA X) := by
  obtain ⟨m1', m2, m3, m4⟩ := hm (ka K) (ks K) hk.2.2.2.2.2.1.1
  exact vx_runV (fix_mk hk) hM ⟨callB_mk hk (mcR R) m4 m3 (hL _ _ hk.2.2.2.2.2.1.1) hy hdd hnL, m1', m2⟩ (preV_mk hk hH hS hlb hce hc) rfl hn (by show ls.size = n; rw [hl.1, hk.2.2.2.1]) hs (lv_room hst) hd hf
theorem runT_S (hk : Ok X K own cc n d) {β : Type} {R : β ⊕ Nat} {m1 : Mem} (hM : MT X (kl K) y b nL ret d1 As mm R m1 Qc) (hL : Lk own ix y) (hm : MeS y b nL ret) (hy : YF y k) (hdd : d1 + 1 ≤ d) (hnL : nL ≤ 17) (hn : As.length = k) (hst : (rest.map fun v => v.category).sum ≤ 8) (hs : stk = As.reverse ++ rest) (hd : decode cc pc = .ok (.invokestatic ix, 3)) (hf : kce K + mcR R ≤ (kR K).cells ∧ ksl K + 6 * mcR R ≤ (kR K).slots) {H : Heap} {locs : List Loc} {ls : Array Slot} (hH : Hp X mm H) (hS : va_S (xA X) (ks K).heap H locs) (hl : lv_has ls (kn K) lv) : vx_Run (kp K) (kl K) (ke K) (kR K) (ks K) (km K) (ka K) (kb K) (kmt K) (kc K) H locs (kce K) (ksl K) (mcR R) (6 * mcR R) (F0 (km K) pc ls stk) rest (Qc As.toArray) (XCx X R m1) (xA X) := by
  obtain ⟨m2, m3, m4⟩ := hm (ka K) (ks K) hk.2.2.2.2.2.1.1
  exact vx_runS (fix_mk hk) hM ⟨callB_mk hk (mcR R) m4 m3 (hL _ _ hk.2.2.2.2.2.1.1) hy hdd hnL, m2⟩ (preS_mk hk hH hS) rfl hn (by show ls.size = n; rw [hl.1, hk.2.2.2.1]) hs (lv_room hst) hd hf
def bm {α β : Type} (x : Option (β × Mem)) (f : β → Mem → Option α) : Option α := match x with
  | some (v, m) => f v m
  | none => none
def bo {α β : Type} (x : Option β) (f : β → Option α) : Option α := match x with
  | some v => f v
  | none => none
/-- a call that may throw -/
def bts {β δ : Type} (x : Option (β ⊕ Nat)) (ex : Nat → Option δ) (f : β → Option δ) : Option δ := match x with
  | some (.inl v) => f v
  | some (.inr c) => ex c
  | none => none
def btm {β δ : Type} (x : Option ((β ⊕ Nat) × Mem)) (ex : Nat → Mem → Option δ) (f : β → Mem → Option δ) : Option δ := match x with
  | some (.inl v, m) => f v m
  | some (.inr c, m) => ex c m
  | none => none

theorem r_callI {a : Array Value} {F : Option Int32} {f : Int32 → Option α} (hF : bo F f = some r) (run : ∀ v, F = some v → ∀ H locs ls, Hp X mm H → va_S (xA X) (ks K).heap H locs → lv_has ls (kn K) lv → va_Run (kp K) (kl K) (ke K) (kR K) (ks K) (km K) (ka K) (kb K) (kmt K) (kc K) H locs (kce K) (ksl K) 0 0 (F0 (km K) pc ls stk) rest (QI X v mm a) (xA X)) (g : ∀ v, f v = some r → G X K (pc + 3) lv (.int v :: rest) mm) : G X K pc lv stk mm := by
  intro H locs ls hH hS hl
  cases hv : F with
  | none => rw [hv] at hF; cases hF
  | some v =>
    rw [hv] at hF
    refine va_calli (run v hv H locs ls hH hS hl) hS (fun q _ h => h) (fun q h => h) (fun w u t H1 locs1 ht hvm hw hB hz hk1 hS1 => ?_)
    subst hw
    rw [ht] at hB
    exact g _ hF H1 locs1 ls hB hS1 hl
theorem r_callIm {a : Array Value} {F : Option (Int32 × Mem)} {f : Int32 → Mem → Option α} (hF : bm F f = some r) (run : ∀ v m1, F = some (v, m1) → ∀ H locs ls, Hp X mm H → va_S (xA X) (ks K).heap H locs → lv_has ls (kn K) lv → va_Run (kp K) (kl K) (ke K) (kR K) (ks K) (km K) (ka K) (kb K) (kmt K) (kc K) H locs (kce K) (ksl K) 0 0 (F0 (km K) pc ls stk) rest (QI X v m1 a) (xA X)) (g : ∀ v m1, f v m1 = some r → G X K (pc + 3) lv (.int v :: rest) m1) : G X K pc lv stk mm := by
  intro H locs ls hH hS hl
  cases hv : F with
  | none => rw [hv] at hF; cases hF
  | some vm =>
    obtain ⟨v, m1⟩ := vm
    rw [hv] at hF
    refine va_calli (run v m1 hv H locs ls hH hS hl) hS (fun q _ h => h) (fun q h => h) (fun w u t H1 locs1 ht hvm hw hB hz hk1 hS1 => ?_)
    subst hw
    rw [ht] at hB
    exact g _ _ hF H1 locs1 ls hB hS1 hl
theorem r_callL {a : Array Value} {F : Option Int64} {f : Int64 → Option α} (hF : bo F f = some r) (run : ∀ v, F = some v → ∀ H locs ls, Hp X mm H → va_S (xA X) (ks K).heap H locs → lv_has ls (kn K) lv → va_Run (kp K) (kl K) (ke K) (kR K) (ks K) (km K) (ka K) (kb K) (kmt K) (kc K) H locs (kce K) (ksl K) 0 0 (F0 (km K) pc ls stk) rest (QL X v mm a) (xA X)) (g : ∀ v, f v = some r → G X K (pc + 3) lv (.long v :: rest) mm) : G X K pc lv stk mm := by
  intro H locs ls hH hS hl
  cases hv : F with
  | none => rw [hv] at hF; cases hF
  | some v =>
    rw [hv] at hF
    refine va_calll (run v hv H locs ls hH hS hl) hS (fun q _ h => h) (fun q h => h) (fun w u t H1 locs1 ht hvm hw hB hz hk1 hS1 => ?_)
    subst hw
    rw [ht] at hB
    exact g _ hF H1 locs1 ls hB hS1 hl
theorem r_callLm {a : Array Value} {F : Option (Int64 × Mem)} {f : Int64 → Mem → Option α} (hF : bm F f = some r) (run : ∀ v m1, F = some (v, m1) → ∀ H locs ls, Hp X mm H → va_S (xA X) (ks K).heap H locs → lv_has ls (kn K) lv → va_Run (kp K) (kl K) (ke K) (kR K) (ks K) (km K) (ka K) (kb K) (kmt K) (kc K) H locs (kce K) (ksl K) 0 0 (F0 (km K) pc ls stk) rest (QL X v m1 a) (xA X)) (g : ∀ v m1, f v m1 = some r → G X K (pc + 3) lv (.long v :: rest) m1) : G X K pc lv stk mm := by
  intro H locs ls hH hS hl
  cases hv : F with
  | none => rw [hv] at hF; cases hF
  | some vm =>
    obtain ⟨v, m1⟩ := vm
    rw [hv] at hF
    refine va_calll (run v m1 hv H locs ls hH hS hl) hS (fun q _ h => h) (fun q h => h) (fun w u t H1 locs1 ht hvm hw hB hz hk1 hS1 => ?_)
    subst hw
    rw [ht] at hB
    exact g _ _ hF H1 locs1 ls hB hS1 hl
theorem r_callD {a : Array Value} {F : Option UInt64} {f : UInt64 → Option α} (hF : bo F f = some r) (run : ∀ v, F = some v → ∀ H locs ls, Hp X mm H → va_S (xA X) (ks K).heap H locs → lv_has ls (kn K) lv → va_Run (kp K) (kl K) (ke K) (kR K) (ks K) (km K) (ka K) (kb K) (kmt K) (kc K) H locs (kce K) (ksl K) 0 0 (F0 (km K) pc ls stk) rest (QD X v mm a) (xA X)) (g : ∀ v, f v = some r → G X K (pc + 3) lv (.double v :: rest) mm) : G X K pc lv stk mm := by
  intro H locs ls hH hS hl
  cases hv : F with
  | none => rw [hv] at hF; cases hF
  | some v =>
    rw [hv] at hF
    refine va_calld (run v hv H locs ls hH hS hl) hS (fun q _ h => h) (fun q h => h) (fun w u t H1 locs1 ht hvm hw hB hz hk1 hS1 => ?_)
    subst hw
    rw [ht] at hB
    exact g _ hF H1 locs1 ls hB hS1 hl
theorem r_callDm {a : Array Value} {F : Option (UInt64 × Mem)} {f : UInt64 → Mem → Option α} (hF : bm F f = some r) (run : ∀ v m1, F = some (v, m1) → ∀ H locs ls, Hp X mm H → va_S (xA X) (ks K).heap H locs → lv_has ls (kn K) lv → va_Run (kp K) (kl K) (ke K) (kR K) (ks K) (km K) (ka K) (kb K) (kmt K) (kc K) H locs (kce K) (ksl K) 0 0 (F0 (km K) pc ls stk) rest (QD X v m1 a) (xA X)) (g : ∀ v m1, f v m1 = some r → G X K (pc + 3) lv (.double v :: rest) m1) : G X K pc lv stk mm := by
  intro H locs ls hH hS hl
  cases hv : F with
  | none => rw [hv] at hF; cases hF
  | some vm =>
    obtain ⟨v, m1⟩ := vm
    rw [hv] at hF
    refine va_calld (run v m1 hv H locs ls hH hS hl) hS (fun q _ h => h) (fun q h => h) (fun w u t H1 locs1 ht hvm hw hB hz hk1 hS1 => ?_)
    subst hw
    rw [ht] at hB
    exact g _ _ hF H1 locs1 ls hB hS1 hl
theorem r_callVm {a : Array Value} {F : Option (Unit × Mem)} {f : Unit → Mem → Option α} (hF : bm F f = some r) (run : ∀ v m1, F = some (v, m1) → ∀ H locs ls, Hp X mm H → va_S (xA X) (ks K).heap H locs → lv_has ls (kn K) lv → va_Run (kp K) (kl K) (ke K) (kR K) (ks K) (km K) (ka K) (kb K) (kmt K) (kc K) H locs (kce K) (ksl K) 0 0 (F0 (km K) pc ls stk) rest (QV X m1 a) (xA X)) (g : ∀ v m1, f v m1 = some r → G X K (pc + 3) lv rest m1) : G X K pc lv stk mm := by
  intro H locs ls hH hS hl
  cases hv : F with
  | none => rw [hv] at hF; cases hF
  | some vm =>
    obtain ⟨v, m1⟩ := vm
    rw [hv] at hF
    refine va_callv (run v m1 hv H locs ls hH hS hl) hS (fun q _ h => h) (fun q h => h) (fun u t H1 locs1 ht hvm hw hB hz hk1 hS1 => ?_)
    rw [ht] at hB
    exact g _ _ hF H1 locs1 ls hB hS1 hl
theorem r_callR {a : Array Value} {F : Option Nat} {f : Nat → Option α} (ra : Nat → Nat) (hF : bo F f = some r) (run : ∀ v, F = some v → ∀ H locs ls, Hp X mm H → va_S (xA X) (ks K).heap H locs → lv_has ls (kn K) lv → va_Run (kp K) (kl K) (ke K) (kR K) (ks K) (km K) (ka K) (kb K) (kmt K) (kc K) H locs (kce K) (ksl K) 0 0 (F0 (km K) pc ls stk) rest (QR X (ra v) mm a) (xA X)) (g : ∀ v, F = some v → f v = some r → G X K (pc + 3) lv (.ref (ra v) :: rest) mm) : G X K pc lv stk mm := by
  intro H locs ls hH hS hl
  cases hv : F with
  | none => rw [hv] at hF; cases hF
  | some v =>
    rw [hv] at hF
    refine va_callr (run v hv H locs ls hH hS hl) hS (fun q _ h => h) (fun q h => h) (fun u w t H1 locs1 ht hvm hw hB hz hk1 hS1 => ?_)
    obtain ⟨rfl, hB⟩ := hB
    rw [ht] at hB
    exact g _ hv hF H1 locs1 ls hB hS1 hl
theorem r_callRm {a : Array Value} {F : Option (Nat × Mem)} {f : Nat → Mem → Option α} (ra : Nat → Nat) (hF : bm F f = some r) (run : ∀ v m1, F = some (v, m1) → ∀ H locs ls, Hp X mm H → va_S (xA X) (ks K).heap H locs → lv_has ls (kn K) lv → va_Run (kp K) (kl K) (ke K) (kR K) (ks K) (km K) (ka K) (kb K) (kmt K) (kc K) H locs (kce K) (ksl K) 0 0 (F0 (km K) pc ls stk) rest (QR X (ra v) m1 a) (xA X)) (g : ∀ v m1, F = some (v, m1) → f v m1 = some r → G X K (pc + 3) lv (.ref (ra v) :: rest) m1) : G X K pc lv stk mm := by
  intro H locs ls hH hS hl
  cases hv : F with
  | none => rw [hv] at hF; cases hF
  | some vm =>
    obtain ⟨v, m1⟩ := vm
    rw [hv] at hF
    refine va_callr (run v m1 hv H locs ls hH hS hl) hS (fun q _ h => h) (fun q h => h) (fun u w t H1 locs1 ht hvm hw hB hz hk1 hS1 => ?_)
    obtain ⟨rfl, hB⟩ := hB
    rw [ht] at hB
    exact g _ _ hv hF H1 locs1 ls hB hS1 hl
/-- where c leaves this frame by a throw with the memory m1: room for it, it is handed on, it is made and thrown -/
def XT (X : XW) (K : MC) (own : String) (cc : ByteArray) (n d : Nat) (c : Nat) (m1 : Mem) : Prop :=
  (kce K + 1 ≤ (kR K).cells ∧ ksl K + 6 ≤ (kR K).slots) ∧
  (∀ (pc : Nat) (ls : Array Slot) (st : List Value) (H : Heap) (locs : List Loc) (q : Addr) (ce0 : Cell), Hp X m1 H → va_S (xA X) (ks K).heap H locs → H[q]? = some ce0 → ce0.vm = .none → (ks K).vm.findClass (en c) = some ce0.cls → vx_W (kp K) (kl K) (ke K) (kR K) (ks K) (km K) (ka K) (kb K) (kmt K) (kc K) H locs (kce K + 1) (ksl K + 6) (kQ K) (F0 (km K) pc ls st) q) ∧
  (∀ (ik is ic pc : Nat) (text : String) (lv : List (Nat × Value)) (st : List Value), (∀ (a : Array Value) (U : State), Wd U → (Cond.classLink own ik (en c)).before a U = true ∧ (Cond.initialized (en c)).before a U = true ∧ ∀ w ∈ vx_atS own ic (en c) ["java/lang/RuntimeException", "java/lang/Exception"], w.before a U = true) →
    (∀ w ∈ Cond.classLink own ik (en c) :: Cond.initialized (en c) :: vx_atS own ic (en c) ["java/lang/RuntimeException", "java/lang/Exception"], vx_ot w = true) → (∃ sa, vk_R own is text sa (ks K)) → 7 ≤ d → (st.map fun v => v.category).sum ≤ 8 →
    decode cc pc = .ok (.new ik, 3) → decode cc (pc + 3) = .ok (.dup, 1) → decode cc (pc + 4) = .ok (.ldc is, 2) → decode cc (pc + 6) = .ok (.invokespecial ic, 3) → decode cc (pc + 9) = .ok (.athrow, 1) → G X K pc lv st m1) ∧
  (∀ (ik is ic pc : Nat) (text : String) (lv : List (Nat × Value)) (st : List Value), (∀ (a : Array Value) (U : State), Wd U → (Cond.classLink own ik (en c)).before a U = true ∧ (Cond.initialized (en c)).before a U = true ∧ ∀ w ∈ vx_atS own ic (en c) ["java/lang/RuntimeException", "java/lang/Exception"], w.before a U = true) →
    (∀ w ∈ Cond.classLink own ik (en c) :: Cond.initialized (en c) :: vx_atS own ic (en c) ["java/lang/RuntimeException", "java/lang/Exception"], vx_ot w = true) → (∃ sa, vk_R own is text sa (ks K)) → 7 ≤ d → (st.map fun v => v.category).sum ≤ 8 →
    decode cc pc = .ok (.new ik, 3) → decode cc (pc + 3) = .ok (.dup, 1) → decode cc (pc + 4) = .ok (.ldc_w is, 3) → decode cc (pc + 7) = .ok (.invokespecial ic, 3) → decode cc (pc + 10) = .ok (.athrow, 1) → G X K pc lv st m1)
theorem r_callIts {a : Array Value} (hk : Ok X K own cc n d) {F : Option (Int32 ⊕ Nat)} {ex : Nat → Option α} {f : Int32 → Option α} (hF : bts F ex f = some r) (hX : ∀ c, ex c = some r → XT X K own cc n d c mm) (run : ∀ R, F = some R → (kce K + mcR R ≤ (kR K).cells ∧ ksl K + 6 * mcR R ≤ (kR K).slots) → ∀ H locs ls, Hp X mm H → va_S (xA X) (ks K).heap H locs → lv_has ls (kn K) lv → vx_Run (kp K) (kl K) (ke K) (kR K) (ks K) (km K) (ka K) (kb K) (kmt K) (kc K) H locs (kce K) (ksl K) (mcR R) (6 * mcR R) (F0 (km K) pc ls stk) rest (QTI X R mm a) (XCx X R mm) (xA X)) (g : ∀ v, f v = some r → G X K (pc + 3) lv (.int v :: rest) mm) : G X K pc lv stk mm := by
  intro H locs ls hH hS hl
  cases hv : F with
  | none => rw [hv] at hF; cases hF
  | some vm =>
    rw [hv] at hF
    cases vm with
    | inl v =>
      refine vx_calli (run (.inl v) hv ⟨hk.2.2.2.2.2.2.2.2.2.1, hk.2.2.2.2.2.2.2.2.2.2.1⟩ H locs ls hH hS hl) hS (fun q _ h => h) (fun q h => h) (fun q _ h => h) (fun E ce0 q9 u t H1 locs1 ht hvm hw hB hz hk1 hS1 hc0 hcv hcl => ?_) (fun w u t H1 locs1 ht hvm hw hB hz hk1 hS1 => ?_)
      · obtain ⟨⟨c, h, -⟩, -⟩ := hB
        cases h
      · cases hw
        rw [ht] at hB
        exact g _ hF H1 locs1 ls hB hS1 hl
    | inr c =>
      obtain ⟨hroom, hout, -⟩ := hX c hF
      refine vx_calli (run (.inr c) hv hroom H locs ls hH hS hl) hS (fun q _ h => h) (fun q h => h) (fun q _ h => h) (fun E ce0 q9 u t H1 locs1 ht hvm hw hB hz hk1 hS1 hc0 hcv hcl => ?_) (fun w u t H1 locs1 ht hvm hw hB hz hk1 hS1 => ?_)
      · obtain ⟨⟨c', h, rfl⟩, hB⟩ := hB
        cases h
        rw [ht] at hB
        exact hout _ _ _ H1 locs1 q9 ce0 hB hS1 hc0 hcv hcl
      · cases hw
theorem r_callItm {a : Array Value} (hk : Ok X K own cc n d) {F : Option ((Int32 ⊕ Nat) × Mem)} {ex : Nat → Mem → Option α} {f : Int32 → Mem → Option α} (hF : btm F ex f = some r) (hX : ∀ c m1, ex c m1 = some r → XT X K own cc n d c m1) (run : ∀ R m1, F = some (R, m1) → (kce K + mcR R ≤ (kR K).cells ∧ ksl K + 6 * mcR R ≤ (kR K).slots) → ∀ H locs ls, Hp X mm H → va_S (xA X) (ks K).heap H locs → lv_has ls (kn K) lv → vx_Run (kp K) (kl K) (ke K) (kR K) (ks K) (km K) (ka K) (kb K) (kmt K) (kc K) H locs (kce K) (ksl K) (mcR R) (6 * mcR R) (F0 (km K) pc ls stk) rest (QTI X R m1 a) (XCx X R m1) (xA X)) (g : ∀ v m1, f v m1 = some r → G X K (pc + 3) lv (.int v :: rest) m1) : G X K pc lv stk mm := by
  intro H locs ls hH hS hl
  cases hv : F with
  | none => rw [hv] at hF; cases hF
  | some vm =>
    obtain ⟨R, m1⟩ := vm
    rw [hv] at hF
    cases R with
    | inl v =>
      refine vx_calli (run (.inl v) m1 hv ⟨hk.2.2.2.2.2.2.2.2.2.1, hk.2.2.2.2.2.2.2.2.2.2.1⟩ H locs ls hH hS hl) hS (fun q _ h => h) (fun q h => h) (fun q _ h => h) (fun E ce0 q9 u t H1 locs1 ht hvm hw hB hz hk1 hS1 hc0 hcv hcl => ?_) (fun w u t H1 locs1 ht hvm hw hB hz hk1 hS1 => ?_)
      · obtain ⟨⟨c, h, -⟩, -⟩ := hB
        cases h
      · cases hw
        rw [ht] at hB
        exact g _ _ hF H1 locs1 ls hB hS1 hl
    | inr c =>
      obtain ⟨hroom, hout, -⟩ := hX c m1 hF
      refine vx_calli (run (.inr c) m1 hv hroom H locs ls hH hS hl) hS (fun q _ h => h) (fun q h => h) (fun q _ h => h) (fun E ce0 q9 u t H1 locs1 ht hvm hw hB hz hk1 hS1 hc0 hcv hcl => ?_) (fun w u t H1 locs1 ht hvm hw hB hz hk1 hS1 => ?_)
      · obtain ⟨⟨c', h, rfl⟩, hB⟩ := hB
        cases h
        rw [ht] at hB
        exact hout _ _ _ H1 locs1 q9 ce0 hB hS1 hc0 hcv hcl
      · cases hw
theorem r_callVts {a : Array Value} (hk : Ok X K own cc n d) {F : Option (Unit ⊕ Nat)} {ex : Nat → Option α} {f : Unit → Option α} (hF : bts F ex f = some r) (hX : ∀ c, ex c = some r → XT X K own cc n d c mm) (run : ∀ R, F = some R → (kce K + mcR R ≤ (kR K).cells ∧ ksl K + 6 * mcR R ≤ (kR K).slots) → ∀ H locs ls, Hp X mm H → va_S (xA X) (ks K).heap H locs → lv_has ls (kn K) lv → vx_Run (kp K) (kl K) (ke K) (kR K) (ks K) (km K) (ka K) (kb K) (kmt K) (kc K) H locs (kce K) (ksl K) (mcR R) (6 * mcR R) (F0 (km K) pc ls stk) rest (QTV X R mm a) (XCx X R mm) (xA X)) (g : ∀ v, f v = some r → G X K (pc + 3) lv (rest) mm) : G X K pc lv stk mm := by
  intro H locs ls hH hS hl
  cases hv : F with
  | none => rw [hv] at hF; cases hF
  | some vm =>
    rw [hv] at hF
    cases vm with
    | inl v =>
      refine vx_callv (run (.inl v) hv ⟨hk.2.2.2.2.2.2.2.2.2.1, hk.2.2.2.2.2.2.2.2.2.2.1⟩ H locs ls hH hS hl) hS (fun q _ h => h) (fun q h => h) (fun q _ h => h) (fun E ce0 q9 u t H1 locs1 ht hvm hw hB hz hk1 hS1 hc0 hcv hcl => ?_) (fun u t H1 locs1 ht hvm hw hB hz hk1 hS1 => ?_)
      · obtain ⟨⟨c, h, -⟩, -⟩ := hB
        cases h
      · cases hw
        rw [ht] at hB
        exact g _ hF H1 locs1 ls hB hS1 hl
    | inr c =>
      obtain ⟨hroom, hout, -⟩ := hX c hF
      refine vx_callv (run (.inr c) hv hroom H locs ls hH hS hl) hS (fun q _ h => h) (fun q h => h) (fun q _ h => h) (fun E ce0 q9 u t H1 locs1 ht hvm hw hB hz hk1 hS1 hc0 hcv hcl => ?_) (fun u t H1 locs1 ht hvm hw hB hz hk1 hS1 => ?_)
      · obtain ⟨⟨c', h, rfl⟩, hB⟩ := hB
        cases h
        rw [ht] at hB
        exact hout _ _ _ H1 locs1 q9 ce0 hB hS1 hc0 hcv hcl
      · cases hw
theorem r_callVtm {a : Array Value} (hk : Ok X K own cc n d) {F : Option ((Unit ⊕ Nat) × Mem)} {ex : Nat → Mem → Option α} {f : Unit → Mem → Option α} (hF : btm F ex f = some r) (hX : ∀ c m1, ex c m1 = some r → XT X K own cc n d c m1) (run : ∀ R m1, F = some (R, m1) → (kce K + mcR R ≤ (kR K).cells ∧ ksl K + 6 * mcR R ≤ (kR K).slots) → ∀ H locs ls, Hp X mm H → va_S (xA X) (ks K).heap H locs → lv_has ls (kn K) lv → vx_Run (kp K) (kl K) (ke K) (kR K) (ks K) (km K) (ka K) (kb K) (kmt K) (kc K) H locs (kce K) (ksl K) (mcR R) (6 * mcR R) (F0 (km K) pc ls stk) rest (QTV X R m1 a) (XCx X R m1) (xA X)) (g : ∀ v m1, f v m1 = some r → G X K (pc + 3) lv (rest) m1) : G X K pc lv stk mm := by
  intro H locs ls hH hS hl
  cases hv : F with
  | none => rw [hv] at hF; cases hF
  | some vm =>
    obtain ⟨R, m1⟩ := vm
    rw [hv] at hF
    cases R with
    | inl v =>
      refine vx_callv (run (.inl v) m1 hv ⟨hk.2.2.2.2.2.2.2.2.2.1, hk.2.2.2.2.2.2.2.2.2.2.1⟩ H locs ls hH hS hl) hS (fun q _ h => h) (fun q h => h) (fun q _ h => h) (fun E ce0 q9 u t H1 locs1 ht hvm hw hB hz hk1 hS1 hc0 hcv hcl => ?_) (fun u t H1 locs1 ht hvm hw hB hz hk1 hS1 => ?_)
      · obtain ⟨⟨c, h, -⟩, -⟩ := hB
        cases h
      · cases hw
        rw [ht] at hB
        exact g _ _ hF H1 locs1 ls hB hS1 hl
    | inr c =>
      obtain ⟨hroom, hout, -⟩ := hX c m1 hF
      refine vx_callv (run (.inr c) m1 hv hroom H locs ls hH hS hl) hS (fun q _ h => h) (fun q h => h) (fun q _ h => h) (fun E ce0 q9 u t H1 locs1 ht hvm hw hB hz hk1 hS1 hc0 hcv hcl => ?_) (fun u t H1 locs1 ht hvm hw hB hz hk1 hS1 => ?_)
      · obtain ⟨⟨c', h, rfl⟩, hB⟩ := hB
        cases h
        rw [ht] at hB
        exact hout _ _ _ H1 locs1 q9 ce0 hB hS1 hc0 hcv hcl
      · cases hw
end CALLS
section STARTS
variable {X : XW} {l : Launch} {y : MethodName} {b : ByteArray} {n d : Nat} {own : String} {As : List Value} {m0 m1 : Mem}
theorem startI (hlf : l.stackTraces = false) (hy : plainName y.cls = true) (ho : y.cls = own) (lv0 : List (Nat × Value)) (hlv : lv_args 0 As = lv0) (hlen : (lg_sl As).length ≤ n) {v : Int32}
    (body : ∀ K : MC, Ok X K own b n d → (∀ pc lv, decode b pc = .ok (.ireturn, 1) → G X K pc lv [.int v] m1) → G X K 0 lv0 [] m0) : MX X l y b n (some .int) d As m0 (QI X v m1) := by
  subst ho
  refine Met.ofW (cc := b) (maxL := n) (ret := (some .int)) hy rfl ?_
  intro p e s m args below meth c s₁ B hml hv
  obtain ⟨rfl, hO, hH⟩ := hv
  have hk : Ok X (p, l, e, (headSpec [Cond.code y b n (some .int)] (rmd d 0)).room, s, m, As.toArray, below, meth, c, n, 0, 0, MQ below (QI X v m1) As.toArray s 0 0 (xA X)) y.cls b n d :=
    ⟨B.exec, B.bytes, hml, rfl, findClass_of_methodNamed B.named, hO, B.notSynchronized, Nat.le_refl _, Nat.le_refl _, Nat.le_refl _, Nat.le_refl _, hlf⟩
  have h := body _ hk (fun pc lv hd H locs ls hH hS hl => W.iret B.exec B.bytes B.returns (fun t ht hW => ⟨⟨v, (), rfl, rfl, show Hp X m1 t.heap by rw [ht]; exact hH⟩, hS.F ht⟩) hS.2.2 hd B.notSynchronized)
  have h2 := h s.heap [] _ hH va_S.rf (hlv ▸ lv_entry As hlen)
  rw [lg_entry_eq]
  exact h2
theorem startZ (hlf : l.stackTraces = false) (hy : plainName y.cls = true) (ho : y.cls = own) (lv0 : List (Nat × Value)) (hlv : lv_args 0 As = lv0) (hlen : (lg_sl As).length ≤ n) {v : Int32}
    (body : ∀ K : MC, Ok X K own b n d → (∀ pc lv, isB v = true → decode b pc = .ok (.ireturn, 1) → G X K pc lv [.int v] m1) → G X K 0 lv0 [] m0) : MX X l y b n (some .boolean) d As m0 (QI X v m1) := by
  subst ho
  refine Met.ofW (cc := b) (maxL := n) (ret := (some .boolean)) hy rfl ?_
  intro p e s m args below meth c s₁ B hml hv
  obtain ⟨rfl, hO, hH⟩ := hv
  have hk : Ok X (p, l, e, (headSpec [Cond.code y b n (some .boolean)] (rmd d 0)).room, s, m, As.toArray, below, meth, c, n, 0, 0, MQ below (QI X v m1) As.toArray s 0 0 (xA X)) y.cls b n d :=
    ⟨B.exec, B.bytes, hml, rfl, findClass_of_methodNamed B.named, hO, B.notSynchronized, Nat.le_refl _, Nat.le_refl _, Nat.le_refl _, Nat.le_refl _, hlf⟩
  have h := body _ hk (fun pc lv hz hd H locs ls hH hS hl => W.zret B.exec B.bytes B.returns (isB_nar hz) (fun t ht hW => ⟨⟨v, (), rfl, rfl, show Hp X m1 t.heap by rw [ht]; exact hH⟩, hS.F ht⟩) hS.2.2 hd B.notSynchronized)
  have h2 := h s.heap [] _ hH va_S.rf (hlv ▸ lv_entry As hlen)
  rw [lg_entry_eq]
  exact h2
theorem startL (hlf : l.stackTraces = false) (hy : plainName y.cls = true) (ho : y.cls = own) (lv0 : List (Nat × Value)) (hlv : lv_args 0 As = lv0) (hlen : (lg_sl As).length ≤ n) {v : Int64}
    (body : ∀ K : MC, Ok X K own b n d → (∀ pc lv, decode b pc = .ok (.lreturn, 1) → G X K pc lv [.long v] m1) → G X K 0 lv0 [] m0) : MX X l y b n (some .long) d As m0 (QL X v m1) := by
  subst ho
  refine Met.ofW (cc := b) (maxL := n) (ret := (some .long)) hy rfl ?_
  intro p e s m args below meth c s₁ B hml hv
  obtain ⟨rfl, hO, hH⟩ := hv
  have hk : Ok X (p, l, e, (headSpec [Cond.code y b n (some .long)] (rmd d 0)).room, s, m, As.toArray, below, meth, c, n, 0, 0, MQ below (QL X v m1) As.toArray s 0 0 (xA X)) y.cls b n d :=
    ⟨B.exec, B.bytes, hml, rfl, findClass_of_methodNamed B.named, hO, B.notSynchronized, Nat.le_refl _, Nat.le_refl _, Nat.le_refl _, Nat.le_refl _, hlf⟩
  have h := body _ hk (fun pc lv hd H locs ls hH hS hl => W.lret B.exec B.bytes B.returns (fun t ht hW => ⟨⟨v, (), rfl, rfl, show Hp X m1 t.heap by rw [ht]; exact hH⟩, hS.F ht⟩) hS.2.2 hd B.notSynchronized)
  have h2 := h s.heap [] _ hH va_S.rf (hlv ▸ lv_entry As hlen)
  rw [lg_entry_eq]
  exact h2
theorem startD (hlf : l.stackTraces = false) (hy : plainName y.cls = true) (ho : y.cls = own) (lv0 : List (Nat × Value)) (hlv : lv_args 0 As = lv0) (hlen : (lg_sl As).length ≤ n) {v : UInt64}
    (body : ∀ K : MC, Ok X K own b n d → (∀ pc lv, decode b pc = .ok (.dreturn, 1) → G X K pc lv [.double v] m1) → G X K 0 lv0 [] m0) : MX X l y b n (some .double) d As m0 (QD X v m1) := by
  subst ho
  refine Met.ofW (cc := b) (maxL := n) (ret := (some .double)) hy rfl ?_
  intro p e s m args below meth c s₁ B hml hv
  obtain ⟨rfl, hO, hH⟩ := hv
  have hk : Ok X (p, l, e, (headSpec [Cond.code y b n (some .double)] (rmd d 0)).room, s, m, As.toArray, below, meth, c, n, 0, 0, MQ below (QD X v m1) As.toArray s 0 0 (xA X)) y.cls b n d :=
    ⟨B.exec, B.bytes, hml, rfl, findClass_of_methodNamed B.named, hO, B.notSynchronized, Nat.le_refl _, Nat.le_refl _, Nat.le_refl _, Nat.le_refl _, hlf⟩
  have h := body _ hk (fun pc lv hd H locs ls hH hS hl => W.dret B.exec B.bytes B.returns (fun t ht hW => ⟨⟨v, (), rfl, rfl, show Hp X m1 t.heap by rw [ht]; exact hH⟩, hS.F ht⟩) hS.2.2 hd B.notSynchronized)
  have h2 := h s.heap [] _ hH va_S.rf (hlv ▸ lv_entry As hlen)
  rw [lg_entry_eq]
  exact h2
theorem startV (hlf : l.stackTraces = false) (hy : plainName y.cls = true) (ho : y.cls = own) (lv0 : List (Nat × Value)) (hlv : lv_args 0 As = lv0) (hlen : (lg_sl As).length ≤ n) 
    (body : ∀ K : MC, Ok X K own b n d → (∀ pc lv, decode b pc = .ok (.return_, 1) → G X K pc lv [] m1) → G X K 0 lv0 [] m0) : MX X l y b n none d As m0 (QV X m1) := by
  subst ho
  refine Met.ofW (cc := b) (maxL := n) (ret := none) hy rfl ?_
  intro p e s m args below meth c s₁ B hml hv
  obtain ⟨rfl, hO, hH⟩ := hv
  have hk : Ok X (p, l, e, (headSpec [Cond.code y b n none] (rmd d 0)).room, s, m, As.toArray, below, meth, c, n, 0, 0, MQ below (QV X m1) As.toArray s 0 0 (xA X)) y.cls b n d :=
    ⟨B.exec, B.bytes, hml, rfl, findClass_of_methodNamed B.named, hO, B.notSynchronized, Nat.le_refl _, Nat.le_refl _, Nat.le_refl _, Nat.le_refl _, hlf⟩
  have h := body _ hk (fun pc lv hd H locs ls hH hS hl => W.vret B.exec B.bytes B.returns (fun t ht hW => ⟨⟨(), rfl, trivial, show Hp X m1 t.heap by rw [ht]; exact hH⟩, hS.F ht⟩) hS.2.2 hd B.notSynchronized)
  have h2 := h s.heap [] _ hH va_S.rf (hlv ▸ lv_entry As hlen)
  rw [lg_entry_eq]
  exact h2
theorem startR (hlf : l.stackTraces = false) (hy : plainName y.cls = true) (ho : y.cls = own) (lv0 : List (Nat × Value)) (hlv : lv_args 0 As = lv0) (hlen : (lg_sl As).length ≤ n) {C : String} {v : Nat}
    (body : ∀ K : MC, Ok X K own b n d → (∀ pc lv, decode b pc = .ok (.areturn, 1) → G X K pc lv [.ref v] m1) → G X K 0 lv0 [] m0) : MX X l y b n (some (.object C)) d As m0 (QR X v m1) := by
  subst ho
  refine Met.ofW (cc := b) (maxL := n) (ret := (some (.object C))) hy rfl ?_
  intro p e s m args below meth c s₁ B hml hv
  obtain ⟨rfl, hO, hH⟩ := hv
  have hk : Ok X (p, l, e, (headSpec [Cond.code y b n (some (.object C))] (rmd d 0)).room, s, m, As.toArray, below, meth, c, n, 0, 0, MQ below (QR X v m1) As.toArray s 0 0 (xA X)) y.cls b n d :=
    ⟨B.exec, B.bytes, hml, rfl, findClass_of_methodNamed B.named, hO, B.notSynchronized, Nat.le_refl _, Nat.le_refl _, Nat.le_refl _, Nat.le_refl _, hlf⟩
  have h := body _ hk (fun pc lv hd H locs ls hH hS hl => W.aret B.exec B.bytes B.returns (Or.inl ⟨_, rfl⟩) (Or.inr ⟨_, rfl⟩) (fun t ht hW => ⟨⟨(), v, rfl, trivial, rfl, show Hp X m1 t.heap by rw [ht]; exact hH⟩, hS.F ht⟩) hS.2.2 hd B.notSynchronized)
  have h2 := h s.heap [] _ hH va_S.rf (hlv ▸ lv_entry As hlen)
  rw [lg_entry_eq]
  exact h2
theorem startTI (hlf : l.stackTraces = false) (hy : plainName y.cls = true) (ho : y.cls = own) (lv0 : List (Nat × Value)) (hlv : lv_args 0 As = lv0) (hlen : (lg_sl As).length ≤ n) {R : Int32 ⊕ Nat}
    (body : ∀ K : MC, Ok X K own b n d → (∀ v, R = .inl v → ∀ pc lv, decode b pc = .ok (.ireturn, 1) → G X K pc lv [.int v] m1) → (∀ c, R = .inr c → XT X K own b n d c m1) → G X K 0 lv0 [] m0) : MT X l y b n (some .int) d As m0 R m1 (QTI X R m1) := by
  subst ho
  refine vx_ofW (cc := b) (maxL := n) (ret := (some .int)) hy rfl ?_
  intro p e s m args below meth c s₁ B hml hxt hv
  obtain ⟨rfl, hO, hH⟩ := hv
  have hk : Ok X (p, l, e, (headSpec [Cond.code y b n (some .int)] (rmd d (mcR R))).room, s, m, As.toArray, below, meth, c, n, 0, 0, vx_MQ below (QTI X R m1) (XCx X R m1) As.toArray s (mcR R) (6 * mcR R) (xA X)) y.cls b n d :=
    ⟨B.exec, B.bytes, hml, rfl, findClass_of_methodNamed B.named, hO, B.notSynchronized, Nat.le_refl _, Nat.le_refl _, Nat.zero_le _, Nat.zero_le _, hlf⟩
  have hout : ∀ (pc : Nat), ∀ x ∈ c.exceptionTable.toList, covers x pc = false := fun pc x hx => (hxt x hx).elim
  have h := body _ hk (fun v hR pc lv hd H locs ls hH hS hl => by subst hR; exact vx_ret (W.iret B.exec B.bytes B.returns (fun t ht hW => ⟨⟨v, (), rfl, rfl, show Hp X m1 t.heap by rw [ht]; exact hH⟩, hS.F ht⟩) hS.2.2 hd B.notSynchronized)) (fun c0 hR => by
    subst hR
    refine ⟨⟨Nat.le_refl _, Nat.le_refl _⟩, fun pc ls st H locs q ce0 hH hS hq hcv hcl => ?_, fun ik is ic pc text lv st hw hot htx hd7 hst d0 d3 d4 d6 d9 H locs ls hH hS hl => ?_, fun ik is ic pc text lv st hw hot htx hd7 hst d0 d3 d4 d7 d10 H locs ls hH hS hl => ?_⟩
    · exact vx_out (hout _) B.notSynchronized hq hcv hcl (fun t ht hvm => ⟨(), trivial, ⟨⟨c0, rfl, rfl⟩, show Hp X m1 t.heap by rw [ht]; exact hH⟩, hS.F ht⟩) hS.2.2 (Nat.le_refl _) (Nat.le_refl _)
    · obtain ⟨w1, w2, w3⟩ := hw As.toArray s hO.1
      obtain ⟨sa, hsa⟩ := htx
      have hcls : Bundle.fit (en c0) = true := by
        unfold en; split <;> decide +kernel
      refine vx_throwS B.exec B.bytes hlf (cls := en c0) (names := ["java/lang/RuntimeException", "java/lang/Exception"]) (A := xA X) (findClass_of_methodNamed B.named) hcls (by decide +kernel) w1 w2 hsa w3 hot hO.2.2.1 hO.2.2.2.1 hS (by rw [hl.1]; exact hml.symm) d0 d3 d4 d6 d9 (hout _) ?_ ?_ (Nat.le_refl _) (Nat.le_refl _) B.notSynchronized (fun t hvm hz hq => ?_) hS.2.2 (Nat.le_refl _) (Nat.le_refl _)
      · show 2 + 3 < d
        omega
      · show _ + (13 * (2 + 1) + 43) ≤ 36 * d
        omega
      · refine ⟨(), trivial, ⟨⟨c0, rfl, rfl⟩, ?_⟩, Nat.le_trans hS.1 hz, fun q h1 h2 => ?_⟩
        · exact ⟨va_P.kept hH.1 (fun k q hk => hq _ (hH.1 k q hk).lt), hH.2⟩
        · rw [hq q (Nat.lt_of_lt_of_le h1 hS.1)]
          exact hS.2.1 q h1 h2
    · obtain ⟨w1, w2, w3⟩ := hw As.toArray s hO.1
      obtain ⟨sa, hsa⟩ := htx
      have hcls : Bundle.fit (en c0) = true := by
        unfold en; split <;> decide +kernel
      refine vx_throwSW B.exec B.bytes hlf (cls := en c0) (names := ["java/lang/RuntimeException", "java/lang/Exception"]) (A := xA X) (findClass_of_methodNamed B.named) hcls (by decide +kernel) w1 w2 hsa w3 hot hO.2.2.1 hO.2.2.2.1 hS (by rw [hl.1]; exact hml.symm) d0 d3 d4 d7 d10 (hout _) ?_ ?_ (Nat.le_refl _) (Nat.le_refl _) B.notSynchronized (fun t hvm hz hq => ?_) hS.2.2 (Nat.le_refl _) (Nat.le_refl _)
      · show 2 + 3 < d
        omega
      · show _ + (13 * (2 + 1) + 43) ≤ 36 * d
        omega
      · refine ⟨(), trivial, ⟨⟨c0, rfl, rfl⟩, ?_⟩, Nat.le_trans hS.1 hz, fun q h1 h2 => ?_⟩
        · exact ⟨va_P.kept hH.1 (fun k q hk => hq _ (hH.1 k q hk).lt), hH.2⟩
        · rw [hq q (Nat.lt_of_lt_of_le h1 hS.1)]
          exact hS.2.1 q h1 h2)
  have h2 := h s.heap [] _ hH va_S.rf (hlv ▸ lv_entry As hlen)
  rw [lg_entry_eq]
  exact h2
theorem startTV (hlf : l.stackTraces = false) (hy : plainName y.cls = true) (ho : y.cls = own) (lv0 : List (Nat × Value)) (hlv : lv_args 0 As = lv0) (hlen : (lg_sl As).length ≤ n) {R : Unit ⊕ Nat}
    (body : ∀ K : MC, Ok X K own b n d → (∀ v, R = .inl v → ∀ pc lv, decode b pc = .ok (.return_, 1) → G X K pc lv [] m1) → (∀ c, R = .inr c → XT X K own b n d c m1) → G X K 0 lv0 [] m0) : MT X l y b n none d As m0 R m1 (QTV X R m1) := by
  subst ho
  refine vx_ofW (cc := b) (maxL := n) (ret := none) hy rfl ?_
  intro p e s m args below meth c s₁ B hml hxt hv
  obtain ⟨rfl, hO, hH⟩ := hv
  have hk : Ok X (p, l, e, (headSpec [Cond.code y b n none] (rmd d (mcR R))).room, s, m, As.toArray, below, meth, c, n, 0, 0, vx_MQ below (QTV X R m1) (XCx X R m1) As.toArray s (mcR R) (6 * mcR R) (xA X)) y.cls b n d :=
    ⟨B.exec, B.bytes, hml, rfl, findClass_of_methodNamed B.named, hO, B.notSynchronized, Nat.le_refl _, Nat.le_refl _, Nat.zero_le _, Nat.zero_le _, hlf⟩
  have hout : ∀ (pc : Nat), ∀ x ∈ c.exceptionTable.toList, covers x pc = false := fun pc x hx => (hxt x hx).elim
  have h := body _ hk (fun v hR pc lv hd H locs ls hH hS hl => by subst hR; exact vx_ret (W.vret B.exec B.bytes B.returns (fun t ht hW => ⟨⟨(), rfl, rfl, show Hp X m1 t.heap by rw [ht]; exact hH⟩, hS.F ht⟩) hS.2.2 hd B.notSynchronized)) (fun c0 hR => by
    subst hR
    refine ⟨⟨Nat.le_refl _, Nat.le_refl _⟩, fun pc ls st H locs q ce0 hH hS hq hcv hcl => ?_, fun ik is ic pc text lv st hw hot htx hd7 hst d0 d3 d4 d6 d9 H locs ls hH hS hl => ?_, fun ik is ic pc text lv st hw hot htx hd7 hst d0 d3 d4 d7 d10 H locs ls hH hS hl => ?_⟩
    · exact vx_out (hout _) B.notSynchronized hq hcv hcl (fun t ht hvm => ⟨(), trivial, ⟨⟨c0, rfl, rfl⟩, show Hp X m1 t.heap by rw [ht]; exact hH⟩, hS.F ht⟩) hS.2.2 (Nat.le_refl _) (Nat.le_refl _)
    · obtain ⟨w1, w2, w3⟩ := hw As.toArray s hO.1
      obtain ⟨sa, hsa⟩ := htx
      have hcls : Bundle.fit (en c0) = true := by
        unfold en; split <;> decide +kernel
      refine vx_throwS B.exec B.bytes hlf (cls := en c0) (names := ["java/lang/RuntimeException", "java/lang/Exception"]) (A := xA X) (findClass_of_methodNamed B.named) hcls (by decide +kernel) w1 w2 hsa w3 hot hO.2.2.1 hO.2.2.2.1 hS (by rw [hl.1]; exact hml.symm) d0 d3 d4 d6 d9 (hout _) ?_ ?_ (Nat.le_refl _) (Nat.le_refl _) B.notSynchronized (fun t hvm hz hq => ?_) hS.2.2 (Nat.le_refl _) (Nat.le_refl _)
      · show 2 + 3 < d
        omega
      · show _ + (13 * (2 + 1) + 43) ≤ 36 * d
        omega
      · refine ⟨(), trivial, ⟨⟨c0, rfl, rfl⟩, ?_⟩, Nat.le_trans hS.1 hz, fun q h1 h2 => ?_⟩
        · exact ⟨va_P.kept hH.1 (fun k q hk => hq _ (hH.1 k q hk).lt), hH.2⟩
        · rw [hq q (Nat.lt_of_lt_of_le h1 hS.1)]
          exact hS.2.1 q h1 h2
    · obtain ⟨w1, w2, w3⟩ := hw As.toArray s hO.1
      obtain ⟨sa, hsa⟩ := htx
      have hcls : Bundle.fit (en c0) = true := by
        unfold en; split <;> decide +kernel
      refine vx_throwSW B.exec B.bytes hlf (cls := en c0) (names := ["java/lang/RuntimeException", "java/lang/Exception"]) (A := xA X) (findClass_of_methodNamed B.named) hcls (by decide +kernel) w1 w2 hsa w3 hot hO.2.2.1 hO.2.2.2.1 hS (by rw [hl.1]; exact hml.symm) d0 d3 d4 d7 d10 (hout _) ?_ ?_ (Nat.le_refl _) (Nat.le_refl _) B.notSynchronized (fun t hvm hz hq => ?_) hS.2.2 (Nat.le_refl _) (Nat.le_refl _)
      · show 2 + 3 < d
        omega
      · show _ + (13 * (2 + 1) + 43) ≤ 36 * d
        omega
      · refine ⟨(), trivial, ⟨⟨c0, rfl, rfl⟩, ?_⟩, Nat.le_trans hS.1 hz, fun q h1 h2 => ?_⟩
        · exact ⟨va_P.kept hH.1 (fun k q hk => hq _ (hH.1 k q hk).lt), hH.2⟩
        · rw [hq q (Nat.lt_of_lt_of_le h1 hS.1)]
          exact hS.2.1 q h1 h2)
  have h2 := h s.heap [] _ hH va_S.rf (hlv ▸ lv_entry As hlen)
  rw [lg_entry_eq]
  exact h2
end STARTS

