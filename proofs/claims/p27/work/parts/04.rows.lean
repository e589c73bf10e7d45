/-! the judgement of a frame at a pc over the memory, and a row an instruction (turned from the kit's rows) -/
abbrev MC : Type := Program × Launch × Env × Room × State × MethodId × Array Value × List Frame × Method × Code × Nat × Nat × Nat × (State → Prop)
abbrev kp (K : MC) : Program := K.1
abbrev kl (K : MC) : Launch := K.2.1
abbrev ke (K : MC) : Env := K.2.2.1
abbrev kR (K : MC) : Room := K.2.2.2.1
abbrev ks (K : MC) : State := K.2.2.2.2.1
abbrev km (K : MC) : MethodId := K.2.2.2.2.2.1
abbrev ka (K : MC) : Array Value := K.2.2.2.2.2.2.1
abbrev kb (K : MC) : List Frame := K.2.2.2.2.2.2.2.1
abbrev kmt (K : MC) : Method := K.2.2.2.2.2.2.2.2.1
abbrev kc (K : MC) : Code := K.2.2.2.2.2.2.2.2.2.1
abbrev kn (K : MC) : Nat := K.2.2.2.2.2.2.2.2.2.2.1
abbrev kce (K : MC) : Nat := K.2.2.2.2.2.2.2.2.2.2.2.1
abbrev ksl (K : MC) : Nat := K.2.2.2.2.2.2.2.2.2.2.2.2.1
abbrev kQ (K : MC) : State → Prop := K.2.2.2.2.2.2.2.2.2.2.2.2.2
/-- W at this frame -/
abbrev WK (K : MC) (H : Heap) (locs : List Loc) (g : JFrame) : Prop := W (kp K) (kl K) (ke K) (kR K) (ks K) (km K) (ka K) (kb K) (kmt K) (kc K) H locs (kce K) (ksl K) (kQ K) g
def G (X : XW) (K : MC) (pc : Nat) (lv : List (Nat × Value)) (st : List Value) (mm : Mem) : Prop :=
  ∀ (H : Heap) (locs : List Loc) (ls : Array Slot), Hp X mm H → va_S (xA X) (ks K).heap H locs → lv_has ls (kn K) lv → WK K H locs (F0 (km K) pc ls st)
def Ok (X : XW) (K : MC) (own : String) (cc : ByteArray) (n d : Nat) : Prop :=
  (kp K).tables.exec = Jvm.exec ∧ (kc K).code = cc ∧ (kc K).maxLocals = n ∧ kn K = n ∧ (ks K).vm.findClass own = some (km K).cls ∧ Old X (ks K) ∧ (kmt K).locks = false ∧ d ≤ (kR K).frames ∧ 36 * d ≤ (kR K).locals ∧ kce K ≤ (kR K).cells ∧ ksl K ≤ (kR K).slots ∧ (kl K).stackTraces = false
-- the words of the functions that are read off the code
def bd {α β : Type} (a : α) (f : α → β) : β := f a
def ck {α : Type} (b : Bool) (x : Option α) : Option α := match b with
  | true => x
  | false => none
def bp {α : Type} (q n : Nat) (f : Nat → Option α) : Option α := if q < n then f q else none
def ib (i : Int32) (n : Nat) : Bool := decide (0 ≤ i.toInt) && decide (i.toInt < n)
def isB (v : Int32) : Bool := v == 0 || v == 1
theorem ck_some {α : Type} {b : Bool} {x : Option α} {r : α} (h : ck b x = some r) : b = true ∧ x = some r := by
  cases b with
  | true => exact ⟨rfl, h⟩
  | false => cases h
theorem bp_some {α : Type} {q n : Nat} {f : Nat → Option α} {r : α} (h : bp q n f = some r) : q < n ∧ f q = some r := by
  unfold bp at h
  by_cases hq : q < n
  · rw [if_pos hq] at h; exact ⟨hq, h⟩
  · rw [if_neg hq] at h; cases h
theorem ib_in {i : Int32} {n : Nat} (h : ib i n = true) : vp_in i n := by
  unfold ib at h
  rw [Bool.and_eq_true, decide_eq_true_eq, decide_eq_true_eq] at h
  exact vp_in_iff.mpr h
theorem isB_or {v : Int32} (h : isB v = true) : v = 0 ∨ v = 1 := by
  unfold isB at h
  rw [Bool.or_eq_true, beq_iff_eq, beq_iff_eq] at h
  exact h
theorem isB_nar {v : Int32} (h : isB v = true) : narrow .boolean (.int v) = .int v := by
  rcases isB_or h with rfl | rfl <;> rfl
theorem isB_fit {v : Int32} (h : isB v = true) : fits .boolean (.int v) = true := by
  rcases isB_or h with rfl | rfl <;> rfl
theorem isB_vp {v : Int32} (h : isB v = true) : vp_nar .boolean v = v := by
  rcases isB_or h with rfl | rfl <;> rfl
section ROWS
variable {X : XW} {K : MC} {own : String} {cc : ByteArray} {n d pc : Nat} {lv lv' : List (Nat × Value)} {st : List Value} {mm : Mem} {α : Type} {r : α}

theorem r_iconst (hk : Ok X K own cc n d) {k : Int} {v : Int32} (hd : decode cc pc = .ok (.iconst k, 1)) (hv : Int32.ofInt k = v) (g : G X K (pc + 1) lv (.int v :: st) mm) : G X K pc lv st mm :=
  fun H locs ls hH hS hl => lv_iconst hk.1 hk.2.1 hd hv (g H locs ls hH hS hl)
theorem r_bipush (hk : Ok X K own cc n d) {k : Int} {v : Int32} (hd : decode cc pc = .ok (.bipush k, 2)) (hv : (Int8.ofInt k).toInt32 = v) (g : G X K (pc + 2) lv (.int v :: st) mm) : G X K pc lv st mm :=
  fun H locs ls hH hS hl => lv_bipush hk.1 hk.2.1 hd hv (g H locs ls hH hS hl)
theorem r_sipush (hk : Ok X K own cc n d) {k : Int} {v : Int32} (hd : decode cc pc = .ok (.sipush k, 3)) (hv : (Int16.ofInt k).toInt32 = v) (g : G X K (pc + 3) lv (.int v :: st) mm) : G X K pc lv st mm :=
  fun H locs ls hH hS hl => lv_sipush hk.1 hk.2.1 hd hv (g H locs ls hH hS hl)
theorem r_lconst (hk : Ok X K own cc n d) {k : Fin 2} {v : Int64} (hd : decode cc pc = .ok (.lconst k, 1)) (hv : Int64.ofNat (k : Nat) = v) (g : G X K (pc + 1) lv (.long v :: st) mm) : G X K pc lv st mm :=
  fun H locs ls hH hS hl => lv_lconst hk.1 hk.2.1 hd hv (g H locs ls hH hS hl)
theorem r_ldc (hk : Ok X K own cc n d) {ix : Nat} {v : Int32} (hw : ∀ (a : Array Value) (U : State), Wd U → (Cond.constant own ix v).before a U = true) (hd : decode cc pc = .ok (.ldc ix, 2)) (g : G X K (pc + 2) lv (.int v :: st) mm) : G X K pc lv st mm :=
  fun H locs ls hH hS hl => lv_ldc hk.1 hk.2.1 hk.2.2.2.2.1 (hw _ _ hk.2.2.2.2.2.1.1) hd (g H locs ls hH hS hl)
theorem r_ldcw (hk : Ok X K own cc n d) {ix : Nat} {v : Int32} (hw : ∀ (a : Array Value) (U : State), Wd U → (Cond.constant own ix v).before a U = true) (hd : decode cc pc = .ok (.ldc_w ix, 3)) (g : G X K (pc + 3) lv (.int v :: st) mm) : G X K pc lv st mm :=
  fun H locs ls hH hS hl => lv_ldcw hk.1 hk.2.1 hk.2.2.2.2.1 (hw _ _ hk.2.2.2.2.2.1.1) hd (g H locs ls hH hS hl)
theorem r_ldc2 (hk : Ok X K own cc n d) {ix : Nat} {v : Int64} (hw : ∀ (a : Array Value) (U : State), Wd U → (Cond.constantLong own ix v).before a U = true) (hd : decode cc pc = .ok (.ldc2_w ix, 3)) (g : G X K (pc + 3) lv (.long v :: st) mm) : G X K pc lv st mm :=
  fun H locs ls hH hS hl => lv_ldc2 hk.1 hk.2.1 hk.2.2.2.2.1 (hw _ _ hk.2.2.2.2.2.1.1) hd (g H locs ls hH hS hl)
theorem r_ldc2d (hk : Ok X K own cc n d) {ix : Nat} {v : UInt64} (hw : ∀ (a : Array Value) (U : State), Wd U → (Cond.constantDouble own ix v).before a U = true) (hd : decode cc pc = .ok (.ldc2_w ix, 3)) (g : G X K (pc + 3) lv (.double v :: st) mm) : G X K pc lv st mm :=
  fun H locs ls hH hS hl => lv_ldc2d hk.1 hk.2.1 hk.2.2.2.2.1 (hw _ _ hk.2.2.2.2.2.1.1) hd (g H locs ls hH hS hl)
theorem r_dconst0 (hk : Ok X K own cc n d) (hd : decode cc pc = .ok (.dconst 0, 1)) (g : G X K (pc + 1) lv (.double 0 :: st) mm) : G X K pc lv st mm :=
  fun H locs ls hH hS hl => lv_dconst0 hk.1 hk.2.1 hd (g H locs ls hH hS hl)
theorem r_dconst1 (hk : Ok X K own cc n d) (hd : decode cc pc = .ok (.dconst 1, 1)) (g : G X K (pc + 1) lv (.double 0x3ff0000000000000 :: st) mm) : G X K pc lv st mm :=
  fun H locs ls hH hS hl => lv_dconst1 hk.1 hk.2.1 hd (g H locs ls hH hS hl)
theorem r_iload_n (hk : Ok X K own cc n d) {k : Fin 4} {x : Int32} (j : Nat) (hd : decode cc pc = .ok (.iload_n k, 1)) (hj : lv[j]? = some ((k : Nat), .int x)) (g : G X K (pc + 1) lv (.int x :: st) mm) : G X K pc lv st mm :=
  fun H locs ls hH hS hl => lv_iload_n hk.1 hk.2.1 hd rfl (lv_at hl j hj) (g H locs ls hH hS hl)
theorem r_iload (hk : Ok X K own cc n d) {i : Nat} {x : Int32} (j : Nat) (hd : decode cc pc = .ok (.iload i, 2)) (hj : lv[j]? = some (i, .int x)) (g : G X K (pc + 2) lv (.int x :: st) mm) : G X K pc lv st mm :=
  fun H locs ls hH hS hl => lv_iload hk.1 hk.2.1 hd (lv_at hl j hj) (g H locs ls hH hS hl)
theorem r_lload_n (hk : Ok X K own cc n d) {k : Fin 4} {x : Int64} (j : Nat) (hd : decode cc pc = .ok (.lload_n k, 1)) (hj : lv[j]? = some ((k : Nat), .long x)) (g : G X K (pc + 1) lv (.long x :: st) mm) : G X K pc lv st mm :=
  fun H locs ls hH hS hl => lv_lload_n hk.1 hk.2.1 hd rfl (lv_at hl j hj) (g H locs ls hH hS hl)
theorem r_lload (hk : Ok X K own cc n d) {i : Nat} {x : Int64} (j : Nat) (hd : decode cc pc = .ok (.lload i, 2)) (hj : lv[j]? = some (i, .long x)) (g : G X K (pc + 2) lv (.long x :: st) mm) : G X K pc lv st mm :=
  fun H locs ls hH hS hl => lv_lload hk.1 hk.2.1 hd (lv_at hl j hj) (g H locs ls hH hS hl)
theorem r_dload_n (hk : Ok X K own cc n d) {k : Fin 4} {x : UInt64} (j : Nat) (hd : decode cc pc = .ok (.dload_n k, 1)) (hj : lv[j]? = some ((k : Nat), .double x)) (g : G X K (pc + 1) lv (.double x :: st) mm) : G X K pc lv st mm :=
  fun H locs ls hH hS hl => lv_dload_n hk.1 hk.2.1 hd rfl (lv_at hl j hj) (g H locs ls hH hS hl)
theorem r_dload (hk : Ok X K own cc n d) {i : Nat} {x : UInt64} (j : Nat) (hd : decode cc pc = .ok (.dload i, 2)) (hj : lv[j]? = some (i, .double x)) (g : G X K (pc + 2) lv (.double x :: st) mm) : G X K pc lv st mm :=
  fun H locs ls hH hS hl => lv_dload hk.1 hk.2.1 hd (lv_at hl j hj) (g H locs ls hH hS hl)
theorem r_aload_n (hk : Ok X K own cc n d) {k : Fin 4} {x : Nat} (j : Nat) (hd : decode cc pc = .ok (.aload_n k, 1)) (hj : lv[j]? = some ((k : Nat), .ref x)) (g : G X K (pc + 1) lv (.ref x :: st) mm) : G X K pc lv st mm :=
  fun H locs ls hH hS hl => lv_aload_n hk.1 hk.2.1 hd rfl (lv_at hl j hj) (g H locs ls hH hS hl)
theorem r_aload (hk : Ok X K own cc n d) {i : Nat} {x : Nat} (j : Nat) (hd : decode cc pc = .ok (.aload i, 2)) (hj : lv[j]? = some (i, .ref x)) (g : G X K (pc + 2) lv (.ref x :: st) mm) : G X K pc lv st mm :=
  fun H locs ls hH hS hl => lv_aload hk.1 hk.2.1 hd (lv_at hl j hj) (g H locs ls hH hS hl)
theorem r_istore_n (hk : Ok X K own cc n d) {k : Fin 4} {x : Int32} (lv' : List (Nat × Value)) (hd : decode cc pc = .ok (.istore_n k, 1)) (hn : (k : Nat) < n) (hl' : ((k : Nat), Value.int x) :: lv.filter (fun q => !(q.1 == (k : Nat)) && !(q.1 + 1 == (k : Nat) && q.2.category == 2)) = lv') (g : G X K (pc + 1) lv' st mm) : G X K pc lv (.int x :: st) mm :=
  fun H locs ls hH hS hl => lv_istore_n hk.1 hk.2.1 hd rfl hl (by rw [hk.2.2.2.1]; exact hn) hl' (fun ls' h => g H locs ls' hH hS h)
theorem r_istore (hk : Ok X K own cc n d) {i : Nat} {x : Int32} (lv' : List (Nat × Value)) (hd : decode cc pc = .ok (.istore i, 2)) (hn : i < n) (hl' : (i, Value.int x) :: lv.filter (fun q => !(q.1 == i) && !(q.1 + 1 == i && q.2.category == 2)) = lv') (g : G X K (pc + 2) lv' st mm) : G X K pc lv (.int x :: st) mm :=
  fun H locs ls hH hS hl => lv_istore hk.1 hk.2.1 hd hl (by rw [hk.2.2.2.1]; exact hn) hl' (fun ls' h => g H locs ls' hH hS h)
theorem r_lstore_n (hk : Ok X K own cc n d) {k : Fin 4} {x : Int64} (lv' : List (Nat × Value)) (hd : decode cc pc = .ok (.lstore_n k, 1)) (hn : (k : Nat) + 1 < n) (hl' : ((k : Nat), Value.long x) :: lv.filter (fun q => !(q.1 == (k : Nat)) && (!(q.1 == (k : Nat) + 1) && !(q.1 + 1 == (k : Nat) && q.2.category == 2))) = lv') (g : G X K (pc + 1) lv' st mm) : G X K pc lv (.long x :: st) mm :=
  fun H locs ls hH hS hl => lv_lstore_n hk.1 hk.2.1 hd rfl hl (by rw [hk.2.2.2.1]; exact hn) hl' (fun ls' h => g H locs ls' hH hS h)
theorem r_lstore (hk : Ok X K own cc n d) {i : Nat} {x : Int64} (lv' : List (Nat × Value)) (hd : decode cc pc = .ok (.lstore i, 2)) (hn : i + 1 < n) (hl' : (i, Value.long x) :: lv.filter (fun q => !(q.1 == i) && (!(q.1 == i + 1) && !(q.1 + 1 == i && q.2.category == 2))) = lv') (g : G X K (pc + 2) lv' st mm) : G X K pc lv (.long x :: st) mm :=
  fun H locs ls hH hS hl => lv_lstore hk.1 hk.2.1 hd hl (by rw [hk.2.2.2.1]; exact hn) hl' (fun ls' h => g H locs ls' hH hS h)
theorem r_dstore_n (hk : Ok X K own cc n d) {k : Fin 4} {x : UInt64} (lv' : List (Nat × Value)) (hd : decode cc pc = .ok (.dstore_n k, 1)) (hn : (k : Nat) + 1 < n) (hl' : ((k : Nat), Value.double x) :: lv.filter (fun q => !(q.1 == (k : Nat)) && (!(q.1 == (k : Nat) + 1) && !(q.1 + 1 == (k : Nat) && q.2.category == 2))) = lv') (g : G X K (pc + 1) lv' st mm) : G X K pc lv (.double x :: st) mm :=
  fun H locs ls hH hS hl => lv_dstore_n hk.1 hk.2.1 hd rfl hl (by rw [hk.2.2.2.1]; exact hn) hl' (fun ls' h => g H locs ls' hH hS h)
theorem r_dstore (hk : Ok X K own cc n d) {i : Nat} {x : UInt64} (lv' : List (Nat × Value)) (hd : decode cc pc = .ok (.dstore i, 2)) (hn : i + 1 < n) (hl' : (i, Value.double x) :: lv.filter (fun q => !(q.1 == i) && (!(q.1 == i + 1) && !(q.1 + 1 == i && q.2.category == 2))) = lv') (g : G X K (pc + 2) lv' st mm) : G X K pc lv (.double x :: st) mm :=
  fun H locs ls hH hS hl => lv_dstore hk.1 hk.2.1 hd hl (by rw [hk.2.2.2.1]; exact hn) hl' (fun ls' h => g H locs ls' hH hS h)
theorem r_astore_n (hk : Ok X K own cc n d) {k : Fin 4} {x : Nat} (lv' : List (Nat × Value)) (hd : decode cc pc = .ok (.astore_n k, 1)) (hn : (k : Nat) < n) (hl' : ((k : Nat), Value.ref x) :: lv.filter (fun q => !(q.1 == (k : Nat)) && !(q.1 + 1 == (k : Nat) && q.2.category == 2)) = lv') (g : G X K (pc + 1) lv' st mm) : G X K pc lv (.ref x :: st) mm :=
  fun H locs ls hH hS hl => lv_astore_n hk.1 hk.2.1 hd rfl hl (by rw [hk.2.2.2.1]; exact hn) hl' (fun ls' h => g H locs ls' hH hS h)
theorem r_astore (hk : Ok X K own cc n d) {i : Nat} {x : Nat} (lv' : List (Nat × Value)) (hd : decode cc pc = .ok (.astore i, 2)) (hn : i < n) (hl' : (i, Value.ref x) :: lv.filter (fun q => !(q.1 == i) && !(q.1 + 1 == i && q.2.category == 2)) = lv') (g : G X K (pc + 2) lv' st mm) : G X K pc lv (.ref x :: st) mm :=
  fun H locs ls hH hS hl => lv_astore hk.1 hk.2.1 hd hl (by rw [hk.2.2.2.1]; exact hn) hl' (fun ls' h => g H locs ls' hH hS h)
theorem r_iinc (hk : Ok X K own cc n d) {i : Nat} {k : Int} {x : Int32} (c : Int32) (j : Nat) (lv' : Int32 → List (Nat × Value)) {f : Int32 → Option α} (hF : bd (x + c) f = some r) (hd : decode cc pc = .ok (.iinc i k, 3)) (hj : lv[j]? = some (i, .int x)) (hc : Int32.ofInt k = c) (hn : i < n) (hl' : ∀ v, (i, Value.int v) :: lv.filter (fun q => !(q.1 == i) && !(q.1 + 1 == i && q.2.category == 2)) = lv' v) (g : ∀ v, f v = some r → G X K (pc + 3) (lv' v) st mm) : G X K pc lv st mm :=
  fun H locs ls hH hS hl => lv_iinc hk.1 hk.2.1 hd hl (k := j) hj (v := x + c) (by rw [hc]) (by rw [hk.2.2.2.1]; exact hn) (hl' _) (fun ls' h => g _ hF H locs ls' hH hS h)
theorem r_sub (hk : Ok X K own cc n d) (js : List Nat) (hl' : lv_pick lv js = lv') (g : G X K pc lv' st mm) : G X K pc lv st mm :=
  fun H locs ls hH hS hl => g H locs ls hH hS (lv_sub hl js hl')
theorem r_iadd (hk : Ok X K own cc n d) {x y : Int32} {f : Int32 → Option α} (hF : bd (x + y) f = some r) (hd : decode cc pc = .ok (.iadd, 1)) (g : ∀ v, f v = some r → G X K (pc + 1) lv (.int v :: st) mm) : G X K pc lv (.int y :: .int x :: st) mm :=
  fun H locs ls hH hS hl => lv_iadd hk.1 hk.2.1 hd (g _ hF H locs ls hH hS hl)
theorem r_isub (hk : Ok X K own cc n d) {x y : Int32} {f : Int32 → Option α} (hF : bd (x - y) f = some r) (hd : decode cc pc = .ok (.isub, 1)) (g : ∀ v, f v = some r → G X K (pc + 1) lv (.int v :: st) mm) : G X K pc lv (.int y :: .int x :: st) mm :=
  fun H locs ls hH hS hl => lv_isub hk.1 hk.2.1 hd (g _ hF H locs ls hH hS hl)
theorem r_imul (hk : Ok X K own cc n d) {x y : Int32} {f : Int32 → Option α} (hF : bd (x * y) f = some r) (hd : decode cc pc = .ok (.imul, 1)) (g : ∀ v, f v = some r → G X K (pc + 1) lv (.int v :: st) mm) : G X K pc lv (.int y :: .int x :: st) mm :=
  fun H locs ls hH hS hl => lv_imul hk.1 hk.2.1 hd (g _ hF H locs ls hH hS hl)
theorem r_iand (hk : Ok X K own cc n d) {x y : Int32} {f : Int32 → Option α} (hF : bd (x &&& y) f = some r) (hd : decode cc pc = .ok (.iand, 1)) (g : ∀ v, f v = some r → G X K (pc + 1) lv (.int v :: st) mm) : G X K pc lv (.int y :: .int x :: st) mm :=
  fun H locs ls hH hS hl => lv_iand hk.1 hk.2.1 hd (g _ hF H locs ls hH hS hl)
theorem r_idiv (hk : Ok X K own cc n d) {x y : Int32} {f : Int32 → Option α} (hne : ¬ y = 0) (hF : bd (x / y) f = some r) (hd : decode cc pc = .ok (.idiv, 1)) (g : ∀ v, f v = some r → G X K (pc + 1) lv (.int v :: st) mm) : G X K pc lv (.int y :: .int x :: st) mm :=
  fun H locs ls hH hS hl => lv_idiv hk.1 hk.2.1 hd hne (g _ hF H locs ls hH hS hl)
theorem r_irem (hk : Ok X K own cc n d) {x y : Int32} {f : Int32 → Option α} (hne : ¬ y = 0) (hF : bd (x - x / y * y) f = some r) (hd : decode cc pc = .ok (.irem, 1)) (g : ∀ v, f v = some r → G X K (pc + 1) lv (.int v :: st) mm) : G X K pc lv (.int y :: .int x :: st) mm :=
  fun H locs ls hH hS hl => lv_irem hk.1 hk.2.1 hd hne (g _ hF H locs ls hH hS hl)
theorem r_ineg (hk : Ok X K own cc n d) {x : Int32} {f : Int32 → Option α} (hF : bd (-x) f = some r) (hd : decode cc pc = .ok (.ineg, 1)) (g : ∀ v, f v = some r → G X K (pc + 1) lv (.int v :: st) mm) : G X K pc lv (.int x :: st) mm :=
  fun H locs ls hH hS hl => lv_ineg hk.1 hk.2.1 hd (g _ hF H locs ls hH hS hl)
theorem r_i2l (hk : Ok X K own cc n d) {x : Int32} {f : Int64 → Option α} (hF : bd x.toInt64 f = some r) (hd : decode cc pc = .ok (.i2l, 1)) (g : ∀ v, f v = some r → G X K (pc + 1) lv (.long v :: st) mm) : G X K pc lv (.int x :: st) mm :=
  fun H locs ls hH hS hl => lv_i2l hk.1 hk.2.1 hd rfl (g _ hF H locs ls hH hS hl)
theorem r_i2d (hk : Ok X K own cc n d) {x : Int32} {f : UInt64 → Option α} (hF : bd (FP.i2d x) f = some r) (hd : decode cc pc = .ok (.i2d, 1)) (g : ∀ v, f v = some r → G X K (pc + 1) lv (.double v :: st) mm) : G X K pc lv (.int x :: st) mm :=
  fun H locs ls hH hS hl => lv_i2d hk.1 hk.2.1 hd (g _ hF H locs ls hH hS hl)
theorem r_d2l (hk : Ok X K own cc n d) {x : UInt64} {f : Int64 → Option α} (hF : bd (FP.d2l x) f = some r) (hd : decode cc pc = .ok (.d2l, 1)) (g : ∀ v, f v = some r → G X K (pc + 1) lv (.long v :: st) mm) : G X K pc lv (.double x :: st) mm :=
  fun H locs ls hH hS hl => lv_d2l hk.1 hk.2.1 hd (g _ hF H locs ls hH hS hl)
theorem r_lcmp (hk : Ok X K own cc n d) {x y : Int64} {f : Int32 → Option α} (hF : bd (lg_cmp x y) f = some r) (hd : decode cc pc = .ok (.lcmp, 1)) (g : ∀ v, f v = some r → G X K (pc + 1) lv (.int v :: st) mm) : G X K pc lv (.long y :: .long x :: st) mm :=
  fun H locs ls hH hS hl => W.lcmp hk.1 hk.2.1 hd (g _ hF H locs ls hH hS hl)
theorem r_dcmp (hk : Ok X K own cc n d) {x y : UInt64} {op : CmpOp} {f : Int32 → Option α} (hF : bd (Op.cmpValue (FP.dcmp x y) op) f = some r) (hd : decode cc pc = .ok (.dcmp op, 1)) (g : ∀ v, f v = some r → G X K (pc + 1) lv (.int v :: st) mm) : G X K pc lv (.double y :: .double x :: st) mm :=
  fun H locs ls hH hS hl => lv_dcmp hk.1 hk.2.1 hd (g _ hF H locs ls hH hS hl)
theorem r_lshl (hk : Ok X K own cc n d) {x : Int64} {y : Int32} {f : Int64 → Option α} (hF : bd (x <<< (y.toInt64 &&& 63)) f = some r) (hd : decode cc pc = .ok (.lshl, 1)) (g : ∀ v, f v = some r → G X K (pc + 1) lv (.long v :: st) mm) : G X K pc lv (.int y :: .long x :: st) mm :=
  fun H locs ls hH hS hl => lv_lshl hk.1 hk.2.1 hd rfl (g _ hF H locs ls hH hS hl)
theorem r_ladd (hk : Ok X K own cc n d) {x y : Int64} {f : Int64 → Option α} (hF : bd (x + y) f = some r) (hd : decode cc pc = .ok (.ladd, 1)) (g : ∀ v, f v = some r → G X K (pc + 1) lv (.long v :: st) mm) : G X K pc lv (.long y :: .long x :: st) mm :=
  fun H locs ls hH hS hl => lv_ladd hk.1 hk.2.1 hd (g _ hF H locs ls hH hS hl)
theorem r_lsub (hk : Ok X K own cc n d) {x y : Int64} {f : Int64 → Option α} (hF : bd (x - y) f = some r) (hd : decode cc pc = .ok (.lsub, 1)) (g : ∀ v, f v = some r → G X K (pc + 1) lv (.long v :: st) mm) : G X K pc lv (.long y :: .long x :: st) mm :=
  fun H locs ls hH hS hl => lv_lsub hk.1 hk.2.1 hd (g _ hF H locs ls hH hS hl)
theorem r_lmul (hk : Ok X K own cc n d) {x y : Int64} {f : Int64 → Option α} (hF : bd (x * y) f = some r) (hd : decode cc pc = .ok (.lmul, 1)) (g : ∀ v, f v = some r → G X K (pc + 1) lv (.long v :: st) mm) : G X K pc lv (.long y :: .long x :: st) mm :=
  fun H locs ls hH hS hl => lv_lmul hk.1 hk.2.1 hd (g _ hF H locs ls hH hS hl)
theorem r_lor (hk : Ok X K own cc n d) {x y : Int64} {f : Int64 → Option α} (hF : bd (x ||| y) f = some r) (hd : decode cc pc = .ok (.lor, 1)) (g : ∀ v, f v = some r → G X K (pc + 1) lv (.long v :: st) mm) : G X K pc lv (.long y :: .long x :: st) mm :=
  fun H locs ls hH hS hl => lv_lor hk.1 hk.2.1 hd (g _ hF H locs ls hH hS hl)
/-- not NaN -/
def nn (x : UInt64) : Bool := decide (x &&& 0x7fffffffffffffff ≤ 0x7ff0000000000000)
theorem nn_n64 {x : UInt64} (h : nn x = true) : vf_n64 x := by
  unfold nn at h
  rw [decide_eq_true_eq] at h
  exact h
theorem r_dmul (hk : Ok X K own cc n d) {x y : UInt64} {f : UInt64 → Option α} (hF : ck (nn (FP.dmul x y)) (bd (FP.dmul x y) f) = some r) (hd : decode cc pc = .ok (.dmul, 1)) (g : ∀ v, f v = some r → G X K (pc + 1) lv (.double v :: st) mm) : G X K pc lv (.double y :: .double x :: st) mm :=
  fun H locs ls hH hS hl => lv_dmul hk.1 hk.2.1 hd (nn_n64 (ck_some hF).1) (g _ (ck_some hF).2 H locs ls hH hS hl)
theorem r_ddiv (hk : Ok X K own cc n d) {x y : UInt64} {f : UInt64 → Option α} (hF : ck (nn (FP.ddiv x y)) (bd (FP.ddiv x y) f) = some r) (hd : decode cc pc = .ok (.ddiv, 1)) (g : ∀ v, f v = some r → G X K (pc + 1) lv (.double v :: st) mm) : G X K pc lv (.double y :: .double x :: st) mm :=
  fun H locs ls hH hS hl => lv_ddiv hk.1 hk.2.1 hd (nn_n64 (ck_some hF).1) (g _ (ck_some hF).2 H locs ls hH hS hl)
theorem r_dsub (hk : Ok X K own cc n d) {x y : UInt64} {f : UInt64 → Option α} (hF : ck (nn (FP.dsub x y)) (bd (FP.dsub x y) f) = some r) (hd : decode cc pc = .ok (.dsub, 1)) (g : ∀ v, f v = some r → G X K (pc + 1) lv (.double v :: st) mm) : G X K pc lv (.double y :: .double x :: st) mm :=
  fun H locs ls hH hS hl => lv_dsub hk.1 hk.2.1 hd (nn_n64 (ck_some hF).1) (g _ (ck_some hF).2 H locs ls hH hS hl)
theorem r_dup (hk : Ok X K own cc n d) {v : Value} (hd : decode cc pc = .ok (.dup, 1)) (hv : v.category = 1) (g : G X K (pc + 1) lv (v :: v :: st) mm) : G X K pc lv (v :: st) mm :=
  fun H locs ls hH hS hl => lv_dup hk.1 hk.2.1 hd hv (g H locs ls hH hS hl)
theorem r_dup2 (hk : Ok X K own cc n d) {v w : Value} (hd : decode cc pc = .ok (.dup2, 1)) (hv : v.category = 1) (hw : w.category = 1) (g : G X K (pc + 1) lv (v :: w :: v :: w :: st) mm) : G X K pc lv (v :: w :: st) mm :=
  fun H locs ls hH hS hl => lv_dup2_11 hk.1 hk.2.1 hd hv hw (g H locs ls hH hS hl)
theorem r_pop (hk : Ok X K own cc n d) {v : Value} (hd : decode cc pc = .ok (.pop, 1)) (hv : v.category = 1) (g : G X K (pc + 1) lv st mm) : G X K pc lv (v :: st) mm :=
  fun H locs ls hH hS hl => lv_pop hk.1 hk.2.1 hd hv (g H locs ls hH hS hl)
theorem r_goto (hk : Ok X K own cc n d) {off : Int} (tgt : Nat) (hd : decode cc pc = .ok (.goto off, 3)) (ht : (pc : Int) + off = (tgt : Int)) (g : G X K tgt lv st mm) : G X K pc lv st mm :=
  fun H locs ls hH hS hl => lv_goto hk.1 hk.2.1 hd ht (g H locs ls hH hS hl)
theorem r_icmp_eq (hk : Ok X K own cc n d) {x y : Int32} {off : Int} (tgt : Nat) {A B : Option α} (hF : (if x = y then A else B) = some r) (hd : decode cc pc = .ok (.if_icmp .eq off, 3)) (ht : (pc : Int) + off = (tgt : Int)) (gt : A = some r → G X K tgt lv st mm) (gf : B = some r → G X K (pc + 3) lv st mm) : G X K pc lv (.int y :: .int x :: st) mm :=
  fun H locs ls hH hS hl => lv_icmp_eq hk.1 hk.2.1 hd ht (fun h => gt (by rw [if_pos h] at hF; exact hF) H locs ls hH hS hl) (fun h => gf (by rw [if_neg h] at hF; exact hF) H locs ls hH hS hl)
theorem r_if_eq (hk : Ok X K own cc n d) {x : Int32} {off : Int} (tgt : Nat) {A B : Option α} (hF : (if x = 0 then A else B) = some r) (hd : decode cc pc = .ok (.ifCond .eq off, 3)) (ht : (pc : Int) + off = (tgt : Int)) (gt : A = some r → G X K tgt lv st mm) (gf : B = some r → G X K (pc + 3) lv st mm) : G X K pc lv (.int x :: st) mm :=
  fun H locs ls hH hS hl => lv_if_eq hk.1 hk.2.1 hd ht (fun h => gt (by rw [if_pos h] at hF; exact hF) H locs ls hH hS hl) (fun h => gf (by rw [if_neg h] at hF; exact hF) H locs ls hH hS hl)
theorem r_icmp_ne (hk : Ok X K own cc n d) {x y : Int32} {off : Int} (tgt : Nat) {A B : Option α} (hF : (if x = y then B else A) = some r) (hd : decode cc pc = .ok (.if_icmp .ne off, 3)) (ht : (pc : Int) + off = (tgt : Int)) (gt : A = some r → G X K tgt lv st mm) (gf : B = some r → G X K (pc + 3) lv st mm) : G X K pc lv (.int y :: .int x :: st) mm :=
  fun H locs ls hH hS hl => lv_icmp_ne hk.1 hk.2.1 hd ht (fun h => gt (by rw [if_neg h] at hF; exact hF) H locs ls hH hS hl) (fun h => gf (by rw [if_pos h] at hF; exact hF) H locs ls hH hS hl)
theorem r_if_ne (hk : Ok X K own cc n d) {x : Int32} {off : Int} (tgt : Nat) {A B : Option α} (hF : (if x = 0 then B else A) = some r) (hd : decode cc pc = .ok (.ifCond .ne off, 3)) (ht : (pc : Int) + off = (tgt : Int)) (gt : A = some r → G X K tgt lv st mm) (gf : B = some r → G X K (pc + 3) lv st mm) : G X K pc lv (.int x :: st) mm :=
  fun H locs ls hH hS hl => lv_if_ne hk.1 hk.2.1 hd ht (fun h => gt (by rw [if_neg h] at hF; exact hF) H locs ls hH hS hl) (fun h => gf (by rw [if_pos h] at hF; exact hF) H locs ls hH hS hl)
theorem r_icmp_lt (hk : Ok X K own cc n d) {x y : Int32} {off : Int} (tgt : Nat) {A B : Option α} (hF : (if x < y then A else B) = some r) (hd : decode cc pc = .ok (.if_icmp .lt off, 3)) (ht : (pc : Int) + off = (tgt : Int)) (gt : A = some r → G X K tgt lv st mm) (gf : B = some r → G X K (pc + 3) lv st mm) : G X K pc lv (.int y :: .int x :: st) mm :=
  fun H locs ls hH hS hl => lv_icmp_lt hk.1 hk.2.1 hd ht (fun h => gt (by rw [if_pos h] at hF; exact hF) H locs ls hH hS hl) (fun h => gf (by rw [if_neg h] at hF; exact hF) H locs ls hH hS hl)
theorem r_if_lt (hk : Ok X K own cc n d) {x : Int32} {off : Int} (tgt : Nat) {A B : Option α} (hF : (if x < 0 then A else B) = some r) (hd : decode cc pc = .ok (.ifCond .lt off, 3)) (ht : (pc : Int) + off = (tgt : Int)) (gt : A = some r → G X K tgt lv st mm) (gf : B = some r → G X K (pc + 3) lv st mm) : G X K pc lv (.int x :: st) mm :=
  fun H locs ls hH hS hl => lv_if_lt hk.1 hk.2.1 hd ht (fun h => gt (by rw [if_pos h] at hF; exact hF) H locs ls hH hS hl) (fun h => gf (by rw [if_neg h] at hF; exact hF) H locs ls hH hS hl)
theorem r_icmp_ge (hk : Ok X K own cc n d) {x y : Int32} {off : Int} (tgt : Nat) {A B : Option α} (hF : (if y ≤ x then A else B) = some r) (hd : decode cc pc = .ok (.if_icmp .ge off, 3)) (ht : (pc : Int) + off = (tgt : Int)) (gt : A = some r → G X K tgt lv st mm) (gf : B = some r → G X K (pc + 3) lv st mm) : G X K pc lv (.int y :: .int x :: st) mm :=
  fun H locs ls hH hS hl => lv_icmp_ge hk.1 hk.2.1 hd ht (fun h => gt (by rw [if_pos h] at hF; exact hF) H locs ls hH hS hl) (fun h => gf (by rw [if_neg h] at hF; exact hF) H locs ls hH hS hl)
theorem r_if_ge (hk : Ok X K own cc n d) {x : Int32} {off : Int} (tgt : Nat) {A B : Option α} (hF : (if 0 ≤ x then A else B) = some r) (hd : decode cc pc = .ok (.ifCond .ge off, 3)) (ht : (pc : Int) + off = (tgt : Int)) (gt : A = some r → G X K tgt lv st mm) (gf : B = some r → G X K (pc + 3) lv st mm) : G X K pc lv (.int x :: st) mm :=
  fun H locs ls hH hS hl => lv_if_ge hk.1 hk.2.1 hd ht (fun h => gt (by rw [if_pos h] at hF; exact hF) H locs ls hH hS hl) (fun h => gf (by rw [if_neg h] at hF; exact hF) H locs ls hH hS hl)
theorem r_icmp_gt (hk : Ok X K own cc n d) {x y : Int32} {off : Int} (tgt : Nat) {A B : Option α} (hF : (if y < x then A else B) = some r) (hd : decode cc pc = .ok (.if_icmp .gt off, 3)) (ht : (pc : Int) + off = (tgt : Int)) (gt : A = some r → G X K tgt lv st mm) (gf : B = some r → G X K (pc + 3) lv st mm) : G X K pc lv (.int y :: .int x :: st) mm :=
  fun H locs ls hH hS hl => lv_icmp_gt hk.1 hk.2.1 hd ht (fun h => gt (by rw [if_pos h] at hF; exact hF) H locs ls hH hS hl) (fun h => gf (by rw [if_neg h] at hF; exact hF) H locs ls hH hS hl)
theorem r_if_gt (hk : Ok X K own cc n d) {x : Int32} {off : Int} (tgt : Nat) {A B : Option α} (hF : (if 0 < x then A else B) = some r) (hd : decode cc pc = .ok (.ifCond .gt off, 3)) (ht : (pc : Int) + off = (tgt : Int)) (gt : A = some r → G X K tgt lv st mm) (gf : B = some r → G X K (pc + 3) lv st mm) : G X K pc lv (.int x :: st) mm :=
  fun H locs ls hH hS hl => lv_if_gt hk.1 hk.2.1 hd ht (fun h => gt (by rw [if_pos h] at hF; exact hF) H locs ls hH hS hl) (fun h => gf (by rw [if_neg h] at hF; exact hF) H locs ls hH hS hl)
theorem r_icmp_le (hk : Ok X K own cc n d) {x y : Int32} {off : Int} (tgt : Nat) {A B : Option α} (hF : (if x ≤ y then A else B) = some r) (hd : decode cc pc = .ok (.if_icmp .le off, 3)) (ht : (pc : Int) + off = (tgt : Int)) (gt : A = some r → G X K tgt lv st mm) (gf : B = some r → G X K (pc + 3) lv st mm) : G X K pc lv (.int y :: .int x :: st) mm :=
  fun H locs ls hH hS hl => lv_icmp_le hk.1 hk.2.1 hd ht (fun h => gt (by rw [if_pos h] at hF; exact hF) H locs ls hH hS hl) (fun h => gf (by rw [if_neg h] at hF; exact hF) H locs ls hH hS hl)
theorem r_if_le (hk : Ok X K own cc n d) {x : Int32} {off : Int} (tgt : Nat) {A B : Option α} (hF : (if x ≤ 0 then A else B) = some r) (hd : decode cc pc = .ok (.ifCond .le off, 3)) (ht : (pc : Int) + off = (tgt : Int)) (gt : A = some r → G X K tgt lv st mm) (gf : B = some r → G X K (pc + 3) lv st mm) : G X K pc lv (.int x :: st) mm :=
  fun H locs ls hH hS hl => lv_if_le hk.1 hk.2.1 hd ht (fun h => gt (by rw [if_pos h] at hF; exact hF) H locs ls hH hS hl) (fun h => gf (by rw [if_neg h] at hF; exact hF) H locs ls hH hS hl)

theorem keep_wA {X : XW} {mm : Mem} {lb : Lb} {f : Nat → Int32} {q : Nat} {H : Heap} (hq : lbs[q]? = some lb) {e : va_E} (he : ce X lb (wA mm lb f) = e) (hP : va_P (xD X) vwCl ((cel X mm).set q (xad X lb, e)) H) (hD : va_D (xA X) ((cel X mm).set q (xad X lb, e))) : Hp X (wA mm lb f) H := by
  subst he
  rw [cel_set X hq (ce_wA X mm lb f)] at hP hD
  exact ⟨hP, hD⟩
theorem r_iald (hk : Ok X K own cc n d) {lb : Lb} {N : Nat} {i : Int32} {f : Int32 → Option α} (hlb : lb ∈ lbs) (hce : ∀ m, ce X lb m = eI X N (m.1 lb)) (hF : ck (ib i N) (bd (mm.1 lb i.toNatClampNeg) f) = some r) (hd : decode cc pc = .ok (.iaload, 1)) (g : ∀ v, f v = some r → G X K (pc + 1) lv (.int v :: st) mm) : G X K pc lv (.int i :: .ref (xad X lb) :: st) mm := by
  intro H locs ls hH hS hl
  obtain ⟨q, -, hq⟩ := cel_at X mm hlb
  rw [hce] at hq
  exact va_iald hk.1 hk.2.1 hk.2.2.2.2.2.1.2.1 hH.1 q 0 hq rfl (ib_in (ck_some hF).1) hd (g _ (ck_some hF).2 H locs ls hH hS hl)
theorem r_zald (hk : Ok X K own cc n d) {lb : Lb} {N : Nat} {i : Int32} {f : Int32 → Option α} (hlb : lb ∈ lbs) (hce : ∀ m, ce X lb m = .inl (xcZ X, N, .inl (m.1 lb))) (hF : ck (ib i N) (bd (mm.1 lb i.toNatClampNeg) f) = some r) (hd : decode cc pc = .ok (.baload, 1)) (g : ∀ v, f v = some r → G X K (pc + 1) lv (.int v :: st) mm) : G X K pc lv (.int i :: .ref (xad X lb) :: st) mm := by
  intro H locs ls hH hS hl
  obtain ⟨q, -, hq⟩ := cel_at X mm hlb
  rw [hce] at hq
  exact va_zald hk.1 hk.2.1 hk.2.2.2.2.2.1.2.1 hH.1 q 1 hq rfl (ib_in (ck_some hF).1) hd (g _ (ck_some hF).2 H locs ls hH hS hl)
theorem ib_0 {i : Int32} (h : ib i 1 = true) : i.toNatClampNeg = 0 := by
  obtain ⟨j, hj, rfl⟩ := vp_in_of (ib_in h) (by decide)
  rw [nI_clamp (by omega)]; omega
theorem r_alen (hk : Ok X K own cc n d) {lb : Lb} {N : Nat} {v : Int32} (hlb : lb ∈ lbs) (hce : ∀ m, ce X lb m = eI X N (m.1 lb)) (hv : Int32.ofNat N = v) (hd : decode cc pc = .ok (.arraylength, 1)) (g : G X K (pc + 1) lv (.int v :: st) mm) : G X K pc lv (.ref (xad X lb) :: st) mm := by
  intro H locs ls hH hS hl
  obtain ⟨q, -, hq⟩ := cel_at X mm hlb
  rw [hce] at hq
  exact va_alen hk.1 hk.2.1 hk.2.2.2.2.2.1.2.1 hH.1 q 0 hq rfl hv hd (g H locs ls hH hS hl)
theorem r_aldT (hk : Ok X K own cc n d) {i0 : Nat} {i : Int32} {f : Nat → Option α} (hi0 : i0 < 7) (hF : ck (ib i 3) (bp i.toNatClampNeg 3 f) = some r) (hd : decode cc pc = .ok (.aaload, 1)) (g : ∀ j, j < 3 → f j = some r → G X K (pc + 1) lv (.ref (xad X (2, i0, j, 0)) :: st) mm) : G X K pc lv (.int i :: .ref (xad X (1, i0, 0, 1)) :: st) mm := by
  intro H locs ls hH hS hl
  obtain ⟨q, -, hq⟩ := cel_at X mm (in_st i0 hi0 1 (by decide))
  have h2 := bp_some (ck_some hF).2
  have h7 : i.toNatClampNeg < 3 := h2.1
  refine va_aldq hk.1 hk.2.1 hk.2.2.2.2.2.1.2.1 hH.1 q 4 hq rfl (ib_in (ck_some hF).1) hd ?_
  have e : va_rf (tnf X i0 i.toNatClampNeg) = .ref (xad X (2, i0, i.toNatClampNeg, 0)) := by
    unfold tnf; rw [if_pos h7]; rfl
  rw [e]
  exact g _ h2.1 h2.2 H locs ls hH hS hl
theorem r_aldS (hk : Ok X K own cc n d) {i : Int32} {f : Nat → Option α} (hF : ck (ib i 6) (bp (mm.2.1 i.toNatClampNeg) 7 f) = some r) (hd : decode cc pc = .ok (.aaload, 1)) (g : ∀ j, j < 7 → f j = some r → G X K (pc + 1) lv (.ref (xad X (1, j, 0, 0)) :: st) mm) : G X K pc lv (.int i :: .ref (xad X (0, 0, 0, 1)) :: st) mm := by
  intro H locs ls hH hS hl
  obtain ⟨q, -, hq⟩ := cel_at X mm (in_main 1 (by decide))
  have h2 := bp_some (ck_some hF).2
  have h6 := (vp_in_iff.mp (ib_in (ck_some hF).1))
  have h7 : i.toNatClampNeg < 6 := by
    obtain ⟨j, hj, rfl⟩ := vp_in_of (ib_in (ck_some hF).1) (by decide)
    rw [nI_clamp (by omega)]; exact hj
  refine va_aldq hk.1 hk.2.1 hk.2.2.2.2.2.1.2.1 hH.1 q 3 hq rfl (ib_in (ck_some hF).1) hd ?_
  have e : va_rf (svf X mm.2.1 i.toNatClampNeg) = .ref (xad X (1, mm.2.1 i.toNatClampNeg, 0, 0)) := by
    unfold svf; rw [if_pos h7]; rfl
  rw [e]
  exact g _ h2.1 h2.2 H locs ls hH hS hl
theorem r_iast (hk : Ok X K own cc n d) {lb : Lb} {N : Nat} {i v : Int32} {f : Mem → Option α} (hlb : lb ∈ lbs) (hce : ∀ m, ce X lb m = eI X N (m.1 lb)) (hF : ck (ib i N) (bd (wI mm lb i.toNatClampNeg v) f) = some r) (hd : decode cc pc = .ok (.iastore, 1)) (g : ∀ m1, f m1 = some r → G X K (pc + 1) lv st m1) : G X K pc lv (.int v :: .int i :: .ref (xad X lb) :: st) mm := by
  intro H locs ls hH hS hl
  obtain ⟨q, hq0, hq⟩ := cel_at X mm hlb
  rw [hce] at hq
  exact va_iast hk.1 hk.2.1 hk.2.2.2.2.2.1.2.1 hH.1 hH.2 hS q 0 hq rfl (ib_in (ck_some hF).1) hd (fun H1 locs1 h1 h2 h3 => g _ (ck_some hF).2 H1 locs1 ls (keep_wA hq0 (by rw [hce, wA_self]) h1 h2) h3 hl)
theorem r_zast (hk : Ok X K own cc n d) {lb : Lb} {N : Nat} {i v : Int32} {f : Mem → Option α} (hlb : lb ∈ lbs) (hce : ∀ m, ce X lb m = .inl (xcZ X, N, .inl (m.1 lb))) (hF : ck (ib i N) (ck (isB v) (bd (wI mm lb i.toNatClampNeg v) f)) = some r) (hd : decode cc pc = .ok (.bastore, 1)) (g : ∀ m1, f m1 = some r → G X K (pc + 1) lv st m1) : G X K pc lv (.int v :: .int i :: .ref (xad X lb) :: st) mm := by
  intro H locs ls hH hS hl
  obtain ⟨q, hq0, hq⟩ := cel_at X mm hlb
  rw [hce] at hq
  have hb := (ck_some (ck_some hF).2)
  exact va_zast hk.1 hk.2.1 hk.2.2.2.2.2.1.2.1 hH.1 hH.2 hS q 1 hq rfl (ib_in (ck_some hF).1) hd (fun H1 locs1 h1 h2 h3 => g _ hb.2 H1 locs1 ls (keep_wA hq0 (by rw [hce, wA_self, isB_vp hb.1]) h1 h2) h3 hl)
theorem r_copyi (hk : Ok X K own cc n d) {lb lc : Lb} {N M ix : Nat} {sp dp k : Int32} {f : Mem → Option α} (hlb : lb ∈ lbs) (hce : ∀ m, ce X lb m = eI X N (m.1 lb)) (hlc : lc ∈ lbs) (hcc : ∀ m, ce X lc m = eI X M (m.1 lc))
    (hw : ∀ (a : Array Value) (U : State), Wd U → (Cond.methodLink own ix arraycopyName).before a U = true ∧ (Cond.native arraycopyName).before a U = true ∧ (Cond.static arraycopyName).before a U = true ∧ (Cond.initialized "java/lang/System").before a U = true)
    (hF : ck (!decide (sp < 0) && !decide (dp < 0) && !decide (k < 0) && decide (sp.toNatClampNeg + k.toNatClampNeg ≤ N) && decide (dp.toNatClampNeg + k.toNatClampNeg ≤ M)) (bd (wA mm lc (va_cpy (mm.1 lb) (mm.1 lc) sp.toNatClampNeg dp.toNatClampNeg k.toNatClampNeg)) f) = some r)
    (hdd : 2 ≤ d) (hst : (st.map fun v => v.category).sum ≤ 8) (hd : decode cc pc = .ok (.invokestatic ix, 3)) (g : ∀ m1, f m1 = some r → G X K (pc + 3) lv st m1) : G X K pc lv (.int k :: .int dp :: .ref (xad X lc) :: .int sp :: .ref (xad X lb) :: st) mm := by
  intro H locs ls hH hS hl
  obtain ⟨q0, hq00, hq0⟩ := cel_at X mm hlb
  obtain ⟨q1, hq10, hq1⟩ := cel_at X mm hlc
  rw [hce] at hq0
  rw [hcc] at hq1
  obtain ⟨hb, hF2⟩ := ck_some hF
  simp only [Bool.and_eq_true, Bool.not_eq_true', decide_eq_false_iff_not, decide_eq_true_eq] at hb
  obtain ⟨⟨⟨⟨h1, h2⟩, h3⟩, h4⟩, h5⟩ := hb
  obtain ⟨w1, w2, w3, w4⟩ := hw (ka K) (ks K) hk.2.2.2.2.2.1.1
  have hnw : nativeFrameWords "java/lang/System" "arraycopy" 5 ≤ 40 := by decide
  have hR1 := hk.2.2.2.2.2.2.2.1
  have hR2 := hk.2.2.2.2.2.2.2.2.1
  exact va_copyi hk.1 hk.2.1 (by rw [hk.2.2.1, hl.1, hk.2.2.2.1]) hk.2.2.2.2.1 w1 w2 w3 w4 hk.2.2.2.2.2.1.2.1 hH.1 hH.2 hS q0 q1 0 0 hq0 hq1 rfl rfl rfl h1 h2 h3 h4 h5 (fun _ _ => rfl) (by omega) (by omega) hd (fun H1 locs1 e1 e2 e3 => g _ hF2 H1 locs1 ls (keep_wA hq10 (by rw [hcc, wA_self]) e1 e2) e3 hl)
theorem r_mmin (hk : Ok X K own cc n d) {ix : Nat} {x y : Int32} {f : Int32 → Option α} (hw : ∀ (a : Array Value) (U : State), Wd U → (Cond.methodLink own ix Lib.Math.min.name).before a U = true ∧ (Cond.static Lib.Math.min.name).before a U = true ∧ (Cond.initialized "java/lang/Math").before a U = true ∧ (Cond.code Lib.Math.min.name Lib.Math.min.code 2 (some .int)).before a U = true)
    (hF : bd (if y < x then y else x) f = some r) (hdd : 1 ≤ d) (hst : (st.map fun v => v.category).sum ≤ 8) (hd : decode cc pc = .ok (.invokestatic ix, 3)) (g : ∀ v, f v = some r → G X K (pc + 3) lv (.int v :: st) mm) : G X K pc lv (.int y :: .int x :: st) mm := by
  intro H locs ls hH hS hl
  obtain ⟨w1, w2, w3, w4⟩ := hw (ka K) (ks K) hk.2.2.2.2.2.1.1
  have hR1 := hk.2.2.2.2.2.2.2.1
  have hR2 := hk.2.2.2.2.2.2.2.2.1
  exact va_mmin hk.1 hk.2.1 (by rw [hk.2.2.1, hl.1, hk.2.2.2.1]) hk.2.2.2.2.1 w1 w2 w3 w4 (by omega) (by omega) hk.2.2.2.2.2.2.2.2.2.1 hk.2.2.2.2.2.2.2.2.2.2.1 hd (g _ hF H locs ls hH hS hl)
theorem r_mabs (hk : Ok X K own cc n d) {ix : Nat} {x : Int32} {f : Int32 → Option α} (hw : ∀ (a : Array Value) (U : State), Wd U → (Cond.methodLink own ix Lib.Math.abs.name).before a U = true ∧ (Cond.static Lib.Math.abs.name).before a U = true ∧ (Cond.initialized "java/lang/Math").before a U = true ∧ (Cond.code Lib.Math.abs.name Lib.Math.abs.code 1 (some .int)).before a U = true)
    (hF : bd (if 0 ≤ x then x else 0 - x) f = some r) (hdd : 1 ≤ d) (hst : (st.map fun v => v.category).sum ≤ 8) (hd : decode cc pc = .ok (.invokestatic ix, 3)) (g : ∀ v, f v = some r → G X K (pc + 3) lv (.int v :: st) mm) : G X K pc lv (.int x :: st) mm := by
  intro H locs ls hH hS hl
  obtain ⟨w1, w2, w3, w4⟩ := hw (ka K) (ks K) hk.2.2.2.2.2.1.1
  have hR1 := hk.2.2.2.2.2.2.2.1
  have hR2 := hk.2.2.2.2.2.2.2.2.1
  exact va_mabs hk.1 hk.2.1 (by rw [hk.2.2.1, hl.1, hk.2.2.2.1]) hk.2.2.2.2.1 w1 w2 w3 w4 (by omega) (by omega) hk.2.2.2.2.2.2.2.2.2.1 hk.2.2.2.2.2.2.2.2.2.2.1 hd (g _ hF H locs ls hH hS hl)


/-- a class of the world: its words, its number, its fields -/
def CB (C : String) (T : u_T) (N ci : Nat) (ty : Nat → FieldType) : Prop := (∀ (a : Array Value) (U : State), Wd U → ∀ w ∈ u_ws C T N, w.before a U = true) ∧ vwCl[ci]? = some (C, T, N) ∧ (∀ k, k < N → parseFieldDescriptor (T k).2.2.1 = some (ty k)) ∧ (∀ a, a < N → ∀ b, b < N → a ≠ b → (T a).2.1 ≠ (T b).2.1)
theorem cb_ws {C : String} {T : u_T} {N : Nat} (h : (u_ws C T N).all (fun w => decide (w ∈ lw_tbl) && okw w) = true) : ∀ (a : Array Value) (U : State), Wd U → ∀ w ∈ u_ws C T N, w.before a U = true := by
  intro a U hU w hw
  have h1 := List.all_eq_true.mp h w hw
  rw [Bool.and_eq_true, decide_eq_true_eq] at h1
  exact okw_at (State.WarmedH.refl U) h1.2 (hU w h1.1 h1.2)
theorem cbX0 : CB RX0 TX0 6 0 tyX0 := ⟨cb_ws (by decide +kernel), rfl, tyX0_ok, nmX0⟩
theorem cbX1 : CB RX1 TX1 4 1 tyX1 := ⟨cb_ws (by decide +kernel), rfl, tyX1_ok, nmX1⟩
theorem cbX2 : CB RX2 TX2 10 2 tyX2 := ⟨cb_ws (by decide +kernel), rfl, tyX2_ok, nmX2⟩
theorem cbX3 : CB RX3 TX3 7 3 tyX3 := ⟨cb_ws (by decide +kernel), rfl, tyX3_ok, nmX3⟩
theorem r_getI (hk : Ok X K own cc n d) {C : String} {T : u_T} {N ci ix k : Nat} {ty : Nat → FieldType} {lb : Lb} {f : Int32 → Option α} (fs : (Nat → Nat) → (Nat → Int32) → List Value) (hB : CB C T N ci ty) (hkN : k < N) (hw : ∀ (a : Array Value) (U : State), Wd U → (Cond.fieldLink own ix (T k).1 (T k).2.1 (T k).2.2.1).before a U = true) (hlb : lb ∈ lbs) (hce : ∀ m, ce X lb m = .inr (ci, fs m.2.1 (m.1 lb))) (hv : ∀ q f, (fs q f)[k]? = some (.int (f k))) (hF : bd (mm.1 lb k) f = some r) (hd : decode cc pc = .ok (.getfield ix, 3)) (g : ∀ v, f v = some r → G X K (pc + 3) lv (.int v :: st) mm) : G X K pc lv (.ref (xad X lb) :: st) mm := by
  intro H locs ls hH hS hl
  obtain ⟨q, -, hq⟩ := cel_at X mm hlb
  rw [hce] at hq
  exact va_get hk.1 hk.2.1 (hB.1 _ _ hk.2.2.2.2.2.1.1) (fun _ h => h) hk.2.2.2.2.1 hk.2.2.2.2.2.1.2.1 hH.1 q hq hB.2.1 k hkN (hw _ _ hk.2.2.2.2.2.1.1) (fun _ h => h) (hv _ _) hd (g _ hF H locs ls hH hS hl)
theorem r_getR (hk : Ok X K own cc n d) {C : String} {T : u_T} {N ci ix k a : Nat} {ty : Nat → FieldType} {lb : Lb} (fs : (Nat → Nat) → (Nat → Int32) → List Value) (hB : CB C T N ci ty) (hkN : k < N) (hw : ∀ (a : Array Value) (U : State), Wd U → (Cond.fieldLink own ix (T k).1 (T k).2.1 (T k).2.2.1).before a U = true) (hlb : lb ∈ lbs) (hce : ∀ m, ce X lb m = .inr (ci, fs m.2.1 (m.1 lb))) (hv : ∀ q f, (fs q f)[k]? = some (.ref a)) (hd : decode cc pc = .ok (.getfield ix, 3)) (g : G X K (pc + 3) lv (.ref a :: st) mm) : G X K pc lv (.ref (xad X lb) :: st) mm := by
  intro H locs ls hH hS hl
  obtain ⟨q, -, hq⟩ := cel_at X mm hlb
  rw [hce] at hq
  exact va_get hk.1 hk.2.1 (hB.1 _ _ hk.2.2.2.2.2.1.1) (fun _ h => h) hk.2.2.2.2.1 hk.2.2.2.2.2.1.2.1 hH.1 q hq hB.2.1 k hkN (hw _ _ hk.2.2.2.2.2.1.1) (fun _ h => h) (hv _ _) hd (g H locs ls hH hS hl)
theorem r_getS (hk : Ok X K own cc n d) {ix : Nat} {f : Nat → Option α} (hw : ∀ (a : Array Value) (U : State), Wd U → (Cond.fieldLink own ix (TX3 4).1 (TX3 4).2.1 (TX3 4).2.2.1).before a U = true) (hF : bp (mm.2.1 6) 7 f = some r) (hd : decode cc pc = .ok (.getfield ix, 3)) (g : ∀ i, i < 7 → f i = some r → G X K (pc + 3) lv (.ref (xad X (1, i, 0, 0)) :: st) mm) : G X K pc lv (.ref (xad X (0, 0, 0, 0)) :: st) mm := by
  intro H locs ls hH hS hl
  obtain ⟨q, -, hq⟩ := cel_at X mm (in_main 0 (by decide))
  have hB := cbX3
  exact va_get hk.1 hk.2.1 (hB.1 _ _ hk.2.2.2.2.2.1.1) (fun _ h => h) hk.2.2.2.2.1 hk.2.2.2.2.2.1.2.1 hH.1 q hq hB.2.1 4 (by decide) (hw _ _ hk.2.2.2.2.2.1.1) (fun _ h => h) rfl hd (g _ (bp_some hF).1 (bp_some hF).2 H locs ls hH hS hl)
theorem r_putI (hk : Ok X K own cc n d) {C : String} {T : u_T} {N ci ix k : Nat} {ty : Nat → FieldType} {lb : Lb} {v : Int32} {f : Mem → Option α} (fs : (Nat → Nat) → (Nat → Int32) → List Value) (hB : CB C T N ci ty) (hkN : k < N) (hw : ∀ (a : Array Value) (U : State), Wd U → (Cond.fieldLink own ix (T k).1 (T k).2.1 (T k).2.2.1).before a U = true) (hlb : lb ∈ lbs) (hce : ∀ m, ce X lb m = .inr (ci, fs m.2.1 (m.1 lb))) (hty : ty k = .int) (hfin : (T k).2.2.2 = false) (hset : ∀ q f v, (fs q f).set k (.int v) = fs q (upd f k v)) (hlen : ∀ q f, k < (fs q f).length) (hF : bd (wI mm lb k v) f = some r) (hd : decode cc pc = .ok (.putfield ix, 3)) (g : ∀ m1, f m1 = some r → G X K (pc + 3) lv st m1) : G X K pc lv (.int v :: .ref (xad X lb) :: st) mm := by
  intro H locs ls hH hS hl
  obtain ⟨q, hq0, hq⟩ := cel_at X mm hlb
  rw [hce] at hq
  exact va_put hk.1 hk.2.1 (hB.1 _ _ hk.2.2.2.2.2.1.1) (fun _ h => h) ty hB.2.2.1 hB.2.2.2 hk.2.2.2.2.1 hk.2.2.2.2.2.1.2.1 hH.1 hH.2 hS q hq hB.2.1 k hkN (hw _ _ hk.2.2.2.2.2.1.1) (fun _ h => h) hfin (ty := .int) (by rw [hB.2.2.1 k hkN, hty]) rfl rfl (hlen _ _) hd (fun H1 locs1 h1 h2 h3 => g _ hF H1 locs1 ls (keep_wA hq0 (by rw [hce, wA_self, hset]; rfl) h1 h2) h3 hl)
theorem r_putZ (hk : Ok X K own cc n d) {C : String} {T : u_T} {N ci ix k : Nat} {ty : Nat → FieldType} {lb : Lb} {v : Int32} {f : Mem → Option α} (fs : (Nat → Nat) → (Nat → Int32) → List Value) (hB : CB C T N ci ty) (hkN : k < N) (hw : ∀ (a : Array Value) (U : State), Wd U → (Cond.fieldLink own ix (T k).1 (T k).2.1 (T k).2.2.1).before a U = true) (hlb : lb ∈ lbs) (hce : ∀ m, ce X lb m = .inr (ci, fs m.2.1 (m.1 lb))) (hty : ty k = .boolean) (hfin : (T k).2.2.2 = false) (hset : ∀ q f v, (fs q f).set k (.int v) = fs q (upd f k v)) (hlen : ∀ q f, k < (fs q f).length) (hF : ck (isB v) (bd (wI mm lb k v) f) = some r) (hd : decode cc pc = .ok (.putfield ix, 3)) (g : ∀ m1, f m1 = some r → G X K (pc + 3) lv st m1) : G X K pc lv (.int v :: .ref (xad X lb) :: st) mm := by
  intro H locs ls hH hS hl
  obtain ⟨q, hq0, hq⟩ := cel_at X mm hlb
  rw [hce] at hq
  have hb := ck_some hF
  exact va_put hk.1 hk.2.1 (hB.1 _ _ hk.2.2.2.2.2.1.1) (fun _ h => h) ty hB.2.2.1 hB.2.2.2 hk.2.2.2.2.1 hk.2.2.2.2.2.1.2.1 hH.1 hH.2 hS q hq hB.2.1 k hkN (hw _ _ hk.2.2.2.2.2.1.1) (fun _ h => h) hfin (ty := .boolean) (by rw [hB.2.2.1 k hkN, hty]) (isB_nar hb.1) (isB_fit hb.1) (hlen _ _) hd (fun H1 locs1 h1 h2 h3 => g _ hb.2 H1 locs1 ls (keep_wA hq0 (by rw [hce, wA_self, hset]; rfl) h1 h2) h3 hl)
theorem svf_up (X : XW) (q : Nat → Nat) {k i : Nat} (hk : k < 6) : va_up (svf X q) k (some (xad X (1, i, 0, 0))) = svf X (fun j => if j = k then i else q j) := by
  funext j
  unfold va_up svf
  by_cases hj : j = k
  · subst hj; simp only [if_true, if_pos hk]
  · simp only [if_neg hj]
theorem svf_6 (X : XW) (q : Nat → Nat) (i : Nat) : svf X (fun j => if j = 6 then i else q j) = svf X q := by
  funext j
  unfold svf
  by_cases hj : j < 6
  · have h6 : ¬ j = 6 := by omega
    simp only [if_pos hj, if_neg h6]
  · simp only [if_neg hj]
theorem r_aastS (hk : Ok X K own cc n d) {i : Int32} {j : Nat} {f : Mem → Option α} (hj : j < 7) (hF : ck (ib i 6) (bd (wP mm i.toNatClampNeg j) f) = some r) (hd : decode cc pc = .ok (.aastore, 1)) (g : ∀ m1, f m1 = some r → G X K (pc + 1) lv st m1) : G X K pc lv (.ref (xad X (1, j, 0, 0)) :: .int i :: .ref (xad X (0, 0, 0, 1)) :: st) mm := by
  intro H locs ls hH hS hl
  obtain ⟨q, hq0, hq⟩ := cel_at X mm (in_main 1 (by decide))
  obtain ⟨q2, -, hq2⟩ := cel_at X mm (in_st j hj 0 (by decide))
  have h7 : i.toNatClampNeg < 6 := by
    obtain ⟨j, hj, rfl⟩ := vp_in_of (ib_in (ck_some hF).1) (by decide)
    rw [nI_clamp (by omega)]; exact hj
  refine va_astq hk.1 hk.2.1 hk.2.2.2.2.2.1.2.1 hH.1 hH.2 hS q 3 q2 1 (r := (RX1, TX1, 4)) hq rfl hq2 rfl (ib_in (ck_some hF).1) hd (fun H1 locs1 h1 h2 h3 => g _ (ck_some hF).2 H1 locs1 ls ?_ h3 hl)
  have he : (.inl (xcS X, 6, .inr (.inr (.inr (.inr (va_up (svf X mm.2.1) i.toNatClampNeg (some (xad X (1, j, 0, 0)))))))) : va_E) = ce X (0, 0, 0, 1) (wP mm i.toNatClampNeg j) := by
    rw [svf_up X mm.2.1 h7]; rfl
  have hcs := cel_set X (m := mm) (m' := wP mm i.toNatClampNeg j) hq0 (fun lb' h hne => ?_)
  · rw [he, hcs] at h1 h2
    exact ⟨h1, h2⟩
  · by_cases h0 : lb' = (0, 0, 0, 0)
    · subst h0
      have h6 : ¬ 6 = i.toNatClampNeg := by omega
      simp only [ce, wP, fsX3, if_neg h6]
    · exact ce_ptr X h h0 hne rfl rfl
theorem r_putS (hk : Ok X K own cc n d) {ix j : Nat} {f : Mem → Option α} (hw : ∀ (a : Array Value) (U : State), Wd U → (Cond.fieldLink own ix (TX3 4).1 (TX3 4).2.1 (TX3 4).2.2.1).before a U = true) (hF : bd (wP mm 6 j) f = some r) (hd : decode cc pc = .ok (.putfield ix, 3)) (g : ∀ m1, f m1 = some r → G X K (pc + 3) lv st m1) : G X K pc lv (.ref (xad X (1, j, 0, 0)) :: .ref (xad X (0, 0, 0, 0)) :: st) mm := by
  intro H locs ls hH hS hl
  obtain ⟨q, hq0, hq⟩ := cel_at X mm (in_main 0 (by decide))
  have hB := cbX3
  refine va_put hk.1 hk.2.1 (hB.1 _ _ hk.2.2.2.2.2.1.1) (fun _ h => h) tyX3 hB.2.2.1 hB.2.2.2 hk.2.2.2.2.1 hk.2.2.2.2.2.1.2.1 hH.1 hH.2 hS q hq hB.2.1 4 (by decide) (hw _ _ hk.2.2.2.2.2.1.1) (fun _ h => h) rfl (ty := .object RX1) (hB.2.2.1 4 (by decide)) rfl rfl (by show 4 < 7; decide) hd (fun H1 locs1 h1 h2 h3 => g _ hF H1 locs1 ls ?_ h3 hl)
  have he : (.inr (3, (fsX3 X mm.2.1 (mm.1 (0, 0, 0, 0))).set 4 (.ref (xad X (1, j, 0, 0)))) : va_E) = ce X (0, 0, 0, 0) (wP mm 6 j) := rfl
  have h1' : va_P (xD X) vwCl ((cel X mm).set q (xad X (0, 0, 0, 0), ce X (0, 0, 0, 0) (wP mm 6 j))) H1 := he ▸ h1
  have h2' : va_D (xA X) ((cel X mm).set q (xad X (0, 0, 0, 0), ce X (0, 0, 0, 0) (wP mm 6 j))) := he ▸ h2
  have hcs := cel_set X (m := mm) (m' := wP mm 6 j) hq0 (fun lb' h hne => ?_)
  · rw [hcs] at h1' h2'
    exact ⟨h1', h2'⟩
  · by_cases h0 : lb' = (0, 0, 0, 1)
    · subst h0
      show (.inl (xcS X, 6, .inr (.inr (.inr (.inr (svf X (fun j2 => if j2 = 6 then j else mm.2.1 j2)))))) : va_E) = .inl (xcS X, 6, .inr (.inr (.inr (.inr (svf X mm.2.1)))))
      rw [svf_6]
    · exact ce_ptr X h hne h0 rfl rfl
theorem r_sld (hk : Ok X K own cc n d) {i : Int32} {f : Int32 → Option α} (hF : ck (ib i (xL X)) (bd (xs X i.toNatClampNeg) f) = some r) (hd : decode cc pc = .ok (.iaload, 1)) (g : ∀ v, f v = some r → G X K (pc + 1) lv (.int v :: st) mm) : G X K pc lv (.int i :: .ref (xb X) :: st) mm := by
  intro H locs ls hH hS hl
  obtain ⟨-, -, -, -, -, -, -, -, h9, h10, h11, -⟩ := hk.2.2.2.2.2.1
  exact va_sld hk.1 hk.2.1 h9 (Nat.lt_of_lt_of_le h10 h11) (Nat.not_le.mpr h10) hS (ib_in (ck_some hF).1) hd (g _ (ck_some hF).2 H locs ls hH hS hl)


theorem r_lookup (hk : Ok X K own cc n d) {dflt off : Int} {ps : Array (Int × Int)} {len : Nat} {x : Int32} (tgt : Nat) (hd : decode cc pc = .ok (.lookupswitch dflt ps, len)) (hp : (ps.toList.zip (ps.toList.drop 1)).all (fun (a, next) => a.1 < next.1) = true) (ho : Op.lookupswitch.offset ps.toList dflt x.toInt = off) (ht : (pc : Int) + off = (tgt : Int)) (g : G X K tgt lv st mm) : G X K pc lv (.int x :: st) mm :=
  fun H locs ls hH hS hl => lv_lookup hk.1 hk.2.1 hd hp ho ht (g H locs ls hH hS hl)
theorem r_slen (hk : Ok X K own cc n d) (hd : decode cc pc = .ok (.arraylength, 1)) (g : G X K (pc + 1) lv (.int (Int32.ofNat (xL X)) :: st) mm) : G X K pc lv (.ref (xb X) :: st) mm := by
  intro H locs ls hH hS hl
  obtain ⟨-, -, -, -, -, -, -, -, h9, h10, h11, -⟩ := hk.2.2.2.2.2.1
  exact va_slen hk.1 hk.2.1 h9 (Nat.lt_of_lt_of_le h10 h11) (Nat.not_le.mpr h10) hS hd (g H locs ls hH hS hl)
theorem lk_eq {x k : Int32} {l : List (Int × Int)} {d off : Int} (h : x = k) (h2 : Op.lookupswitch.offset l d k.toInt = off) : Op.lookupswitch.offset l d x.toInt = off := by
  subst h
  exact h2
theorem r_tabIn (hk : Ok X K own cc n d) {dflt lo hi off : Int} {offs : Array Int} {len : Nat} {x : Int32} (tgt : Nat) (hd : decode cc pc = .ok (.tableswitch dflt lo hi offs, len)) (h1 : ¬ x.toInt < lo) (h2 : ¬ hi < x.toInt) (ho : offs[(x.toInt - lo).toNat]? = some off) (ht : (pc : Int) + off = (tgt : Int)) (g : G X K tgt lv st mm) : G X K pc lv (.int x :: st) mm :=
  fun H locs ls hH hS hl => lv_tableIn hk.1 hk.2.1 hd h1 h2 ho ht (g H locs ls hH hS hl)
theorem r_tabOut (hk : Ok X K own cc n d) {dflt lo hi : Int} {offs : Array Int} {len : Nat} {x : Int32} (tgt : Nat) (hd : decode cc pc = .ok (.tableswitch dflt lo hi offs, len)) (h : x.toInt < lo ∨ hi < x.toInt) (ht : (pc : Int) + dflt = (tgt : Int)) (g : G X K tgt lv st mm) : G X K pc lv (.int x :: st) mm :=
  fun H locs ls hH hS hl => lv_tableOut hk.1 hk.2.1 hd h ht (g H locs ls hH hS hl)
theorem r_rawbits (hk : Ok X K own cc n d) {ix : Nat} {x : UInt64} {f : Int64 → Option α} (hw : ∀ (a : Array Value) (U : State), Wd U → (Cond.methodLink own ix ⟨"java/lang/Double", "doubleToRawLongBits", "(D)J"⟩).before a U = true ∧ (Cond.native ⟨"java/lang/Double", "doubleToRawLongBits", "(D)J"⟩).before a U = true ∧ (Cond.static ⟨"java/lang/Double", "doubleToRawLongBits", "(D)J"⟩).before a U = true ∧ (Cond.initialized "java/lang/Double").before a U = true)
    (hF : bd (UInt64.toInt64 x) f = some r) (hdd : 1 ≤ d) (hst : (st.map fun v => v.category).sum ≤ 8) (hd : decode cc pc = .ok (.invokestatic ix, 3)) (g : ∀ v, f v = some r → G X K (pc + 3) lv (.long v :: st) mm) : G X K pc lv (.double x :: st) mm := by
  intro H locs ls hH hS hl
  obtain ⟨w1, w2, w3, w4⟩ := hw (ka K) (ks K) hk.2.2.2.2.2.1.1
  have hR1 := hk.2.2.2.2.2.2.2.1
  have hR2 := hk.2.2.2.2.2.2.2.2.1
  exact vn_d2l hk.1 hk.2.1 (by rw [hk.2.2.1, hl.1, hk.2.2.2.1]) hk.2.2.2.2.1 w1 w2 w3 w4 (by omega) (by omega) hd (g _ hF H locs ls hH hS hl)

end ROWS

