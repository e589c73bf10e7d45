/-! the constructors: worlds as lists of cells -/
abbrev CT5 : Type := ClassId × ClassId × ClassId × ClassId × ClassId
def ctys (c : CT5) : List (ClassId × FieldType) := [(c.1, .int), (c.2.1, .boolean), (c.2.2.1, .byte), (c.2.2.2.1, .object RX1), (c.2.2.2.2, .object RX2)]
/-- what a constructor's start needs of the tables -/
def CG (D : va_G) (c : CT5) (U : State) : Prop := Wd U ∧ va_K D vwCl (ctys c) U ∧ va_AO RX1 U ∧ va_AO RX2 U
theorem CG.moved {D : va_G} {c : CT5} {s U : State} (h : CG D c s) (hW : s.WarmedH U.vm) : CG D c U := ⟨h.1.warm hW, va_K.moved hW.alike h.2.1, h.2.2.1.moved hW.alike, h.2.2.2.moved hW.alike⟩
def GW (D : va_G) (A : Nat → Prop) (K : MC) (c s pc : Nat) (lv : List (Nat × Value)) (st : List Value) (ws : va_W) : Prop :=
  ∀ (H : Heap) (locs : List Loc) (ls : Array Slot), va_P D vwCl ws H → va_D A ws → va_S A (ks K).heap H locs → lv_has ls (kn K) lv → W (kp K) (kl K) (ke K) (kR K) (ks K) (km K) (ka K) (kb K) (kmt K) (kc K) H locs c s (kQ K) (F0 (km K) pc ls st)
def OkW (D : va_G) (ct : CT5) (A : Nat → Prop) (K : MC) (own : String) (cc : ByteArray) (n d C S : Nat) : Prop :=
  (kp K).tables.exec = Jvm.exec ∧ (kc K).code = cc ∧ (kc K).maxLocals = n ∧ kn K = n ∧ (ks K).vm.findClass own = some (km K).cls ∧ CG D ct (ks K) ∧ (kmt K).locks = false ∧ d ≤ (kR K).frames ∧ 36 * d ≤ (kR K).locals ∧ C ≤ (kR K).cells ∧ S ≤ (kR K).slots ∧ (∀ q, (ks K).heap.size ≤ q → A q)
section GWROWS
variable {D : va_G} {ct : CT5} {A : Nat → Prop} {K : MC} {own : String} {cc : ByteArray} {n d C S c s pc : Nat} {lv lv' : List (Nat × Value)} {st : List Value} {ws : va_W}
theorem w_lit (hk : OkW D ct A K own cc n d C S) {k : Int} (v : Int32) (hd : decode cc pc = .ok (.iconst k, 1)) (hv : Int32.ofInt k = v) (g : GW D A K c s (pc + 1) lv (.int v :: st) ws) : GW D A K c s pc lv st ws := fun H locs ls h1 h2 h3 h4 => lv_iconst hk.1 hk.2.1 hd hv (g H locs ls h1 h2 h3 h4)
theorem w_bip (hk : OkW D ct A K own cc n d C S) {k : Int} (v : Int32) (hd : decode cc pc = .ok (.bipush k, 2)) (hv : (Int8.ofInt k).toInt32 = v) (g : GW D A K c s (pc + 2) lv (.int v :: st) ws) : GW D A K c s pc lv st ws := fun H locs ls h1 h2 h3 h4 => lv_bipush hk.1 hk.2.1 hd hv (g H locs ls h1 h2 h3 h4)
theorem w_sip (hk : OkW D ct A K own cc n d C S) {k : Int} (v : Int32) (hd : decode cc pc = .ok (.sipush k, 3)) (hv : (Int16.ofInt k).toInt32 = v) (g : GW D A K c s (pc + 3) lv (.int v :: st) ws) : GW D A K c s pc lv st ws := fun H locs ls h1 h2 h3 h4 => lv_sipush hk.1 hk.2.1 hd hv (g H locs ls h1 h2 h3 h4)
theorem w_iload (hk : OkW D ct A K own cc n d C S) {k : Fin 4} {x : Int32} (j : Nat) (hd : decode cc pc = .ok (.iload_n k, 1)) (hj : lv[j]? = some ((k : Nat), .int x)) (g : GW D A K c s (pc + 1) lv (.int x :: st) ws) : GW D A K c s pc lv st ws := fun H locs ls h1 h2 h3 h4 => lv_iload_n hk.1 hk.2.1 hd rfl (lv_at h4 j hj) (g H locs ls h1 h2 h3 h4)
theorem w_aload (hk : OkW D ct A K own cc n d C S) {k : Fin 4} {x : Nat} (j : Nat) (hd : decode cc pc = .ok (.aload_n k, 1)) (hj : lv[j]? = some ((k : Nat), .ref x)) (g : GW D A K c s (pc + 1) lv (.ref x :: st) ws) : GW D A K c s pc lv st ws := fun H locs ls h1 h2 h3 h4 => lv_aload_n hk.1 hk.2.1 hd rfl (lv_at h4 j hj) (g H locs ls h1 h2 h3 h4)
theorem w_istore (hk : OkW D ct A K own cc n d C S) {k : Fin 4} {x : Int32} (lv' : List (Nat × Value)) (hd : decode cc pc = .ok (.istore_n k, 1)) (hn : (k : Nat) < n) (hl' : ((k : Nat), Value.int x) :: lv.filter (fun q => !(q.1 == (k : Nat)) && !(q.1 + 1 == (k : Nat) && q.2.category == 2)) = lv') (g : GW D A K c s (pc + 1) lv' st ws) : GW D A K c s pc lv (.int x :: st) ws := fun H locs ls h1 h2 h3 h4 => lv_istore_n hk.1 hk.2.1 hd rfl h4 (by rw [hk.2.2.2.1]; exact hn) hl' (fun ls' h => g H locs ls' h1 h2 h3 h)
theorem w_istore4 (hk : OkW D ct A K own cc n d C S) {i : Nat} {x : Int32} (lv' : List (Nat × Value)) (hd : decode cc pc = .ok (.istore i, 2)) (hn : i < n) (hl' : (i, Value.int x) :: lv.filter (fun q => !(q.1 == i) && !(q.1 + 1 == i && q.2.category == 2)) = lv') (g : GW D A K c s (pc + 2) lv' st ws) : GW D A K c s pc lv (.int x :: st) ws := fun H locs ls h1 h2 h3 h4 => lv_istore hk.1 hk.2.1 hd h4 (by rw [hk.2.2.2.1]; exact hn) hl' (fun ls' h => g H locs ls' h1 h2 h3 h)
theorem w_astore (hk : OkW D ct A K own cc n d C S) {k : Fin 4} {x : Nat} (lv' : List (Nat × Value)) (hd : decode cc pc = .ok (.astore_n k, 1)) (hn : (k : Nat) < n) (hl' : ((k : Nat), Value.ref x) :: lv.filter (fun q => !(q.1 == (k : Nat)) && !(q.1 + 1 == (k : Nat) && q.2.category == 2)) = lv') (g : GW D A K c s (pc + 1) lv' st ws) : GW D A K c s pc lv (.ref x :: st) ws := fun H locs ls h1 h2 h3 h4 => lv_astore_n hk.1 hk.2.1 hd rfl h4 (by rw [hk.2.2.2.1]; exact hn) hl' (fun ls' h => g H locs ls' h1 h2 h3 h)
theorem w_iinc (hk : OkW D ct A K own cc n d C S) {i : Nat} {k : Int} {x : Int32} (v : Int32) (j : Nat) (lv' : List (Nat × Value)) (hd : decode cc pc = .ok (.iinc i k, 3)) (hj : lv[j]? = some (i, .int x)) (hv : x + Int32.ofInt k = v) (hn : i < n) (hl' : (i, Value.int v) :: lv.filter (fun q => !(q.1 == i) && !(q.1 + 1 == i && q.2.category == 2)) = lv') (g : GW D A K c s (pc + 3) lv' st ws) : GW D A K c s pc lv st ws := fun H locs ls h1 h2 h3 h4 => lv_iinc hk.1 hk.2.1 hd h4 (k := j) hj hv (by rw [hk.2.2.2.1]; exact hn) hl' (fun ls' h => g H locs ls' h1 h2 h3 h)
theorem w_iadd (hk : OkW D ct A K own cc n d C S) {x y : Int32} (v : Int32) (hd : decode cc pc = .ok (.iadd, 1)) (hv : x + y = v) (g : GW D A K c s (pc + 1) lv (.int v :: st) ws) : GW D A K c s pc lv (.int y :: .int x :: st) ws := fun H locs ls h1 h2 h3 h4 => lv_iadd hk.1 hk.2.1 hd (by rw [hv]; exact g H locs ls h1 h2 h3 h4)
theorem w_geT (hk : OkW D ct A K own cc n d C S) {x y : Int32} {off : Int} (tgt : Nat) (hd : decode cc pc = .ok (.if_icmp .ge off, 3)) (ht : (pc : Int) + off = (tgt : Int)) (hxy : y ≤ x) (g : GW D A K c s tgt lv st ws) : GW D A K c s pc lv (.int y :: .int x :: st) ws := fun H locs ls h1 h2 h3 h4 => lv_icmp_ge hk.1 hk.2.1 hd ht (fun _ => g H locs ls h1 h2 h3 h4) (fun h => absurd hxy h)
theorem w_geF (hk : OkW D ct A K own cc n d C S) {x y : Int32} {off : Int} (tgt : Nat) (hd : decode cc pc = .ok (.if_icmp .ge off, 3)) (ht : (pc : Int) + off = (tgt : Int)) (hxy : ¬ y ≤ x) (g : GW D A K c s (pc + 3) lv st ws) : GW D A K c s pc lv (.int y :: .int x :: st) ws := fun H locs ls h1 h2 h3 h4 => lv_icmp_ge hk.1 hk.2.1 hd ht (fun h => absurd h hxy) (fun _ => g H locs ls h1 h2 h3 h4)
theorem w_goto (hk : OkW D ct A K own cc n d C S) {off : Int} (tgt : Nat) (hd : decode cc pc = .ok (.goto off, 3)) (ht : (pc : Int) + off = (tgt : Int)) (g : GW D A K c s tgt lv st ws) : GW D A K c s pc lv st ws := fun H locs ls h1 h2 h3 h4 => lv_goto hk.1 hk.2.1 hd ht (g H locs ls h1 h2 h3 h4)
theorem fc_eq {D : va_G} {ct : CT5} {tys : List (ClassId × FieldType)} {U : State} {cA : ClassId} {ty : FieldType} {j : Nat} (h0 : va_K D vwCl (ctys ct) U) (h1 : va_K D vwCl (tys ++ [(cA, ty)]) U) {cB : ClassId} (hj : (ctys ct)[j]? = some (cB, ty)) : cA = cB := by
  have a1 := (h1.2 tys.length (cA, ty) (by rw [List.getElem?_append_right (Nat.le_refl _), Nat.sub_self]; rfl)).2
  have a2 := (h0.2 j (cB, ty) hj).2
  cases ty with
  | object C =>
    obtain ⟨_, _, _, _, _, e1⟩ := a1
    obtain ⟨_, _, _, _, _, e2⟩ := a2
    exact Option.some.inj (e1.symm.trans e2)
  | _ => exact Option.some.inj (Eq.trans (Eq.symm a1) a2)
theorem w_newI (hk : OkW D ct A K own cc n d C S) {x : Int32} (N : Nat) (hd : decode cc pc = .ok (.newarray .int, 2)) (hx : ¬ x < 0) (hN : x.toNatClampNeg = N) (hb : N * 4 ≤ 536870912) (hc : c + 1 ≤ C) (hs : s + N ≤ S) (ia : Nat) (hia : lw_tbl[ia]? = some (.arrayClass .int)) (g : ∀ q, GW D A K (c + 1) (s + N) (pc + 2) lv (.ref q :: st) (ws ++ [(q, .inl (ct.1, N, .inl (fun _ => 0)))])) : GW D A K c s pc lv (.int x :: st) ws := by
  intro H locs ls h1 h2 h3 h4
  refine va_newa (atype := .int) (ty := .int) (N' := N) (a0 := (N, .inl (fun _ => 0))) hk.1 hk.2.1 (hk.2.2.2.2.2.1.1.use _ ia hia (by decide)) rfl hk.2.2.2.2.2.1.2.1 h1 h2 h3 hk.2.2.2.2.2.2.2.2.2.2.2 (fun cA => rfl) hx hN hb (Nat.le_trans hc hk.2.2.2.2.2.2.2.2.2.1) (Nat.le_trans hs hk.2.2.2.2.2.2.2.2.2.2.1) hd (fun q cA H1 e1 e2 e3 e4 => ?_)
  have := fc_eq hk.2.2.2.2.2.1.2.1 e1 (j := 0) rfl
  subst this
  exact g q H1 locs ls e2 e3 e4 h4
theorem w_newZ (hk : OkW D ct A K own cc n d C S) {x : Int32} (N : Nat) (hd : decode cc pc = .ok (.newarray .boolean, 2)) (hx : ¬ x < 0) (hN : x.toNatClampNeg = N) (hb : N * 1 ≤ 536870912) (hc : c + 1 ≤ C) (hs : s + N ≤ S) (ia : Nat) (hia : lw_tbl[ia]? = some (.arrayClass .boolean)) (g : ∀ q, GW D A K (c + 1) (s + N) (pc + 2) lv (.ref q :: st) (ws ++ [(q, .inl (ct.2.1, N, .inl (fun _ => 0)))])) : GW D A K c s pc lv (.int x :: st) ws := by
  intro H locs ls h1 h2 h3 h4
  refine va_newa (atype := .boolean) (ty := .boolean) (N' := N) (a0 := (N, .inl (fun _ => 0))) hk.1 hk.2.1 (hk.2.2.2.2.2.1.1.use _ ia hia (by decide)) rfl hk.2.2.2.2.2.1.2.1 h1 h2 h3 hk.2.2.2.2.2.2.2.2.2.2.2 (fun cA => rfl) hx hN hb (Nat.le_trans hc hk.2.2.2.2.2.2.2.2.2.1) (Nat.le_trans hs hk.2.2.2.2.2.2.2.2.2.2.1) hd (fun q cA H1 e1 e2 e3 e4 => ?_)
  have := fc_eq hk.2.2.2.2.2.1.2.1 e1 (j := 1) rfl
  subst this
  exact g q H1 locs ls e2 e3 e4 h4
theorem w_newS (hk : OkW D ct A K own cc n d C S) {x : Int32} {ix : Nat} (N : Nat) (hd : decode cc pc = .ok (.anewarray ix, 3)) (hx : ¬ x < 0) (hN : x.toNatClampNeg = N) (hb : N * 4 ≤ 536870912) (hc : c + 1 ≤ C) (hs : s + N ≤ S) (hw : ∀ (a : Array Value) (U : State), Wd U → (Cond.classLink own ix RX1).before a U = true) (g : ∀ q, GW D A K (c + 1) (s + N) (pc + 3) lv (.ref q :: st) (ws ++ [(q, .inl (ct.2.2.2.1, N, .inr (.inr (.inr (.inr (fun _ => none))))))])) : GW D A K c s pc lv (.int x :: st) ws := by
  intro H locs ls h1 h2 h3 h4
  refine va_newq (C := RX1) (N' := N) hk.1 hk.2.1 hk.2.2.2.2.1 (hw _ _ hk.2.2.2.2.2.1.1) hk.2.2.2.2.2.1.2.2.1 hk.2.2.2.2.2.1.2.1 h1 h2 h3 hk.2.2.2.2.2.2.2.2.2.2.2 hx hN hb (Nat.le_trans hc hk.2.2.2.2.2.2.2.2.2.1) (Nat.le_trans hs hk.2.2.2.2.2.2.2.2.2.2.1) hd (fun q cA H1 e1 e2 e3 e4 => ?_)
  have := fc_eq hk.2.2.2.2.2.1.2.1 e1 (j := 3) rfl
  subst this
  exact g q H1 locs ls e2 e3 e4 h4
theorem w_newT (hk : OkW D ct A K own cc n d C S) {x : Int32} {ix : Nat} (N : Nat) (hd : decode cc pc = .ok (.anewarray ix, 3)) (hx : ¬ x < 0) (hN : x.toNatClampNeg = N) (hb : N * 4 ≤ 536870912) (hc : c + 1 ≤ C) (hs : s + N ≤ S) (hw : ∀ (a : Array Value) (U : State), Wd U → (Cond.classLink own ix RX2).before a U = true) (g : ∀ q, GW D A K (c + 1) (s + N) (pc + 3) lv (.ref q :: st) (ws ++ [(q, .inl (ct.2.2.2.2, N, .inr (.inr (.inr (.inr (fun _ => none))))))])) : GW D A K c s pc lv (.int x :: st) ws := by
  intro H locs ls h1 h2 h3 h4
  refine va_newq (C := RX2) (N' := N) hk.1 hk.2.1 hk.2.2.2.2.1 (hw _ _ hk.2.2.2.2.2.1.1) hk.2.2.2.2.2.1.2.2.2 hk.2.2.2.2.2.1.2.1 h1 h2 h3 hk.2.2.2.2.2.2.2.2.2.2.2 hx hN hb (Nat.le_trans hc hk.2.2.2.2.2.2.2.2.2.1) (Nat.le_trans hs hk.2.2.2.2.2.2.2.2.2.2.1) hd (fun q cA H1 e1 e2 e3 e4 => ?_)
  have := fc_eq hk.2.2.2.2.2.1.2.1 e1 (j := 4) rfl
  subst this
  exact g q H1 locs ls e2 e3 e4 h4
theorem w_putF (hk : OkW D ct A K own cc n d C S) (hin : (kmt K).name = "<init>") {CC : String} {T : u_T} {N ci ix k a : Nat} {ty : Nat → FieldType} {v : Value} {fs : List Value} (q0 : Nat) (hB : CB CC T N ci ty) (hkN : k < N) (hw : ∀ (a : Array Value) (U : State), Wd U → (Cond.fieldLink own ix (T k).1 (T k).2.1 (T k).2.2.1).before a U = true) (he : ws[q0]? = some (a, .inr (ci, fs))) (hfin : (T k).2.2.2 = true) (hdecl : (T k).1 = own) (hn : narrow (ty k) v = v) (hfit : fits (ty k) v = true) (hl : k < fs.length) (ws' : va_W) (hws : ws.set q0 (a, .inr (ci, fs.set k v)) = ws') (hd : decode cc pc = .ok (.putfield ix, 3)) (g : GW D A K c s (pc + 3) lv st ws') : GW D A K c s pc lv (v :: .ref a :: st) ws := by
  subst hws
  intro H locs ls h1 h2 h3 h4
  exact va_putF hk.1 hk.2.1 (hB.1 _ _ hk.2.2.2.2.2.1.1) (fun _ h => h) ty hB.2.2.1 hB.2.2.2 hk.2.2.2.2.1 hk.2.2.2.2.2.1.2.1 h1 h2 h3 q0 he hB.2.1 k hkN (hw _ _ hk.2.2.2.2.2.1.1) (fun _ h => h) hfin hin hdecl (hB.2.2.1 k hkN) hn hfit hl hd (fun H1 locs1 e1 e2 e3 => g H1 locs1 ls e1 e2 e3 h4)
theorem w_put (hk : OkW D ct A K own cc n d C S) {CC : String} {T : u_T} {N ci ix k a : Nat} {ty : Nat → FieldType} {v : Value} {fs : List Value} (q0 : Nat) (hB : CB CC T N ci ty) (hkN : k < N) (hw : ∀ (a : Array Value) (U : State), Wd U → (Cond.fieldLink own ix (T k).1 (T k).2.1 (T k).2.2.1).before a U = true) (he : ws[q0]? = some (a, .inr (ci, fs))) (hfin : (T k).2.2.2 = false) (hn : narrow (ty k) v = v) (hfit : fits (ty k) v = true) (hl : k < fs.length) (ws' : va_W) (hws : ws.set q0 (a, .inr (ci, fs.set k v)) = ws') (hd : decode cc pc = .ok (.putfield ix, 3)) (g : GW D A K c s (pc + 3) lv st ws') : GW D A K c s pc lv (v :: .ref a :: st) ws := by
  subst hws
  intro H locs ls h1 h2 h3 h4
  exact va_put hk.1 hk.2.1 (hB.1 _ _ hk.2.2.2.2.2.1.1) (fun _ h => h) ty hB.2.2.1 hB.2.2.2 hk.2.2.2.2.1 hk.2.2.2.2.2.1.2.1 h1 h2 h3 q0 he hB.2.1 k hkN (hw _ _ hk.2.2.2.2.2.1.1) (fun _ h => h) hfin (hB.2.2.1 k hkN) hn hfit hl hd (fun H1 locs1 e1 e2 e3 => g H1 locs1 ls e1 e2 e3 h4)
theorem w_get (hk : OkW D ct A K own cc n d C S) {CC : String} {T : u_T} {N ci ix k a : Nat} {ty : Nat → FieldType} {v : Value} {fs : List Value} (q0 : Nat) (hB : CB CC T N ci ty) (hkN : k < N) (hw : ∀ (a : Array Value) (U : State), Wd U → (Cond.fieldLink own ix (T k).1 (T k).2.1 (T k).2.2.1).before a U = true) (he : ws[q0]? = some (a, .inr (ci, fs))) (hv : fs[k]? = some v) (hd : decode cc pc = .ok (.getfield ix, 3)) (g : GW D A K c s (pc + 3) lv (v :: st) ws) : GW D A K c s pc lv (.ref a :: st) ws := by
  intro H locs ls h1 h2 h3 h4
  exact va_get hk.1 hk.2.1 (hB.1 _ _ hk.2.2.2.2.2.1.1) (fun _ h => h) hk.2.2.2.2.1 hk.2.2.2.2.2.1.2.1 h1 q0 he hB.2.1 k hkN (hw _ _ hk.2.2.2.2.2.1.1) (fun _ h => h) hv hd (g H locs ls h1 h2 h3 h4)
theorem w_iast (hk : OkW D ct A K own cc n d C S) {a N : Nat} {f f' : Nat → Int32} {i x : Int32} (q0 : Nat) (ha : ws[q0]? = some (a, .inl (ct.1, N, .inl f))) (hin : ib i N = true) (hf : upd f i.toNatClampNeg x = f') (ws' : va_W) (hws : ws.set q0 (a, .inl (ct.1, N, .inl f')) = ws') (hd : decode cc pc = .ok (.iastore, 1)) (g : GW D A K c s (pc + 1) lv st ws') : GW D A K c s pc lv (.int x :: .int i :: .ref a :: st) ws := by
  subst hws; subst hf
  intro H locs ls h1 h2 h3 h4
  exact va_iast hk.1 hk.2.1 hk.2.2.2.2.2.1.2.1 h1 h2 h3 q0 0 ha rfl (ib_in hin) hd (fun H1 locs1 e1 e2 e3 => g H1 locs1 ls e1 e2 e3 h4)
theorem w_aast (hk : OkW D ct A K own cc n d C S) {a N v ci j : Nat} {cA : ClassId} {r : vw_C} {vs : List Value} {f : Nat → Option Nat} {i : Int32} (q0 qk : Nat) (hty : (ctys ct)[j]? = some (cA, .object r.1)) (ha : ws[q0]? = some (a, .inl (cA, N, .inr (.inr (.inr (.inr f)))))) (hv : ws[qk]? = some (v, .inr (ci, vs))) (hc : vwCl[ci]? = some r) (hin : ib i N = true) (ws' : va_W) (hws : ws.set q0 (a, .inl (cA, N, .inr (.inr (.inr (.inr (va_up f i.toNatClampNeg (some v))))))) = ws') (hd : decode cc pc = .ok (.aastore, 1)) (g : GW D A K c s (pc + 1) lv st ws') : GW D A K c s pc lv (.ref v :: .int i :: .ref a :: st) ws := by
  subst hws
  intro H locs ls h1 h2 h3 h4
  exact va_astq hk.1 hk.2.1 hk.2.2.2.2.2.1.2.1 h1 h2 h3 q0 j qk ci ha hty hv hc (ib_in hin) hd (fun H1 locs1 e1 e2 e3 => g H1 locs1 ls e1 e2 e3 h4)
theorem w_obj (hk : OkW D ct A K own cc n d C S) {ix a : Nat} (hw : ∀ (a : Array Value) (U : State), Wd U → (Cond.methodLink own ix Lib.objectInit).before a U = true ∧ (Cond.instanceMethod Lib.objectInit).before a U = true ∧ (Cond.code Lib.objectInit ⟨#[0xb1]⟩ 1 none).before a U = true) (hdd : 1 ≤ d) (hst : (st.map fun v => v.category).sum ≤ 8) (hd : decode cc pc = .ok (.invokespecial ix, 3)) (g : GW D A K c s (pc + 3) lv st ws) : GW D A K c s pc lv (.ref a :: st) ws := by
  intro H locs ls h1 h2 h3 h4
  obtain ⟨w1, w2, w3⟩ := hw (ka K) (ks K) hk.2.2.2.2.2.1.1
  have hR1 := hk.2.2.2.2.2.2.2.1
  have hR2 := hk.2.2.2.2.2.2.2.2.1
  exact W.objInit (g := F0 (km K) pc ls (.ref a :: st)) hk.1 hk.2.1 hk.2.2.2.2.1 w1 w2 w3 rfl (by show ls.size = _; rw [h4.1, hk.2.2.1, hk.2.2.2.1]) rfl hd (by omega) (by show 2 * 0 + _ + 12 ≤ _; omega) (g H locs ls h1 h2 h3 h4)
/-- what a constructor is proved to do: out of its own blank cell it makes the world wf -/
def MC1 (l : Launch) (y : MethodName) (b : ByteArray) (n d C S : Nat) (D : va_G) (ct : CT5) (ci : Nat) (fs : List Value) (wf : Nat → List Nat → va_W) : Prop :=
  ∀ (h sz : Nat), Met l y [.code y b n none] { frames := d, cells := C, slots := S, locals := 36 * d } (va_Pc [.ref h] (fun U => U.heap.size = sz ∧ CG D ct U ∧ va_P D vwCl [(h, .inr (ci, fs))] U.heap ∧ va_D (fun _ => True) [(h, .inr (ci, fs))])) (va_Qv (fun _ : List Nat => True) (fun u t => va_P D vwCl (wf h u) t.heap ∧ va_D (va_A [(h, .inr (ci, fs))] sz) (wf h u)) (va_A [(h, .inr (ci, fs))] sz)) C S (va_A [(h, .inr (ci, fs))] sz)
theorem join_push {A0 : Nat → Prop} {ws w1 : va_W} {q : Nat} {x : va_E} {H H1 : Heap} (hP : va_P D vwCl (ws ++ [(q, x)]) H) (hD : va_D A0 (ws ++ [(q, x)])) (hk : ∀ a : Nat, a < H.size → ¬ va_A [(q, x)] H.size a → H1[a]? = H[a]?) (hF : ∀ a, va_A [(q, x)] H.size a → A0 a) (hP1 : va_P D vwCl w1 H1) (hD1 : va_D (va_A [(q, x)] H.size) w1) : va_P D vwCl (ws ++ w1) H1 ∧ va_D A0 (ws ++ w1) := by
  have apart : ∀ (k : Nat) (p : Nat × va_E), ws[k]? = some p → p.1 < H.size ∧ ¬ va_A [(q, x)] H.size p.1 := by
    intro k p hkp
    have hl := (List.getElem?_eq_some_iff.mp hkp).1
    have h1 : (ws ++ [(q, x)])[k]? = some p := by rw [List.getElem?_append_left hl]; exact hkp
    have h2 : (ws ++ [(q, x)])[ws.length]? = some (q, x) := by rw [List.getElem?_append_right (Nat.le_refl _), Nat.sub_self]; rfl
    refine ⟨(hP k p h1).lt, fun hz => ?_⟩
    rcases hz with ⟨j, e, hj⟩ | hz
    · have hj0 : j = 0 := by
        have := (List.getElem?_eq_some_iff.mp hj).1
        have h3 : j < 1 := this
        omega
      subst hj0
      cases hj
      have := hD.1 k ws.length p (p.1, x) h1 h2 rfl
      omega
    · have := (hP k p h1).lt
      omega
  refine ⟨va_P.app (fun k p hkp => ?_) hP1, va_D.app ?_ (hD1.weaken (fun k p _ h => hF p.1 h)) (fun i j p p2 h1 h2 hpp => ?_)⟩
  · have hl := (List.getElem?_eq_some_iff.mp hkp).1
    have h1 : (ws ++ [(q, x)])[k]? = some p := by rw [List.getElem?_append_left hl]; exact hkp
    obtain ⟨g1, g2⟩ := apart k p hkp
    exact (hP k p h1).kept (hk p.1 g1 g2)
  · refine ⟨fun i j p p2 h1 h2 hpp => ?_, fun k p hkp => ?_⟩
    · exact hD.1 i j p p2 (by rw [List.getElem?_append_left (List.getElem?_eq_some_iff.mp h1).1]; exact h1) (by rw [List.getElem?_append_left (List.getElem?_eq_some_iff.mp h2).1]; exact h2) hpp
    · exact hD.2 k p (by rw [List.getElem?_append_left (List.getElem?_eq_some_iff.mp hkp).1]; exact hkp)
  · exact (apart i p h1).2 (by rw [hpp]; exact hD1.2 j p2 h2)
/-- new C; dup; invokespecial C.<init> -/
theorem w_make (hk : OkW D ct A K own cc n d C S) {CC : String} {T : u_T} {N ci ik im nL dc C2 S2 : Nat} {ty : Nat → FieldType} {fs : List Value} {y : MethodName} {b : ByteArray} {wf : Nat → List Nat → va_W} (hB : CB CC T N ci ty) (hM : MC1 (kl K) y b nL dc C2 S2 D ct ci fs wf)
    (hw : ∀ (a : Array Value) (U : State), Wd U → (Cond.classLink own ik CC).before a U = true ∧ (Cond.instantiable CC N).before a U = true ∧ (Cond.initialized CC).before a U = true)
    (hl : (∀ (a : Array Value) (U : State), Wd U → (Cond.methodLink own im y).before a U = true) ∨ ∃ host : String, ∀ (a : Array Value) (U : State), Wd U → (Cond.methodLinkNest own im y host).before a U = true)
    (hm : ∀ (a : Array Value) (U : State), Wd U → (Cond.instanceMethod y).before a U = true ∧ (Cond.initialized y.cls).before a U = true ∧ (Cond.code y b nL none).before a U = true) (hy : YF y 0) (hy1 : y.name = "<init>")
    (hfs : ∀ j, j < N → defaultValue (ty j) = vp_V fs j) (hdd : dc + 1 ≤ d) (hnL : nL ≤ 17) (hc : c + 1 + C2 ≤ C) (hs : s + N + S2 ≤ S) (hst : (st.map fun v => v.category).sum ≤ 7) (d0 : decode cc pc = .ok (.new ik, 3)) (d1 : decode cc (pc + 3) = .ok (.dup, 1)) (d2 : decode cc (pc + 4) = .ok (.invokespecial im, 3))
    (g : ∀ (q : Nat) (u : List Nat), GW D A K (c + 1 + C2) (s + N + S2) (pc + 7) lv (.ref q :: st) (ws ++ wf q u)) : GW D A K c s pc lv st ws := by
  intro H locs ls h1 h2 h3 h4
  obtain ⟨w1, w2, w3⟩ := hw (ka K) (ks K) hk.2.2.2.2.2.1.1
  obtain ⟨x1, x2, x3⟩ := hm (ka K) (ks K) hk.2.2.2.2.2.1.1
  have hR1 := hk.2.2.2.2.2.2.2.1
  have hR2 := hk.2.2.2.2.2.2.2.2.1
  have hR3 := hk.2.2.2.2.2.2.2.2.2.1
  have hR4 := hk.2.2.2.2.2.2.2.2.2.2.1
  refine va_new (fs := fs) hk.1 hk.2.1 (hB.1 _ _ hk.2.2.2.2.2.1.1) (fun _ h => h) ty hB.2.2.1 hk.2.2.2.2.1 w1 w2 w3 hk.2.2.2.2.2.1.2.1 h1 h2 h3 hk.2.2.2.2.2.2.2.2.2.2.2 hB.2.1 hfs (by omega) (by omega) d0 (fun q H1 e1 e2 e3 => ?_)
  refine lv_dup hk.1 hk.2.1 d1 rfl ?_
  have hPc : va_P D vwCl [(q, .inr (ci, fs))] H1 := e1.sub [ws.length] (by simp)
  have hDc : va_D (fun _ => True) [(q, .inr (ci, fs))] := ⟨fun i j p p2 g1 g2 _ => by
    have a1 := (List.getElem?_eq_some_iff.mp g1).1
    have a2 := (List.getElem?_eq_some_iff.mp g2).1
    have a3 : i < 1 := a1
    have a4 : j < 1 := a2
    omega, fun _ _ _ => trivial⟩
  have hFc : ∀ a, va_A [(q, .inr (ci, fs))] H1.size a → A a := by
    intro a ha
    rcases ha with ⟨k, e, hke⟩ | ha
    · have hk0 : k = 0 := by
        have a1 : k < 1 := (List.getElem?_eq_some_iff.mp hke).1
        omega
      subst hk0
      cases hke
      exact e2.2 ws.length (q, .inr (ci, fs)) (by rw [List.getElem?_append_right (Nat.le_refl _), Nat.sub_self]; rfl)
    · exact hk.2.2.2.2.2.2.2.2.2.2.2 a (Nat.le_trans e3.1 ha)
  have hpre : PreS (ks K) H1 (va_Pc [.ref q] (fun U => U.heap.size = H1.size ∧ CG D ct U ∧ va_P D vwCl [(q, .inr (ci, fs))] U.heap ∧ va_D (fun _ => True) [(q, .inr (ci, fs))])) (.ref q :: []) :=
    ⟨fun a U gg mk h => ⟨h.1, h.2.1, h.2.2.1.moved (s := U) (U := U.calling gg mk a) (State.WarmedH.refl U), h.2.2.2⟩, fun U hU hW => ⟨rfl, by rw [hU], hk.2.2.2.2.2.1.moved hW, by rw [hU]; exact hPc, hDc⟩⟩
  have hcode : ∀ w ∈ ([.code y b nL none] : List Cond), ∀ (a' : Array Value) (U : State), (ks K).WarmedH U.vm → w.before a' U = true := code_stays x3
  have hfix : CallFix (kp K) (km K) (kc K) cc n (ks K) (ka K) [] own := ⟨hk.1, hk.2.1, hk.2.2.1, hk.2.2.2.2.1, fun w h => nomatch h⟩
  have hlen : ∀ sig, parseMethodDescriptor y.desc = some sig → 0 = sig.parameters.length := fun sig h => by
    have h2 := hy.2
    rw [h] at h2
    exact (Option.some.inj h2).symm
  have hrun : va_Run (kp K) (kl K) (ke K) (kR K) (ks K) (km K) (ka K) (kb K) (kmt K) (kc K) H1 locs (c + 1) (s + N) C2 S2 (F0 (km K) (pc + 4) ls (.ref q :: .ref q :: st)) (.ref q :: st) (va_Qv (fun _ : List Nat => True) (fun u t => va_P D vwCl (wf q u) t.heap ∧ va_D (va_A [(q, .inr (ci, fs))] H1.size) (wf q u)) (va_A [(q, .inr (ci, fs))] H1.size) (Value.ref q :: []).toArray) (va_A [(q, .inr (ci, fs))] H1.size) := by
    rcases hl with hl | ⟨host, hl⟩
    · exact va_runI (As := []) hfix (hM q H1.size) ⟨⟨rfl, rfl, by show dc + 1 ≤ _; omega, by show 8 + (nL + 11) + 36 * dc ≤ _; omega, hcode, List.mem_cons_self, x3, x2, hy.1, hlen, hl _ _ hk.2.2.2.2.2.1.1⟩, hy1, x1⟩ hpre rfl rfl (by show ls.size = n; rw [h4.1, hk.2.2.2.1]) rfl (lv_room (show 1 + (st.map fun v => v.category).sum ≤ 8 by omega)) d2 ⟨by omega, by omega⟩
    · exact va_runIN (As := []) hfix (hM q H1.size) ⟨⟨⟨rfl, rfl, by show dc + 1 ≤ _; omega, by show 8 + (nL + 11) + 36 * dc ≤ _; omega, hcode, List.mem_cons_self⟩, x3, x2, hy.1, hlen, hl _ _ hk.2.2.2.2.2.1.1⟩, hy1, x1⟩ hpre rfl rfl (by show ls.size = n; rw [h4.1, hk.2.2.2.1]) rfl (lv_room (show 1 + (st.map fun v => v.category).sum ≤ 8 by omega)) d2 ⟨by omega, by omega⟩
  refine va_callv hrun e3 (fun a _ h => hFc a h) hFc (fun u t H2 locs1 ht hvm _ hB2 hz hk1 hS1 => ?_)
  obtain ⟨hP1, hD1⟩ := hB2
  rw [ht] at hP1
  obtain ⟨hP2, hD2⟩ := join_push e1 e2 hk1 hFc hP1 hD1
  exact g q u H2 locs1 ls hP2 hD2 hS1 h4
theorem startC {l : Launch} {y : MethodName} {b : ByteArray} {ci : Nat} {fs : List Value} {wf : Nat → List Nat → va_W} (hy : plainName y.cls = true) (ho : y.cls = own) (hy1 : y.name = "<init>") (hn : 1 ≤ n)
    (body : ∀ (h : Nat) (A : Nat → Prop) (K : MC), kl K = l → OkW D ct A K own b n d C S → (kmt K).name = "<init>" → (∀ pc lv u, decode b pc = .ok (.return_, 1) → GW D A K C S pc lv [] (wf h u)) → GW D A K 0 0 0 [(0, .ref h)] [] [(h, .inr (ci, fs))]) : MC1 l y b n d C S D ct ci fs wf := by
  subst ho
  intro h sz
  refine Met.ofW (cc := b) (maxL := n) (ret := none) hy rfl ?_
  intro p e s m args below meth c s₁ B hml hv
  obtain ⟨rfl, hsz, hG, hP, hD0⟩ := hv
  subst hsz
  have hD := hD0.self (sz := s.heap.size)
  have hnm : meth.name = "<init>" := by rw [(name_of_methodNamed B.named B.method).1]; exact hy1
  have hk : OkW D ct (va_A [(h, .inr (ci, fs))] s.heap.size) (p, l, e, (headSpec [Cond.code y b n none] { frames := d, cells := C, slots := S, locals := 36 * d }).room, s, m, ([.ref h] : List Value).toArray, below, meth, c, n, 0, 0, MQ below (va_Qv (fun _ : List Nat => True) (fun u t => va_P D vwCl (wf h u) t.heap ∧ va_D (va_A [(h, .inr (ci, fs))] s.heap.size) (wf h u)) (va_A [(h, .inr (ci, fs))] s.heap.size)) ([.ref h] : List Value).toArray s C S (va_A [(h, .inr (ci, fs))] s.heap.size)) y.cls b n d C S :=
    ⟨B.exec, B.bytes, hml, rfl, findClass_of_methodNamed B.named, hG, B.notSynchronized, Nat.le_refl _, Nat.le_refl _, Nat.le_refl _, Nat.le_refl _, fun q hq => Or.inr hq⟩
  have hb := body h _ _ rfl hk hnm (fun pc lv u hd H locs ls h1 h2 h3 h4 => W.vret B.exec B.bytes B.returns (fun t ht hW => ⟨⟨u, rfl, trivial, show va_P D vwCl (wf h u) t.heap by rw [ht]; exact h1, h2⟩, h3.F ht⟩) h3.2.2 hd B.notSynchronized)
  have h2 := hb s.heap [] _ hP hD va_S.rf (lv_entry [.ref h] (n := n) (by show 1 ≤ n; exact hn))
  rw [lg_entry_eq]
  exact h2
end GWROWS
def m1f : Nat → Int32 := (upd (upd (upd (upd (upd (upd (upd (upd (fun _ => 0) 0 (-1)) 1 (-1)) 2 (-1)) 3 (-1)) 4 (-1)) 5 (-1)) 6 (-1)) 7 (-1))
def wX2 (ct : CT5) (h : Nat) (l : List Nat) : va_W := [(h, .inr (2, [.ref (l.getD 0 0), .ref (l.getD 1 0), .ref (l.getD 2 0), .int 20, .int 5, .int 0, .int 0, .int 0, .int 0, .int 0])), (l.getD 0 0, .inl (ct.1, 8, .inl m1f)), (l.getD 1 0, .inl (ct.1, 8, .inl (fun _ => 0))), (l.getD 2 0, .inl (ct.2.1, 8, .inl (fun _ => 0)))]
def wX0 (ct : CT5) (h : Nat) (l : List Nat) : va_W := [(h, .inr (0, [.ref (l.getD 0 0), .ref (l.getD 1 0), .ref (l.getD 2 0), .int 0, .int 0, .int 0])), (l.getD 0 0, .inl (ct.1, 10, .inl (fun _ => 0))), (l.getD 1 0, .inl (ct.1, 10, .inl (fun _ => 0))), (l.getD 2 0, .inl (ct.1, 10, .inl (fun _ => 0)))]
def t3f (a b c : Nat) : Nat → Option Nat := va_up (va_up (va_up (fun _ => none) 0 (some a)) 1 (some b)) 2 (some c)
def wX1 (ct : CT5) (h : Nat) (l : List Nat) : va_W := [(h, .inr (1, [.ref (l.getD 0 0), .ref (l.getD 1 0), .ref (l.getD 2 0), .int 0])), (l.getD 0 0, .inl (ct.2.2.2.2, 3, .inr (.inr (.inr (.inr (t3f (l.getD 3 0) (l.getD 7 0) (l.getD 11 0))))))), (l.getD 1 0, .inl (ct.1, 120, .inl (fun _ => 0))), (l.getD 2 0, .inl (ct.1, 960, .inl (fun _ => 0)))] ++ wX2 ct (l.getD 3 0) [l.getD 4 0, l.getD 5 0, l.getD 6 0] ++ wX2 ct (l.getD 7 0) [l.getD 8 0, l.getD 9 0, l.getD 10 0] ++ wX2 ct (l.getD 11 0) [l.getD 12 0, l.getD 13 0, l.getD 14 0]
def s6f (a : Nat → Nat) : Nat → Option Nat := va_up (va_up (va_up (va_up (va_up (va_up (fun _ => none) 0 (some (a 0))) 1 (some (a 1))) 2 (some (a 2))) 3 (some (a 3))) 4 (some (a 4))) 5 (some (a 5))

def nowf : Nat → Int32 := (upd (upd (upd (upd (upd (upd (upd (upd (upd (upd (upd (upd (upd (upd (upd (upd (upd (upd (upd (upd (upd (upd (upd (upd (upd (upd (upd (upd (upd (upd (fun _ => 0) 1081 (-1)) 1082 (-1)) 1083 (-1)) 1084 (-1)) 1085 (-1)) 1086 (-1)) 1087 (-1)) 1088 (-1)) 1089 (-1)) 1090 (-1)) 1091 (-1)) 1092 (-1)) 1093 (-1)) 1094 (-1)) 1095 (-1)) 1096 (-1)) 1097 (-1)) 1098 (-1)) 1099 (-1)) 1100 (-1)) 1101 (-1)) 1102 (-1)) 1103 (-1)) 1104 (-1)) 1153 20) 1156 5) 1154 20) 1157 5) 1155 20) 1158 5)
/-- 15 addresses of a state, its own first, out of a list of 16 a state -/
def sl (l : List Nat) (i : Nat) : List Nat := (List.range 15).map (fun k => l.getD (16 * i + 1 + k) 0)
def wX3 (ct : CT5) (h : Nat) (l : List Nat) : va_W := [(h, .inr (3, [.ref (l.getD 0 0), .ref (l.getD 1 0), .ref (l.getD 2 0), .ref (l.getD 6 0), .ref (l.getD 7 0), .int 0, .int 0])), (l.getD 0 0, .inl (ct.2.2.2.1, 6, .inr (.inr (.inr (.inr (s6f (fun k => l.getD (23 + 16 * k) 0))))))), (l.getD 1 0, .inl (ct.1, 40, .inl (fun _ => 0)))] ++ wX0 ct (l.getD 2 0) [l.getD 3 0, l.getD 4 0, l.getD 5 0] ++ [(l.getD 6 0, .inl (ct.1, 120, .inl (fun _ => 0)))] ++ wX1 ct (l.getD 7 0) (sl (l.drop 7) 0) ++ wX1 ct (l.getD 23 0) (sl (l.drop 7) 1) ++ wX1 ct (l.getD 39 0) (sl (l.drop 7) 2) ++ wX1 ct (l.getD 55 0) (sl (l.drop 7) 3) ++ wX1 ct (l.getD 71 0) (sl (l.drop 7) 4) ++ wX1 ct (l.getD 87 0) (sl (l.drop 7) 5) ++ wX1 ct (l.getD 103 0) (sl (l.drop 7) 6)

theorem ob_X2 : ∀ (a : Array Value) (U : State), Wd U → (Cond.methodLink RX2 3 Lib.objectInit).before a U = true ∧ (Cond.instanceMethod Lib.objectInit).before a U = true ∧ (Cond.code Lib.objectInit ⟨#[0xb1]⟩ 1 none).before a U = true := fun a U h => ⟨h.use a 85 (by decide +kernel) (by decide +kernel), h.use a 40 (by decide +kernel) (by decide +kernel), h.use a 41 (by decide +kernel) (by decide +kernel)⟩
theorem ob_X0 : ∀ (a : Array Value) (U : State), Wd U → (Cond.methodLink RX0 3 Lib.objectInit).before a U = true ∧ (Cond.instanceMethod Lib.objectInit).before a U = true ∧ (Cond.code Lib.objectInit ⟨#[0xb1]⟩ 1 none).before a U = true := fun a U h => ⟨h.use a 49 (by decide +kernel) (by decide +kernel), h.use a 40 (by decide +kernel) (by decide +kernel), h.use a 41 (by decide +kernel) (by decide +kernel)⟩
theorem ob_X1 : ∀ (a : Array Value) (U : State), Wd U → (Cond.methodLink RX1 3 Lib.objectInit).before a U = true ∧ (Cond.instanceMethod Lib.objectInit).before a U = true ∧ (Cond.code Lib.objectInit ⟨#[0xb1]⟩ 1 none).before a U = true := fun a U h => ⟨h.use a 78 (by decide +kernel) (by decide +kernel), h.use a 40 (by decide +kernel) (by decide +kernel), h.use a 41 (by decide +kernel) (by decide +kernel)⟩
theorem kl_X1_9 : ∀ (a : Array Value) (U : State), Wd U → (Cond.classLink RX1 9 RX2).before a U = true := fun a U h => h.use a 79 (by decide +kernel) (by decide +kernel)
theorem mk_X1_9 : ∀ (a : Array Value) (U : State), Wd U → (Cond.classLink RX1 9 RX2).before a U = true ∧ (Cond.instantiable RX2 10).before a U = true ∧ (Cond.initialized RX2).before a U = true := fun a U h => ⟨h.use a 79 (by decide +kernel) (by decide +kernel), h.use a 81 (by decide +kernel) (by decide +kernel), h.use a 25 (by decide +kernel) (by decide +kernel)⟩
theorem ml_X1_24 : ∀ (a : Array Value) (U : State), Wd U → (Cond.methodLink RX1 24 yX2_init).before a U = true := fun a U h => h.use a 82 (by decide +kernel) (by decide +kernel)
theorem mi_X2 : ∀ (a : Array Value) (U : State), Wd U → (Cond.instanceMethod yX2_init).before a U = true ∧ (Cond.initialized yX2_init.cls).before a U = true ∧ (Cond.code yX2_init cX2_init 2 none).before a U = true := fun a U h => ⟨h.use a 83 (by decide +kernel) (by decide +kernel), h.use a 25 (by decide +kernel) (by decide +kernel), h.use a 84 (by decide +kernel) (by decide +kernel)⟩
theorem yi_X2 : YF yX2_init 0 := ⟨⟨by decide +kernel, by decide +kernel⟩, by decide +kernel⟩
theorem ob_X3 : ∀ (a : Array Value) (U : State), Wd U → (Cond.methodLink RX3 3 Lib.objectInit).before a U = true ∧ (Cond.instanceMethod Lib.objectInit).before a U = true ∧ (Cond.code Lib.objectInit ⟨#[0xb1]⟩ 1 none).before a U = true := fun a U h => ⟨h.use a 39 (by decide +kernel) (by decide +kernel), h.use a 40 (by decide +kernel) (by decide +kernel), h.use a 41 (by decide +kernel) (by decide +kernel)⟩
theorem kl_X3_9 : ∀ (a : Array Value) (U : State), Wd U → (Cond.classLink RX3 9 RX1).before a U = true := fun a U h => h.use a 42 (by decide +kernel) (by decide +kernel)
theorem mk_X3_19 : ∀ (a : Array Value) (U : State), Wd U → (Cond.classLink RX3 19 RX0).before a U = true ∧ (Cond.instantiable RX0 6).before a U = true ∧ (Cond.initialized RX0).before a U = true := fun a U h => ⟨h.use a 44 (by decide +kernel) (by decide +kernel), h.use a 45 (by decide +kernel) (by decide +kernel), h.use a 23 (by decide +kernel) (by decide +kernel)⟩
theorem ml_X3_21 : ∀ (a : Array Value) (U : State), Wd U → (Cond.methodLinkNest RX3 21 yX0_init "SharedColumns").before a U = true := fun a U h => h.use a 46 (by decide +kernel) (by decide +kernel)
theorem mi_X0 : ∀ (a : Array Value) (U : State), Wd U → (Cond.instanceMethod yX0_init).before a U = true ∧ (Cond.initialized yX0_init.cls).before a U = true ∧ (Cond.code yX0_init cX0_init 1 none).before a U = true := fun a U h => ⟨h.use a 47 (by decide +kernel) (by decide +kernel), h.use a 23 (by decide +kernel) (by decide +kernel), h.use a 48 (by decide +kernel) (by decide +kernel)⟩
theorem yi_X0 : YF yX0_init 0 := ⟨⟨by decide +kernel, by decide +kernel⟩, by decide +kernel⟩
theorem mk_X3_9 : ∀ (a : Array Value) (U : State), Wd U → (Cond.classLink RX3 9 RX1).before a U = true ∧ (Cond.instantiable RX1 4).before a U = true ∧ (Cond.initialized RX1).before a U = true := fun a U h => ⟨h.use a 42 (by decide +kernel) (by decide +kernel), h.use a 74 (by decide +kernel) (by decide +kernel), h.use a 24 (by decide +kernel) (by decide +kernel)⟩
theorem ml_X3_29 : ∀ (a : Array Value) (U : State), Wd U → (Cond.methodLink RX3 29 yX1_init).before a U = true := fun a U h => h.use a 75 (by decide +kernel) (by decide +kernel)
theorem mi_X1 : ∀ (a : Array Value) (U : State), Wd U → (Cond.instanceMethod yX1_init).before a U = true ∧ (Cond.initialized yX1_init.cls).before a U = true ∧ (Cond.code yX1_init cX1_init 2 none).before a U = true := fun a U h => ⟨h.use a 76 (by decide +kernel) (by decide +kernel), h.use a 24 (by decide +kernel) (by decide +kernel), h.use a 77 (by decide +kernel) (by decide +kernel)⟩
theorem yi_X1 : YF yX1_init 0 := ⟨⟨by decide +kernel, by decide +kernel⟩, by decide +kernel⟩
set_option maxHeartbeats 40000000 in
set_option maxRecDepth 100000 in
theorem kX2_init (l : Launch) (D : va_G) (ct : CT5) : MC1 l yX2_init cX2_init 2 1 3 24 D ct 2 [.null, .null, .null, .int 0, .int 0, .int 0, .int 0, .int 0, .int 0, .int 0] (wX2 ct) := by
  refine startC (own := RX2) (by decide +kernel) rfl rfl (by decide) (fun h A K hl hk hin hR => ?_)
  refine w_aload hk 0 (dtX2_init_0 0 (0, .aload_n 0, 1) rfl) rfl ?_
  refine w_obj hk ob_X2 (by decide) (Nat.le_of_ble_eq_true rfl) (dtX2_init_0 1 (1, .invokespecial 3, 3) rfl) ?_
  refine w_aload hk 0 (dtX2_init_0 2 (4, .aload_n 0, 1) rfl) rfl ?_
  refine w_bip hk 8 (dtX2_init_0 3 (5, .bipush 8, 2) rfl) (by decide) ?_
  refine w_newI hk 8 (dtX2_init_0 4 (7, .newarray .int, 2) rfl) (by decide) (by decide) (by decide) (Nat.le_of_ble_eq_true rfl) (Nat.le_of_ble_eq_true rfl) 73 (by decide +kernel) (fun q1 => ?_)
  refine w_putF hk hin (k := 0) 0 cbX2 (by decide) fl_X2_9 rfl rfl rfl rfl rfl (Nat.le_of_ble_eq_true rfl) ([(h, .inr (2, [.ref q1, .null, .null, .int 0, .int 0, .int 0, .int 0, .int 0, .int 0, .int 0])), (q1, .inl (ct.1, 8, .inl (fun _ => 0)))]) rfl (dtX2_init_0 5 (9, .putfield 9, 3) rfl) ?_
  refine w_aload hk 0 (dtX2_init_0 6 (12, .aload_n 0, 1) rfl) rfl ?_
  refine w_bip hk 8 (dtX2_init_0 7 (13, .bipush 8, 2) rfl) (by decide) ?_
  refine w_newI hk 8 (dtX2_init_0 8 (15, .newarray .int, 2) rfl) (by decide) (by decide) (by decide) (Nat.le_of_ble_eq_true rfl) (Nat.le_of_ble_eq_true rfl) 73 (by decide +kernel) (fun q2 => ?_)
  refine w_putF hk hin (k := 1) 0 cbX2 (by decide) fl_X2_15 rfl rfl rfl rfl rfl (Nat.le_of_ble_eq_true rfl) ([(h, .inr (2, [.ref q1, .ref q2, .null, .int 0, .int 0, .int 0, .int 0, .int 0, .int 0, .int 0])), (q1, .inl (ct.1, 8, .inl (fun _ => 0))), (q2, .inl (ct.1, 8, .inl (fun _ => 0)))]) rfl (dtX2_init_0 9 (17, .putfield 15, 3) rfl) ?_
  refine w_aload hk 0 (dtX2_init_0 10 (20, .aload_n 0, 1) rfl) rfl ?_
  refine w_bip hk 8 (dtX2_init_0 11 (21, .bipush 8, 2) rfl) (by decide) ?_
  refine w_newZ hk 8 (dtX2_init_0 12 (23, .newarray .boolean, 2) rfl) (by decide) (by decide) (by decide) (Nat.le_of_ble_eq_true rfl) (Nat.le_of_ble_eq_true rfl) 130 (by decide +kernel) (fun q3 => ?_)
  refine w_putF hk hin (k := 2) 0 cbX2 (by decide) fl_X2_18 rfl rfl rfl rfl rfl (Nat.le_of_ble_eq_true rfl) ([(h, .inr (2, [.ref q1, .ref q2, .ref q3, .int 0, .int 0, .int 0, .int 0, .int 0, .int 0, .int 0])), (q1, .inl (ct.1, 8, .inl (fun _ => 0))), (q2, .inl (ct.1, 8, .inl (fun _ => 0))), (q3, .inl (ct.2.1, 8, .inl (fun _ => 0)))]) rfl (dtX2_init_0 13 (25, .putfield 18, 3) rfl) ?_
  refine w_aload hk 0 (dtX2_init_0 14 (28, .aload_n 0, 1) rfl) rfl ?_
  refine w_bip hk 20 (dtX2_init_0 15 (29, .bipush 20, 2) rfl) (by decide) ?_
  refine w_put hk (k := 3) 0 cbX2 (by decide) fl_X2_22 rfl rfl rfl rfl (Nat.le_of_ble_eq_true rfl) ([(h, .inr (2, [.ref q1, .ref q2, .ref q3, .int 20, .int 0, .int 0, .int 0, .int 0, .int 0, .int 0])), (q1, .inl (ct.1, 8, .inl (fun _ => 0))), (q2, .inl (ct.1, 8, .inl (fun _ => 0))), (q3, .inl (ct.2.1, 8, .inl (fun _ => 0)))]) rfl (dtX2_init_0 16 (31, .putfield 22, 3) rfl) ?_
  refine w_aload hk 0 (dtX2_init_0 17 (34, .aload_n 0, 1) rfl) rfl ?_
  refine w_lit hk 5 (dtX2_init_0 18 (35, .iconst 5, 1) rfl) (by decide) ?_
  refine w_put hk (k := 4) 0 cbX2 (by decide) fl_X2_26 rfl rfl rfl rfl (Nat.le_of_ble_eq_true rfl) ([(h, .inr (2, [.ref q1, .ref q2, .ref q3, .int 20, .int 5, .int 0, .int 0, .int 0, .int 0, .int 0])), (q1, .inl (ct.1, 8, .inl (fun _ => 0))), (q2, .inl (ct.1, 8, .inl (fun _ => 0))), (q3, .inl (ct.2.1, 8, .inl (fun _ => 0)))]) rfl (dtX2_init_0 19 (36, .putfield 26, 3) rfl) ?_
  refine w_lit hk 0 (dtX2_init_0 20 (39, .iconst 0, 1) rfl) (by decide) ?_
  refine w_istore hk [(1, .int 0), (0, .ref h)] (dtX2_init_0 21 (40, .istore_n 1, 1) rfl) (by decide) rfl ?_
  refine w_iload hk 0 (dtX2_init_0 22 (41, .iload_n 1, 1) rfl) rfl ?_
  refine w_bip hk 8 (dtX2_init_0 23 (42, .bipush 8, 2) rfl) (by decide) ?_
  refine w_geF hk 60 (dtX2_init_0 24 (44, .if_icmp .ge 16, 3) rfl) (by decide) (by decide) ?_
  refine w_aload hk 1 (dtX2_init_0 25 (47, .aload_n 0, 1) rfl) rfl ?_
  refine w_get hk (k := 0) 0 cbX2 (by decide) fl_X2_9 rfl rfl (dtX2_init_0 26 (48, .getfield 9, 3) rfl) ?_
  refine w_iload hk 0 (dtX2_init_0 27 (51, .iload_n 1, 1) rfl) rfl ?_
  refine w_lit hk (-1) (dtX2_init_0 28 (52, .iconst (-1), 1) rfl) (by decide) ?_
  refine w_iast hk 1 rfl (by decide) rfl ([(h, .inr (2, [.ref q1, .ref q2, .ref q3, .int 20, .int 5, .int 0, .int 0, .int 0, .int 0, .int 0])), (q1, .inl (ct.1, 8, .inl (upd (fun _ => 0) 0 (-1)))), (q2, .inl (ct.1, 8, .inl (fun _ => 0))), (q3, .inl (ct.2.1, 8, .inl (fun _ => 0)))]) rfl (dtX2_init_0 29 (53, .iastore, 1) rfl) ?_
  refine w_iinc hk 1 0 [(1, .int 1), (0, .ref h)] (dtX2_init_0 30 (54, .iinc 1 1, 3) rfl) rfl (by decide) (by decide) rfl ?_
  refine w_goto hk 41 (dtX2_init_0 31 (57, .goto (-16), 3) rfl) (by decide) ?_
  refine w_iload hk 0 (dtX2_init_0 22 (41, .iload_n 1, 1) rfl) rfl ?_
  refine w_bip hk 8 (dtX2_init_0 23 (42, .bipush 8, 2) rfl) (by decide) ?_
  refine w_geF hk 60 (dtX2_init_0 24 (44, .if_icmp .ge 16, 3) rfl) (by decide) (by decide) ?_
  refine w_aload hk 1 (dtX2_init_0 25 (47, .aload_n 0, 1) rfl) rfl ?_
  refine w_get hk (k := 0) 0 cbX2 (by decide) fl_X2_9 rfl rfl (dtX2_init_0 26 (48, .getfield 9, 3) rfl) ?_
  refine w_iload hk 0 (dtX2_init_0 27 (51, .iload_n 1, 1) rfl) rfl ?_
  refine w_lit hk (-1) (dtX2_init_0 28 (52, .iconst (-1), 1) rfl) (by decide) ?_
  refine w_iast hk 1 rfl (by decide) rfl ([(h, .inr (2, [.ref q1, .ref q2, .ref q3, .int 20, .int 5, .int 0, .int 0, .int 0, .int 0, .int 0])), (q1, .inl (ct.1, 8, .inl (upd (upd (fun _ => 0) 0 (-1)) 1 (-1)))), (q2, .inl (ct.1, 8, .inl (fun _ => 0))), (q3, .inl (ct.2.1, 8, .inl (fun _ => 0)))]) rfl (dtX2_init_0 29 (53, .iastore, 1) rfl) ?_
  refine w_iinc hk 2 0 [(1, .int 2), (0, .ref h)] (dtX2_init_0 30 (54, .iinc 1 1, 3) rfl) rfl (by decide) (by decide) rfl ?_
  refine w_goto hk 41 (dtX2_init_0 31 (57, .goto (-16), 3) rfl) (by decide) ?_
  refine w_iload hk 0 (dtX2_init_0 22 (41, .iload_n 1, 1) rfl) rfl ?_
  refine w_bip hk 8 (dtX2_init_0 23 (42, .bipush 8, 2) rfl) (by decide) ?_
  refine w_geF hk 60 (dtX2_init_0 24 (44, .if_icmp .ge 16, 3) rfl) (by decide) (by decide) ?_
  refine w_aload hk 1 (dtX2_init_0 25 (47, .aload_n 0, 1) rfl) rfl ?_
  refine w_get hk (k := 0) 0 cbX2 (by decide) fl_X2_9 rfl rfl (dtX2_init_0 26 (48, .getfield 9, 3) rfl) ?_
  refine w_iload hk 0 (dtX2_init_0 27 (51, .iload_n 1, 1) rfl) rfl ?_
  refine w_lit hk (-1) (dtX2_init_0 28 (52, .iconst (-1), 1) rfl) (by decide) ?_
  refine w_iast hk 1 rfl (by decide) rfl ([(h, .inr (2, [.ref q1, .ref q2, .ref q3, .int 20, .int 5, .int 0, .int 0, .int 0, .int 0, .int 0])), (q1, .inl (ct.1, 8, .inl (upd (upd (upd (fun _ => 0) 0 (-1)) 1 (-1)) 2 (-1)))), (q2, .inl (ct.1, 8, .inl (fun _ => 0))), (q3, .inl (ct.2.1, 8, .inl (fun _ => 0)))]) rfl (dtX2_init_0 29 (53, .iastore, 1) rfl) ?_
  refine w_iinc hk 3 0 [(1, .int 3), (0, .ref h)] (dtX2_init_0 30 (54, .iinc 1 1, 3) rfl) rfl (by decide) (by decide) rfl ?_
  refine w_goto hk 41 (dtX2_init_0 31 (57, .goto (-16), 3) rfl) (by decide) ?_
  refine w_iload hk 0 (dtX2_init_0 22 (41, .iload_n 1, 1) rfl) rfl ?_
  refine w_bip hk 8 (dtX2_init_0 23 (42, .bipush 8, 2) rfl) (by decide) ?_
  refine w_geF hk 60 (dtX2_init_0 24 (44, .if_icmp .ge 16, 3) rfl) (by decide) (by decide) ?_
  refine w_aload hk 1 (dtX2_init_0 25 (47, .aload_n 0, 1) rfl) rfl ?_
  refine w_get hk (k := 0) 0 cbX2 (by decide) fl_X2_9 rfl rfl (dtX2_init_0 26 (48, .getfield 9, 3) rfl) ?_
  refine w_iload hk 0 (dtX2_init_0 27 (51, .iload_n 1, 1) rfl) rfl ?_
  refine w_lit hk (-1) (dtX2_init_0 28 (52, .iconst (-1), 1) rfl) (by decide) ?_
  refine w_iast hk 1 rfl (by decide) rfl ([(h, .inr (2, [.ref q1, .ref q2, .ref q3, .int 20, .int 5, .int 0, .int 0, .int 0, .int 0, .int 0])), (q1, .inl (ct.1, 8, .inl (upd (upd (upd (upd (fun _ => 0) 0 (-1)) 1 (-1)) 2 (-1)) 3 (-1)))), (q2, .inl (ct.1, 8, .inl (fun _ => 0))), (q3, .inl (ct.2.1, 8, .inl (fun _ => 0)))]) rfl (dtX2_init_0 29 (53, .iastore, 1) rfl) ?_
  refine w_iinc hk 4 0 [(1, .int 4), (0, .ref h)] (dtX2_init_0 30 (54, .iinc 1 1, 3) rfl) rfl (by decide) (by decide) rfl ?_
  refine w_goto hk 41 (dtX2_init_0 31 (57, .goto (-16), 3) rfl) (by decide) ?_
  refine w_iload hk 0 (dtX2_init_0 22 (41, .iload_n 1, 1) rfl) rfl ?_
  refine w_bip hk 8 (dtX2_init_0 23 (42, .bipush 8, 2) rfl) (by decide) ?_
  refine w_geF hk 60 (dtX2_init_0 24 (44, .if_icmp .ge 16, 3) rfl) (by decide) (by decide) ?_
  refine w_aload hk 1 (dtX2_init_0 25 (47, .aload_n 0, 1) rfl) rfl ?_
  refine w_get hk (k := 0) 0 cbX2 (by decide) fl_X2_9 rfl rfl (dtX2_init_0 26 (48, .getfield 9, 3) rfl) ?_
  refine w_iload hk 0 (dtX2_init_0 27 (51, .iload_n 1, 1) rfl) rfl ?_
  refine w_lit hk (-1) (dtX2_init_0 28 (52, .iconst (-1), 1) rfl) (by decide) ?_
  refine w_iast hk 1 rfl (by decide) rfl ([(h, .inr (2, [.ref q1, .ref q2, .ref q3, .int 20, .int 5, .int 0, .int 0, .int 0, .int 0, .int 0])), (q1, .inl (ct.1, 8, .inl (upd (upd (upd (upd (upd (fun _ => 0) 0 (-1)) 1 (-1)) 2 (-1)) 3 (-1)) 4 (-1)))), (q2, .inl (ct.1, 8, .inl (fun _ => 0))), (q3, .inl (ct.2.1, 8, .inl (fun _ => 0)))]) rfl (dtX2_init_0 29 (53, .iastore, 1) rfl) ?_
  refine w_iinc hk 5 0 [(1, .int 5), (0, .ref h)] (dtX2_init_0 30 (54, .iinc 1 1, 3) rfl) rfl (by decide) (by decide) rfl ?_
  refine w_goto hk 41 (dtX2_init_0 31 (57, .goto (-16), 3) rfl) (by decide) ?_
  refine w_iload hk 0 (dtX2_init_0 22 (41, .iload_n 1, 1) rfl) rfl ?_
  refine w_bip hk 8 (dtX2_init_0 23 (42, .bipush 8, 2) rfl) (by decide) ?_
  refine w_geF hk 60 (dtX2_init_0 24 (44, .if_icmp .ge 16, 3) rfl) (by decide) (by decide) ?_
  refine w_aload hk 1 (dtX2_init_0 25 (47, .aload_n 0, 1) rfl) rfl ?_
  refine w_get hk (k := 0) 0 cbX2 (by decide) fl_X2_9 rfl rfl (dtX2_init_0 26 (48, .getfield 9, 3) rfl) ?_
  refine w_iload hk 0 (dtX2_init_0 27 (51, .iload_n 1, 1) rfl) rfl ?_
  refine w_lit hk (-1) (dtX2_init_0 28 (52, .iconst (-1), 1) rfl) (by decide) ?_
  refine w_iast hk 1 rfl (by decide) rfl ([(h, .inr (2, [.ref q1, .ref q2, .ref q3, .int 20, .int 5, .int 0, .int 0, .int 0, .int 0, .int 0])), (q1, .inl (ct.1, 8, .inl (upd (upd (upd (upd (upd (upd (fun _ => 0) 0 (-1)) 1 (-1)) 2 (-1)) 3 (-1)) 4 (-1)) 5 (-1)))), (q2, .inl (ct.1, 8, .inl (fun _ => 0))), (q3, .inl (ct.2.1, 8, .inl (fun _ => 0)))]) rfl (dtX2_init_0 29 (53, .iastore, 1) rfl) ?_
  refine w_iinc hk 6 0 [(1, .int 6), (0, .ref h)] (dtX2_init_0 30 (54, .iinc 1 1, 3) rfl) rfl (by decide) (by decide) rfl ?_
  refine w_goto hk 41 (dtX2_init_0 31 (57, .goto (-16), 3) rfl) (by decide) ?_
  refine w_iload hk 0 (dtX2_init_0 22 (41, .iload_n 1, 1) rfl) rfl ?_
  refine w_bip hk 8 (dtX2_init_0 23 (42, .bipush 8, 2) rfl) (by decide) ?_
  refine w_geF hk 60 (dtX2_init_0 24 (44, .if_icmp .ge 16, 3) rfl) (by decide) (by decide) ?_
  refine w_aload hk 1 (dtX2_init_0 25 (47, .aload_n 0, 1) rfl) rfl ?_
  refine w_get hk (k := 0) 0 cbX2 (by decide) fl_X2_9 rfl rfl (dtX2_init_0 26 (48, .getfield 9, 3) rfl) ?_
  refine w_iload hk 0 (dtX2_init_0 27 (51, .iload_n 1, 1) rfl) rfl ?_
  refine w_lit hk (-1) (dtX2_init_0 28 (52, .iconst (-1), 1) rfl) (by decide) ?_
  refine w_iast hk 1 rfl (by decide) rfl ([(h, .inr (2, [.ref q1, .ref q2, .ref q3, .int 20, .int 5, .int 0, .int 0, .int 0, .int 0, .int 0])), (q1, .inl (ct.1, 8, .inl (upd (upd (upd (upd (upd (upd (upd (fun _ => 0) 0 (-1)) 1 (-1)) 2 (-1)) 3 (-1)) 4 (-1)) 5 (-1)) 6 (-1)))), (q2, .inl (ct.1, 8, .inl (fun _ => 0))), (q3, .inl (ct.2.1, 8, .inl (fun _ => 0)))]) rfl (dtX2_init_0 29 (53, .iastore, 1) rfl) ?_
  refine w_iinc hk 7 0 [(1, .int 7), (0, .ref h)] (dtX2_init_0 30 (54, .iinc 1 1, 3) rfl) rfl (by decide) (by decide) rfl ?_
  refine w_goto hk 41 (dtX2_init_0 31 (57, .goto (-16), 3) rfl) (by decide) ?_
  refine w_iload hk 0 (dtX2_init_0 22 (41, .iload_n 1, 1) rfl) rfl ?_
  refine w_bip hk 8 (dtX2_init_0 23 (42, .bipush 8, 2) rfl) (by decide) ?_
  refine w_geF hk 60 (dtX2_init_0 24 (44, .if_icmp .ge 16, 3) rfl) (by decide) (by decide) ?_
  refine w_aload hk 1 (dtX2_init_0 25 (47, .aload_n 0, 1) rfl) rfl ?_
  refine w_get hk (k := 0) 0 cbX2 (by decide) fl_X2_9 rfl rfl (dtX2_init_0 26 (48, .getfield 9, 3) rfl) ?_
  refine w_iload hk 0 (dtX2_init_0 27 (51, .iload_n 1, 1) rfl) rfl ?_
  refine w_lit hk (-1) (dtX2_init_0 28 (52, .iconst (-1), 1) rfl) (by decide) ?_
  refine w_iast hk 1 rfl (by decide) rfl ([(h, .inr (2, [.ref q1, .ref q2, .ref q3, .int 20, .int 5, .int 0, .int 0, .int 0, .int 0, .int 0])), (q1, .inl (ct.1, 8, .inl (upd (upd (upd (upd (upd (upd (upd (upd (fun _ => 0) 0 (-1)) 1 (-1)) 2 (-1)) 3 (-1)) 4 (-1)) 5 (-1)) 6 (-1)) 7 (-1)))), (q2, .inl (ct.1, 8, .inl (fun _ => 0))), (q3, .inl (ct.2.1, 8, .inl (fun _ => 0)))]) rfl (dtX2_init_0 29 (53, .iastore, 1) rfl) ?_
  refine w_iinc hk 8 0 [(1, .int 8), (0, .ref h)] (dtX2_init_0 30 (54, .iinc 1 1, 3) rfl) rfl (by decide) (by decide) rfl ?_
  refine w_goto hk 41 (dtX2_init_0 31 (57, .goto (-16), 3) rfl) (by decide) ?_
  refine w_iload hk 0 (dtX2_init_0 22 (41, .iload_n 1, 1) rfl) rfl ?_
  refine w_bip hk 8 (dtX2_init_0 23 (42, .bipush 8, 2) rfl) (by decide) ?_
  refine w_geT hk 60 (dtX2_init_0 24 (44, .if_icmp .ge 16, 3) rfl) (by decide) (by decide) ?_
  exact hR _ _ [q1, q2, q3] (dtX2_init_0 32 (60, .return_, 1) rfl)
set_option maxHeartbeats 40000000 in
set_option maxRecDepth 100000 in
theorem kX0_init (l : Launch) (D : va_G) (ct : CT5) : MC1 l yX0_init cX0_init 1 1 3 30 D ct 0 [.null, .null, .null, .int 0, .int 0, .int 0] (wX0 ct) := by
  refine startC (own := RX0) (by decide +kernel) rfl rfl (by decide) (fun h A K hl hk hin hR => ?_)
  refine w_aload hk 0 (dtX0_init_0 0 (0, .aload_n 0, 1) rfl) rfl ?_
  refine w_obj hk ob_X0 (by decide) (Nat.le_of_ble_eq_true rfl) (dtX0_init_0 1 (1, .invokespecial 3, 3) rfl) ?_
  refine w_aload hk 0 (dtX0_init_0 2 (4, .aload_n 0, 1) rfl) rfl ?_
  refine w_bip hk 10 (dtX0_init_0 3 (5, .bipush 10, 2) rfl) (by decide) ?_
  refine w_newI hk 10 (dtX0_init_0 4 (7, .newarray .int, 2) rfl) (by decide) (by decide) (by decide) (Nat.le_of_ble_eq_true rfl) (Nat.le_of_ble_eq_true rfl) 73 (by decide +kernel) (fun q1 => ?_)
  refine w_putF hk hin (k := 0) 0 cbX0 (by decide) fl_X0_9 rfl rfl rfl rfl rfl (Nat.le_of_ble_eq_true rfl) ([(h, .inr (0, [.ref q1, .null, .null, .int 0, .int 0, .int 0])), (q1, .inl (ct.1, 10, .inl (fun _ => 0)))]) rfl (dtX0_init_0 5 (9, .putfield 9, 3) rfl) ?_
  refine w_aload hk 0 (dtX0_init_0 6 (12, .aload_n 0, 1) rfl) rfl ?_
  refine w_bip hk 10 (dtX0_init_0 7 (13, .bipush 10, 2) rfl) (by decide) ?_
  refine w_newI hk 10 (dtX0_init_0 8 (15, .newarray .int, 2) rfl) (by decide) (by decide) (by decide) (Nat.le_of_ble_eq_true rfl) (Nat.le_of_ble_eq_true rfl) 73 (by decide +kernel) (fun q2 => ?_)
  refine w_putF hk hin (k := 1) 0 cbX0 (by decide) fl_X0_15 rfl rfl rfl rfl rfl (Nat.le_of_ble_eq_true rfl) ([(h, .inr (0, [.ref q1, .ref q2, .null, .int 0, .int 0, .int 0])), (q1, .inl (ct.1, 10, .inl (fun _ => 0))), (q2, .inl (ct.1, 10, .inl (fun _ => 0)))]) rfl (dtX0_init_0 9 (17, .putfield 15, 3) rfl) ?_
  refine w_aload hk 0 (dtX0_init_0 10 (20, .aload_n 0, 1) rfl) rfl ?_
  refine w_bip hk 10 (dtX0_init_0 11 (21, .bipush 10, 2) rfl) (by decide) ?_
  refine w_newI hk 10 (dtX0_init_0 12 (23, .newarray .int, 2) rfl) (by decide) (by decide) (by decide) (Nat.le_of_ble_eq_true rfl) (Nat.le_of_ble_eq_true rfl) 73 (by decide +kernel) (fun q3 => ?_)
  refine w_putF hk hin (k := 2) 0 cbX0 (by decide) fl_X0_18 rfl rfl rfl rfl rfl (Nat.le_of_ble_eq_true rfl) ([(h, .inr (0, [.ref q1, .ref q2, .ref q3, .int 0, .int 0, .int 0])), (q1, .inl (ct.1, 10, .inl (fun _ => 0))), (q2, .inl (ct.1, 10, .inl (fun _ => 0))), (q3, .inl (ct.1, 10, .inl (fun _ => 0)))]) rfl (dtX0_init_0 13 (25, .putfield 18, 3) rfl) ?_
  exact hR _ _ [q1, q2, q3] (dtX0_init_0 14 (28, .return_, 1) rfl)
set_option maxHeartbeats 40000000 in
set_option maxRecDepth 100000 in
theorem kX1_init (l : Launch) (D : va_G) (ct : CT5) : MC1 l yX1_init cX1_init 2 2 15 1185 D ct 1 [.null, .null, .null, .int 0] (wX1 ct) := by
  refine startC (own := RX1) (by decide +kernel) rfl rfl (by decide) (fun h A K hl hk hin hR => ?_)
  refine w_aload hk 0 (dtX1_init_0 0 (0, .aload_n 0, 1) rfl) rfl ?_
  refine w_obj hk ob_X1 (by decide) (Nat.le_of_ble_eq_true rfl) (dtX1_init_0 1 (1, .invokespecial 3, 3) rfl) ?_
  refine w_aload hk 0 (dtX1_init_0 2 (4, .aload_n 0, 1) rfl) rfl ?_
  refine w_lit hk 3 (dtX1_init_0 3 (5, .iconst 3, 1) rfl) (by decide) ?_
  refine w_newT hk 3 (dtX1_init_0 4 (6, .anewarray 9, 3) rfl) (by decide) (by decide) (by decide) (Nat.le_of_ble_eq_true rfl) (Nat.le_of_ble_eq_true rfl) kl_X1_9 (fun q1 => ?_)
  refine w_putF hk hin (k := 0) 0 cbX1 (by decide) fl_X1_11 rfl rfl rfl rfl rfl (Nat.le_of_ble_eq_true rfl) ([(h, .inr (1, [.ref q1, .null, .null, .int 0])), (q1, .inl (ct.2.2.2.2, 3, .inr (.inr (.inr (.inr (fun _ => none))))))]) rfl (dtX1_init_0 5 (9, .putfield 11, 3) rfl) ?_
  refine w_aload hk 0 (dtX1_init_0 6 (12, .aload_n 0, 1) rfl) rfl ?_
  refine w_bip hk 120 (dtX1_init_0 7 (13, .bipush 120, 2) rfl) (by decide) ?_
  refine w_newI hk 120 (dtX1_init_0 8 (15, .newarray .int, 2) rfl) (by decide) (by decide) (by decide) (Nat.le_of_ble_eq_true rfl) (Nat.le_of_ble_eq_true rfl) 73 (by decide +kernel) (fun q2 => ?_)
  refine w_putF hk hin (k := 1) 0 cbX1 (by decide) fl_X1_17 rfl rfl rfl rfl rfl (Nat.le_of_ble_eq_true rfl) ([(h, .inr (1, [.ref q1, .ref q2, .null, .int 0])), (q1, .inl (ct.2.2.2.2, 3, .inr (.inr (.inr (.inr (fun _ => none)))))), (q2, .inl (ct.1, 120, .inl (fun _ => 0)))]) rfl (dtX1_init_0 9 (17, .putfield 17, 3) rfl) ?_
  refine w_aload hk 0 (dtX1_init_0 10 (20, .aload_n 0, 1) rfl) rfl ?_
  refine w_sip hk 960 (dtX1_init_0 11 (21, .sipush 960, 3) rfl) (by decide) ?_
  refine w_newI hk 960 (dtX1_init_0 12 (24, .newarray .int, 2) rfl) (by decide) (by decide) (by decide) (Nat.le_of_ble_eq_true rfl) (Nat.le_of_ble_eq_true rfl) 73 (by decide +kernel) (fun q3 => ?_)
  refine w_putF hk hin (k := 2) 0 cbX1 (by decide) fl_X1_21 rfl rfl rfl rfl rfl (Nat.le_of_ble_eq_true rfl) ([(h, .inr (1, [.ref q1, .ref q2, .ref q3, .int 0])), (q1, .inl (ct.2.2.2.2, 3, .inr (.inr (.inr (.inr (fun _ => none)))))), (q2, .inl (ct.1, 120, .inl (fun _ => 0))), (q3, .inl (ct.1, 960, .inl (fun _ => 0)))]) rfl (dtX1_init_0 13 (26, .putfield 21, 3) rfl) ?_
  refine w_lit hk 0 (dtX1_init_0 14 (29, .iconst 0, 1) rfl) (by decide) ?_
  refine w_istore hk [(1, .int 0), (0, .ref h)] (dtX1_init_0 15 (30, .istore_n 1, 1) rfl) (by decide) rfl ?_
  refine w_iload hk 0 (dtX1_init_0 16 (31, .iload_n 1, 1) rfl) rfl ?_
  refine w_lit hk 3 (dtX1_init_0 17 (32, .iconst 3, 1) rfl) (by decide) ?_
  refine w_geF hk 55 (dtX1_init_0 18 (33, .if_icmp .ge 22, 3) rfl) (by decide) (by decide) ?_
  refine w_aload hk 1 (dtX1_init_0 19 (36, .aload_n 0, 1) rfl) rfl ?_
  refine w_get hk (k := 0) 0 cbX1 (by decide) fl_X1_11 rfl rfl (dtX1_init_0 20 (37, .getfield 11, 3) rfl) ?_
  refine w_iload hk 0 (dtX1_init_0 21 (40, .iload_n 1, 1) rfl) rfl ?_
  refine w_make (fs := [.null, .null, .null, .int 0, .int 0, .int 0, .int 0, .int 0, .int 0, .int 0]) hk cbX2 (kX2_init (kl K) D ct) mk_X1_9 (Or.inl ml_X1_24) mi_X2 yi_X2 rfl (fun j hj => by rcases (show j = 0 ∨ j = 1 ∨ j = 2 ∨ j = 3 ∨ j = 4 ∨ j = 5 ∨ j = 6 ∨ j = 7 ∨ j = 8 ∨ j = 9 by omega) with rfl | rfl | rfl | rfl | rfl | rfl | rfl | rfl | rfl | rfl <;> rfl) (by decide) (by decide) (Nat.le_of_ble_eq_true rfl) (Nat.le_of_ble_eq_true rfl) (Nat.le_of_ble_eq_true rfl) (dtX1_init_0 22 (41, .new 9, 3) rfl) (dtX1_init_0 23 (44, .dup, 1) rfl) (dtX1_init_0 24 (45, .invokespecial 24, 3) rfl) (fun q4 u4 => ?_)
  refine w_aast (j := 4) (r := (RX2, TX2, 10)) hk 1 4 rfl rfl rfl rfl (by decide) ([(h, .inr (1, [.ref q1, .ref q2, .ref q3, .int 0])), (q1, .inl (ct.2.2.2.2, 3, .inr (.inr (.inr (.inr (va_up (fun _ => none) 0 (some q4))))))), (q2, .inl (ct.1, 120, .inl (fun _ => 0))), (q3, .inl (ct.1, 960, .inl (fun _ => 0)))] ++ wX2 ct q4 u4) rfl (dtX1_init_0 25 (48, .aastore, 1) rfl) ?_
  refine w_iinc hk 1 0 [(1, .int 1), (0, .ref h)] (dtX1_init_0 26 (49, .iinc 1 1, 3) rfl) rfl (by decide) (by decide) rfl ?_
  refine w_goto hk 31 (dtX1_init_0 27 (52, .goto (-21), 3) rfl) (by decide) ?_
  refine w_iload hk 0 (dtX1_init_0 16 (31, .iload_n 1, 1) rfl) rfl ?_
  refine w_lit hk 3 (dtX1_init_0 17 (32, .iconst 3, 1) rfl) (by decide) ?_
  refine w_geF hk 55 (dtX1_init_0 18 (33, .if_icmp .ge 22, 3) rfl) (by decide) (by decide) ?_
  refine w_aload hk 1 (dtX1_init_0 19 (36, .aload_n 0, 1) rfl) rfl ?_
  refine w_get hk (k := 0) 0 cbX1 (by decide) fl_X1_11 rfl rfl (dtX1_init_0 20 (37, .getfield 11, 3) rfl) ?_
  refine w_iload hk 0 (dtX1_init_0 21 (40, .iload_n 1, 1) rfl) rfl ?_
  refine w_make (fs := [.null, .null, .null, .int 0, .int 0, .int 0, .int 0, .int 0, .int 0, .int 0]) hk cbX2 (kX2_init (kl K) D ct) mk_X1_9 (Or.inl ml_X1_24) mi_X2 yi_X2 rfl (fun j hj => by rcases (show j = 0 ∨ j = 1 ∨ j = 2 ∨ j = 3 ∨ j = 4 ∨ j = 5 ∨ j = 6 ∨ j = 7 ∨ j = 8 ∨ j = 9 by omega) with rfl | rfl | rfl | rfl | rfl | rfl | rfl | rfl | rfl | rfl <;> rfl) (by decide) (by decide) (Nat.le_of_ble_eq_true rfl) (Nat.le_of_ble_eq_true rfl) (Nat.le_of_ble_eq_true rfl) (dtX1_init_0 22 (41, .new 9, 3) rfl) (dtX1_init_0 23 (44, .dup, 1) rfl) (dtX1_init_0 24 (45, .invokespecial 24, 3) rfl) (fun q5 u5 => ?_)
  refine w_aast (j := 4) (r := (RX2, TX2, 10)) hk 1 8 rfl rfl rfl rfl (by decide) ([(h, .inr (1, [.ref q1, .ref q2, .ref q3, .int 0])), (q1, .inl (ct.2.2.2.2, 3, .inr (.inr (.inr (.inr (va_up (va_up (fun _ => none) 0 (some q4)) 1 (some q5))))))), (q2, .inl (ct.1, 120, .inl (fun _ => 0))), (q3, .inl (ct.1, 960, .inl (fun _ => 0)))] ++ wX2 ct q4 u4 ++ wX2 ct q5 u5) rfl (dtX1_init_0 25 (48, .aastore, 1) rfl) ?_
  refine w_iinc hk 2 0 [(1, .int 2), (0, .ref h)] (dtX1_init_0 26 (49, .iinc 1 1, 3) rfl) rfl (by decide) (by decide) rfl ?_
  refine w_goto hk 31 (dtX1_init_0 27 (52, .goto (-21), 3) rfl) (by decide) ?_
  refine w_iload hk 0 (dtX1_init_0 16 (31, .iload_n 1, 1) rfl) rfl ?_
  refine w_lit hk 3 (dtX1_init_0 17 (32, .iconst 3, 1) rfl) (by decide) ?_
  refine w_geF hk 55 (dtX1_init_0 18 (33, .if_icmp .ge 22, 3) rfl) (by decide) (by decide) ?_
  refine w_aload hk 1 (dtX1_init_0 19 (36, .aload_n 0, 1) rfl) rfl ?_
  refine w_get hk (k := 0) 0 cbX1 (by decide) fl_X1_11 rfl rfl (dtX1_init_0 20 (37, .getfield 11, 3) rfl) ?_
  refine w_iload hk 0 (dtX1_init_0 21 (40, .iload_n 1, 1) rfl) rfl ?_
  refine w_make (fs := [.null, .null, .null, .int 0, .int 0, .int 0, .int 0, .int 0, .int 0, .int 0]) hk cbX2 (kX2_init (kl K) D ct) mk_X1_9 (Or.inl ml_X1_24) mi_X2 yi_X2 rfl (fun j hj => by rcases (show j = 0 ∨ j = 1 ∨ j = 2 ∨ j = 3 ∨ j = 4 ∨ j = 5 ∨ j = 6 ∨ j = 7 ∨ j = 8 ∨ j = 9 by omega) with rfl | rfl | rfl | rfl | rfl | rfl | rfl | rfl | rfl | rfl <;> rfl) (by decide) (by decide) (Nat.le_of_ble_eq_true rfl) (Nat.le_of_ble_eq_true rfl) (Nat.le_of_ble_eq_true rfl) (dtX1_init_0 22 (41, .new 9, 3) rfl) (dtX1_init_0 23 (44, .dup, 1) rfl) (dtX1_init_0 24 (45, .invokespecial 24, 3) rfl) (fun q6 u6 => ?_)
  refine w_aast (j := 4) (r := (RX2, TX2, 10)) hk 1 12 rfl rfl rfl rfl (by decide) ([(h, .inr (1, [.ref q1, .ref q2, .ref q3, .int 0])), (q1, .inl (ct.2.2.2.2, 3, .inr (.inr (.inr (.inr (va_up (va_up (va_up (fun _ => none) 0 (some q4)) 1 (some q5)) 2 (some q6))))))), (q2, .inl (ct.1, 120, .inl (fun _ => 0))), (q3, .inl (ct.1, 960, .inl (fun _ => 0)))] ++ wX2 ct q4 u4 ++ wX2 ct q5 u5 ++ wX2 ct q6 u6) rfl (dtX1_init_0 25 (48, .aastore, 1) rfl) ?_
  refine w_iinc hk 3 0 [(1, .int 3), (0, .ref h)] (dtX1_init_0 26 (49, .iinc 1 1, 3) rfl) rfl (by decide) (by decide) rfl ?_
  refine w_goto hk 31 (dtX1_init_0 27 (52, .goto (-21), 3) rfl) (by decide) ?_
  refine w_iload hk 0 (dtX1_init_0 16 (31, .iload_n 1, 1) rfl) rfl ?_
  refine w_lit hk 3 (dtX1_init_0 17 (32, .iconst 3, 1) rfl) (by decide) ?_
  refine w_geT hk 55 (dtX1_init_0 18 (33, .if_icmp .ge 22, 3) rfl) (by decide) (by decide) ?_
  exact hR _ _ [q1, q2, q3, q4, u4.getD 0 0, u4.getD 1 0, u4.getD 2 0, q5, u5.getD 0 0, u5.getD 1 0, u5.getD 2 0, q6, u6.getD 0 0, u6.getD 1 0, u6.getD 2 0] (dtX1_init_0 28 (55, .return_, 1) rfl)
set_option maxHeartbeats 40000000 in
set_option maxRecDepth 100000 in
theorem kX3_init (l : Launch) (D : va_G) (ct : CT5) : MC1 l yX3_init cX3_init 2 3 119 8525 D ct 3 [.null, .null, .null, .null, .null, .int 0, .int 0] (wX3 ct) := by
  refine startC (own := RX3) (by decide +kernel) rfl rfl (by decide) (fun h A K hl hk hin hR => ?_)
  refine w_aload hk 0 (dtX3_init_0 0 (0, .aload_n 0, 1) rfl) rfl ?_
  refine w_obj hk ob_X3 (by decide) (Nat.le_of_ble_eq_true rfl) (dtX3_init_0 1 (1, .invokespecial 3, 3) rfl) ?_
  refine w_aload hk 0 (dtX3_init_0 2 (4, .aload_n 0, 1) rfl) rfl ?_
  refine w_bip hk 6 (dtX3_init_0 3 (5, .bipush 6, 2) rfl) (by decide) ?_
  refine w_newS hk 6 (dtX3_init_0 4 (7, .anewarray 9, 3) rfl) (by decide) (by decide) (by decide) (Nat.le_of_ble_eq_true rfl) (Nat.le_of_ble_eq_true rfl) kl_X3_9 (fun q1 => ?_)
  refine w_putF hk hin (k := 0) 0 cbX3 (by decide) fl_X3_11 rfl rfl rfl rfl rfl (Nat.le_of_ble_eq_true rfl) ([(h, .inr (3, [.ref q1, .null, .null, .null, .null, .int 0, .int 0])), (q1, .inl (ct.2.2.2.1, 6, .inr (.inr (.inr (.inr (fun _ => none))))))]) rfl (dtX3_init_0 5 (10, .putfield 11, 3) rfl) ?_
  refine w_aload hk 0 (dtX3_init_0 6 (13, .aload_n 0, 1) rfl) rfl ?_
  refine w_bip hk 40 (dtX3_init_0 7 (14, .bipush 40, 2) rfl) (by decide) ?_
  refine w_newI hk 40 (dtX3_init_0 8 (16, .newarray .int, 2) rfl) (by decide) (by decide) (by decide) (Nat.le_of_ble_eq_true rfl) (Nat.le_of_ble_eq_true rfl) 73 (by decide +kernel) (fun q2 => ?_)
  refine w_putF hk hin (k := 1) 0 cbX3 (by decide) fl_X3_15 rfl rfl rfl rfl rfl (Nat.le_of_ble_eq_true rfl) ([(h, .inr (3, [.ref q1, .ref q2, .null, .null, .null, .int 0, .int 0])), (q1, .inl (ct.2.2.2.1, 6, .inr (.inr (.inr (.inr (fun _ => none)))))), (q2, .inl (ct.1, 40, .inl (fun _ => 0)))]) rfl (dtX3_init_0 9 (18, .putfield 15, 3) rfl) ?_
  refine w_aload hk 0 (dtX3_init_0 10 (21, .aload_n 0, 1) rfl) rfl ?_
  refine w_make (fs := [.null, .null, .null, .int 0, .int 0, .int 0]) hk cbX0 (kX0_init (kl K) D ct) mk_X3_19 (Or.inr ⟨_, ml_X3_21⟩) mi_X0 yi_X0 rfl (fun j hj => by rcases (show j = 0 ∨ j = 1 ∨ j = 2 ∨ j = 3 ∨ j = 4 ∨ j = 5 by omega) with rfl | rfl | rfl | rfl | rfl | rfl <;> rfl) (by decide) (by decide) (Nat.le_of_ble_eq_true rfl) (Nat.le_of_ble_eq_true rfl) (Nat.le_of_ble_eq_true rfl) (dtX3_init_0 11 (22, .new 19, 3) rfl) (dtX3_init_0 12 (25, .dup, 1) rfl) (dtX3_init_0 13 (26, .invokespecial 21, 3) rfl) (fun q3 u3 => ?_)
  refine w_putF hk hin (k := 2) 0 cbX3 (by decide) fl_X3_22 rfl rfl rfl rfl rfl (Nat.le_of_ble_eq_true rfl) ([(h, .inr (3, [.ref q1, .ref q2, .ref q3, .null, .null, .int 0, .int 0])), (q1, .inl (ct.2.2.2.1, 6, .inr (.inr (.inr (.inr (fun _ => none)))))), (q2, .inl (ct.1, 40, .inl (fun _ => 0)))] ++ wX0 ct q3 u3) rfl (dtX3_init_0 14 (29, .putfield 22, 3) rfl) ?_
  refine w_aload hk 0 (dtX3_init_0 15 (32, .aload_n 0, 1) rfl) rfl ?_
  refine w_bip hk 120 (dtX3_init_0 16 (33, .bipush 120, 2) rfl) (by decide) ?_
  refine w_newI hk 120 (dtX3_init_0 17 (35, .newarray .int, 2) rfl) (by decide) (by decide) (by decide) (Nat.le_of_ble_eq_true rfl) (Nat.le_of_ble_eq_true rfl) 73 (by decide +kernel) (fun q4 => ?_)
  refine w_putF hk hin (k := 3) 0 cbX3 (by decide) fl_X3_26 rfl rfl rfl rfl rfl (Nat.le_of_ble_eq_true rfl) ([(h, .inr (3, [.ref q1, .ref q2, .ref q3, .ref q4, .null, .int 0, .int 0])), (q1, .inl (ct.2.2.2.1, 6, .inr (.inr (.inr (.inr (fun _ => none)))))), (q2, .inl (ct.1, 40, .inl (fun _ => 0)))] ++ wX0 ct q3 u3 ++ [(q4, .inl (ct.1, 120, .inl (fun _ => 0)))]) rfl (dtX3_init_0 18 (37, .putfield 26, 3) rfl) ?_
  refine w_aload hk 0 (dtX3_init_0 19 (40, .aload_n 0, 1) rfl) rfl ?_
  refine w_make (fs := [.null, .null, .null, .int 0]) hk cbX1 (kX1_init (kl K) D ct) mk_X3_9 (Or.inl ml_X3_29) mi_X1 yi_X1 rfl (fun j hj => by rcases (show j = 0 ∨ j = 1 ∨ j = 2 ∨ j = 3 by omega) with rfl | rfl | rfl | rfl <;> rfl) (by decide) (by decide) (Nat.le_of_ble_eq_true rfl) (Nat.le_of_ble_eq_true rfl) (Nat.le_of_ble_eq_true rfl) (dtX3_init_0 20 (41, .new 9, 3) rfl) (dtX3_init_0 21 (44, .dup, 1) rfl) (dtX3_init_0 22 (45, .invokespecial 29, 3) rfl) (fun q5 u5 => ?_)
  refine w_put hk (k := 4) 0 cbX3 (by decide) fl_X3_30 rfl rfl rfl rfl (Nat.le_of_ble_eq_true rfl) ([(h, .inr (3, [.ref q1, .ref q2, .ref q3, .ref q4, .ref q5, .int 0, .int 0])), (q1, .inl (ct.2.2.2.1, 6, .inr (.inr (.inr (.inr (fun _ => none)))))), (q2, .inl (ct.1, 40, .inl (fun _ => 0)))] ++ wX0 ct q3 u3 ++ [(q4, .inl (ct.1, 120, .inl (fun _ => 0)))] ++ wX1 ct q5 u5) rfl (dtX3_init_0 23 (48, .putfield 30, 3) rfl) ?_
  refine w_lit hk 0 (dtX3_init_0 24 (51, .iconst 0, 1) rfl) (by decide) ?_
  refine w_istore hk [(1, .int 0), (0, .ref h)] (dtX3_init_0 25 (52, .istore_n 1, 1) rfl) (by decide) rfl ?_
  refine w_iload hk 0 (dtX3_init_0 26 (53, .iload_n 1, 1) rfl) rfl ?_
  refine w_bip hk 6 (dtX3_init_0 27 (54, .bipush 6, 2) rfl) (by decide) ?_
  refine w_geF hk 78 (dtX3_init_0 28 (56, .if_icmp .ge 22, 3) rfl) (by decide) (by decide) ?_
  refine w_aload hk 1 (dtX3_init_0 29 (59, .aload_n 0, 1) rfl) rfl ?_
  refine w_get hk (k := 0) 0 cbX3 (by decide) fl_X3_11 rfl rfl (dtX3_init_0 30 (60, .getfield 11, 3) rfl) ?_
  refine w_iload hk 0 (dtX3_init_0 31 (63, .iload_n 1, 1) rfl) rfl ?_
  refine w_make (fs := [.null, .null, .null, .int 0]) hk cbX1 (kX1_init (kl K) D ct) mk_X3_9 (Or.inl ml_X3_29) mi_X1 yi_X1 rfl (fun j hj => by rcases (show j = 0 ∨ j = 1 ∨ j = 2 ∨ j = 3 by omega) with rfl | rfl | rfl | rfl <;> rfl) (by decide) (by decide) (Nat.le_of_ble_eq_true rfl) (Nat.le_of_ble_eq_true rfl) (Nat.le_of_ble_eq_true rfl) (dtX3_init_0 32 (64, .new 9, 3) rfl) (dtX3_init_0 33 (67, .dup, 1) rfl) (dtX3_init_0 34 (68, .invokespecial 29, 3) rfl) (fun q6 u6 => ?_)
  refine w_aast (j := 3) (r := (RX1, TX1, 4)) hk 1 24 rfl rfl rfl rfl (by decide) ([(h, .inr (3, [.ref q1, .ref q2, .ref q3, .ref q4, .ref q5, .int 0, .int 0])), (q1, .inl (ct.2.2.2.1, 6, .inr (.inr (.inr (.inr (va_up (fun _ => none) 0 (some q6))))))), (q2, .inl (ct.1, 40, .inl (fun _ => 0)))] ++ wX0 ct q3 u3 ++ [(q4, .inl (ct.1, 120, .inl (fun _ => 0)))] ++ wX1 ct q5 u5 ++ wX1 ct q6 u6) rfl (dtX3_init_0 35 (71, .aastore, 1) rfl) ?_
  refine w_iinc hk 1 0 [(1, .int 1), (0, .ref h)] (dtX3_init_0 36 (72, .iinc 1 1, 3) rfl) rfl (by decide) (by decide) rfl ?_
  refine w_goto hk 53 (dtX3_init_0 37 (75, .goto (-22), 3) rfl) (by decide) ?_
  refine w_iload hk 0 (dtX3_init_0 26 (53, .iload_n 1, 1) rfl) rfl ?_
  refine w_bip hk 6 (dtX3_init_0 27 (54, .bipush 6, 2) rfl) (by decide) ?_
  refine w_geF hk 78 (dtX3_init_0 28 (56, .if_icmp .ge 22, 3) rfl) (by decide) (by decide) ?_
  refine w_aload hk 1 (dtX3_init_0 29 (59, .aload_n 0, 1) rfl) rfl ?_
  refine w_get hk (k := 0) 0 cbX3 (by decide) fl_X3_11 rfl rfl (dtX3_init_0 30 (60, .getfield 11, 3) rfl) ?_
  refine w_iload hk 0 (dtX3_init_0 31 (63, .iload_n 1, 1) rfl) rfl ?_
  refine w_make (fs := [.null, .null, .null, .int 0]) hk cbX1 (kX1_init (kl K) D ct) mk_X3_9 (Or.inl ml_X3_29) mi_X1 yi_X1 rfl (fun j hj => by rcases (show j = 0 ∨ j = 1 ∨ j = 2 ∨ j = 3 by omega) with rfl | rfl | rfl | rfl <;> rfl) (by decide) (by decide) (Nat.le_of_ble_eq_true rfl) (Nat.le_of_ble_eq_true rfl) (Nat.le_of_ble_eq_true rfl) (dtX3_init_0 32 (64, .new 9, 3) rfl) (dtX3_init_0 33 (67, .dup, 1) rfl) (dtX3_init_0 34 (68, .invokespecial 29, 3) rfl) (fun q7 u7 => ?_)
  refine w_aast (j := 3) (r := (RX1, TX1, 4)) hk 1 40 rfl rfl rfl rfl (by decide) ([(h, .inr (3, [.ref q1, .ref q2, .ref q3, .ref q4, .ref q5, .int 0, .int 0])), (q1, .inl (ct.2.2.2.1, 6, .inr (.inr (.inr (.inr (va_up (va_up (fun _ => none) 0 (some q6)) 1 (some q7))))))), (q2, .inl (ct.1, 40, .inl (fun _ => 0)))] ++ wX0 ct q3 u3 ++ [(q4, .inl (ct.1, 120, .inl (fun _ => 0)))] ++ wX1 ct q5 u5 ++ wX1 ct q6 u6 ++ wX1 ct q7 u7) rfl (dtX3_init_0 35 (71, .aastore, 1) rfl) ?_
  refine w_iinc hk 2 0 [(1, .int 2), (0, .ref h)] (dtX3_init_0 36 (72, .iinc 1 1, 3) rfl) rfl (by decide) (by decide) rfl ?_
  refine w_goto hk 53 (dtX3_init_0 37 (75, .goto (-22), 3) rfl) (by decide) ?_
  refine w_iload hk 0 (dtX3_init_0 26 (53, .iload_n 1, 1) rfl) rfl ?_
  refine w_bip hk 6 (dtX3_init_0 27 (54, .bipush 6, 2) rfl) (by decide) ?_
  refine w_geF hk 78 (dtX3_init_0 28 (56, .if_icmp .ge 22, 3) rfl) (by decide) (by decide) ?_
  refine w_aload hk 1 (dtX3_init_0 29 (59, .aload_n 0, 1) rfl) rfl ?_
  refine w_get hk (k := 0) 0 cbX3 (by decide) fl_X3_11 rfl rfl (dtX3_init_0 30 (60, .getfield 11, 3) rfl) ?_
  refine w_iload hk 0 (dtX3_init_0 31 (63, .iload_n 1, 1) rfl) rfl ?_
  refine w_make (fs := [.null, .null, .null, .int 0]) hk cbX1 (kX1_init (kl K) D ct) mk_X3_9 (Or.inl ml_X3_29) mi_X1 yi_X1 rfl (fun j hj => by rcases (show j = 0 ∨ j = 1 ∨ j = 2 ∨ j = 3 by omega) with rfl | rfl | rfl | rfl <;> rfl) (by decide) (by decide) (Nat.le_of_ble_eq_true rfl) (Nat.le_of_ble_eq_true rfl) (Nat.le_of_ble_eq_true rfl) (dtX3_init_0 32 (64, .new 9, 3) rfl) (dtX3_init_0 33 (67, .dup, 1) rfl) (dtX3_init_0 34 (68, .invokespecial 29, 3) rfl) (fun q8 u8 => ?_)
  refine w_aast (j := 3) (r := (RX1, TX1, 4)) hk 1 56 rfl rfl rfl rfl (by decide) ([(h, .inr (3, [.ref q1, .ref q2, .ref q3, .ref q4, .ref q5, .int 0, .int 0])), (q1, .inl (ct.2.2.2.1, 6, .inr (.inr (.inr (.inr (va_up (va_up (va_up (fun _ => none) 0 (some q6)) 1 (some q7)) 2 (some q8))))))), (q2, .inl (ct.1, 40, .inl (fun _ => 0)))] ++ wX0 ct q3 u3 ++ [(q4, .inl (ct.1, 120, .inl (fun _ => 0)))] ++ wX1 ct q5 u5 ++ wX1 ct q6 u6 ++ wX1 ct q7 u7 ++ wX1 ct q8 u8) rfl (dtX3_init_0 35 (71, .aastore, 1) rfl) ?_
  refine w_iinc hk 3 0 [(1, .int 3), (0, .ref h)] (dtX3_init_0 36 (72, .iinc 1 1, 3) rfl) rfl (by decide) (by decide) rfl ?_
  refine w_goto hk 53 (dtX3_init_0 37 (75, .goto (-22), 3) rfl) (by decide) ?_
  refine w_iload hk 0 (dtX3_init_0 26 (53, .iload_n 1, 1) rfl) rfl ?_
  refine w_bip hk 6 (dtX3_init_0 27 (54, .bipush 6, 2) rfl) (by decide) ?_
  refine w_geF hk 78 (dtX3_init_0 28 (56, .if_icmp .ge 22, 3) rfl) (by decide) (by decide) ?_
  refine w_aload hk 1 (dtX3_init_0 29 (59, .aload_n 0, 1) rfl) rfl ?_
  refine w_get hk (k := 0) 0 cbX3 (by decide) fl_X3_11 rfl rfl (dtX3_init_0 30 (60, .getfield 11, 3) rfl) ?_
  refine w_iload hk 0 (dtX3_init_0 31 (63, .iload_n 1, 1) rfl) rfl ?_
  refine w_make (fs := [.null, .null, .null, .int 0]) hk cbX1 (kX1_init (kl K) D ct) mk_X3_9 (Or.inl ml_X3_29) mi_X1 yi_X1 rfl (fun j hj => by rcases (show j = 0 ∨ j = 1 ∨ j = 2 ∨ j = 3 by omega) with rfl | rfl | rfl | rfl <;> rfl) (by decide) (by decide) (Nat.le_of_ble_eq_true rfl) (Nat.le_of_ble_eq_true rfl) (Nat.le_of_ble_eq_true rfl) (dtX3_init_0 32 (64, .new 9, 3) rfl) (dtX3_init_0 33 (67, .dup, 1) rfl) (dtX3_init_0 34 (68, .invokespecial 29, 3) rfl) (fun q9 u9 => ?_)
  refine w_aast (j := 3) (r := (RX1, TX1, 4)) hk 1 72 rfl rfl rfl rfl (by decide) ([(h, .inr (3, [.ref q1, .ref q2, .ref q3, .ref q4, .ref q5, .int 0, .int 0])), (q1, .inl (ct.2.2.2.1, 6, .inr (.inr (.inr (.inr (va_up (va_up (va_up (va_up (fun _ => none) 0 (some q6)) 1 (some q7)) 2 (some q8)) 3 (some q9))))))), (q2, .inl (ct.1, 40, .inl (fun _ => 0)))] ++ wX0 ct q3 u3 ++ [(q4, .inl (ct.1, 120, .inl (fun _ => 0)))] ++ wX1 ct q5 u5 ++ wX1 ct q6 u6 ++ wX1 ct q7 u7 ++ wX1 ct q8 u8 ++ wX1 ct q9 u9) rfl (dtX3_init_0 35 (71, .aastore, 1) rfl) ?_
  refine w_iinc hk 4 0 [(1, .int 4), (0, .ref h)] (dtX3_init_0 36 (72, .iinc 1 1, 3) rfl) rfl (by decide) (by decide) rfl ?_
  refine w_goto hk 53 (dtX3_init_0 37 (75, .goto (-22), 3) rfl) (by decide) ?_
  refine w_iload hk 0 (dtX3_init_0 26 (53, .iload_n 1, 1) rfl) rfl ?_
  refine w_bip hk 6 (dtX3_init_0 27 (54, .bipush 6, 2) rfl) (by decide) ?_
  refine w_geF hk 78 (dtX3_init_0 28 (56, .if_icmp .ge 22, 3) rfl) (by decide) (by decide) ?_
  refine w_aload hk 1 (dtX3_init_0 29 (59, .aload_n 0, 1) rfl) rfl ?_
  refine w_get hk (k := 0) 0 cbX3 (by decide) fl_X3_11 rfl rfl (dtX3_init_0 30 (60, .getfield 11, 3) rfl) ?_
  refine w_iload hk 0 (dtX3_init_0 31 (63, .iload_n 1, 1) rfl) rfl ?_
  refine w_make (fs := [.null, .null, .null, .int 0]) hk cbX1 (kX1_init (kl K) D ct) mk_X3_9 (Or.inl ml_X3_29) mi_X1 yi_X1 rfl (fun j hj => by rcases (show j = 0 ∨ j = 1 ∨ j = 2 ∨ j = 3 by omega) with rfl | rfl | rfl | rfl <;> rfl) (by decide) (by decide) (Nat.le_of_ble_eq_true rfl) (Nat.le_of_ble_eq_true rfl) (Nat.le_of_ble_eq_true rfl) (dtX3_init_0 32 (64, .new 9, 3) rfl) (dtX3_init_0 33 (67, .dup, 1) rfl) (dtX3_init_0 34 (68, .invokespecial 29, 3) rfl) (fun q10 u10 => ?_)
  refine w_aast (j := 3) (r := (RX1, TX1, 4)) hk 1 88 rfl rfl rfl rfl (by decide) ([(h, .inr (3, [.ref q1, .ref q2, .ref q3, .ref q4, .ref q5, .int 0, .int 0])), (q1, .inl (ct.2.2.2.1, 6, .inr (.inr (.inr (.inr (va_up (va_up (va_up (va_up (va_up (fun _ => none) 0 (some q6)) 1 (some q7)) 2 (some q8)) 3 (some q9)) 4 (some q10))))))), (q2, .inl (ct.1, 40, .inl (fun _ => 0)))] ++ wX0 ct q3 u3 ++ [(q4, .inl (ct.1, 120, .inl (fun _ => 0)))] ++ wX1 ct q5 u5 ++ wX1 ct q6 u6 ++ wX1 ct q7 u7 ++ wX1 ct q8 u8 ++ wX1 ct q9 u9 ++ wX1 ct q10 u10) rfl (dtX3_init_0 35 (71, .aastore, 1) rfl) ?_
  refine w_iinc hk 5 0 [(1, .int 5), (0, .ref h)] (dtX3_init_0 36 (72, .iinc 1 1, 3) rfl) rfl (by decide) (by decide) rfl ?_
  refine w_goto hk 53 (dtX3_init_0 37 (75, .goto (-22), 3) rfl) (by decide) ?_
  refine w_iload hk 0 (dtX3_init_0 26 (53, .iload_n 1, 1) rfl) rfl ?_
  refine w_bip hk 6 (dtX3_init_0 27 (54, .bipush 6, 2) rfl) (by decide) ?_
  refine w_geF hk 78 (dtX3_init_0 28 (56, .if_icmp .ge 22, 3) rfl) (by decide) (by decide) ?_
  refine w_aload hk 1 (dtX3_init_0 29 (59, .aload_n 0, 1) rfl) rfl ?_
  refine w_get hk (k := 0) 0 cbX3 (by decide) fl_X3_11 rfl rfl (dtX3_init_0 30 (60, .getfield 11, 3) rfl) ?_
  refine w_iload hk 0 (dtX3_init_0 31 (63, .iload_n 1, 1) rfl) rfl ?_
  refine w_make (fs := [.null, .null, .null, .int 0]) hk cbX1 (kX1_init (kl K) D ct) mk_X3_9 (Or.inl ml_X3_29) mi_X1 yi_X1 rfl (fun j hj => by rcases (show j = 0 ∨ j = 1 ∨ j = 2 ∨ j = 3 by omega) with rfl | rfl | rfl | rfl <;> rfl) (by decide) (by decide) (Nat.le_of_ble_eq_true rfl) (Nat.le_of_ble_eq_true rfl) (Nat.le_of_ble_eq_true rfl) (dtX3_init_0 32 (64, .new 9, 3) rfl) (dtX3_init_0 33 (67, .dup, 1) rfl) (dtX3_init_0 34 (68, .invokespecial 29, 3) rfl) (fun q11 u11 => ?_)
  refine w_aast (j := 3) (r := (RX1, TX1, 4)) hk 1 104 rfl rfl rfl rfl (by decide) ([(h, .inr (3, [.ref q1, .ref q2, .ref q3, .ref q4, .ref q5, .int 0, .int 0])), (q1, .inl (ct.2.2.2.1, 6, .inr (.inr (.inr (.inr (va_up (va_up (va_up (va_up (va_up (va_up (fun _ => none) 0 (some q6)) 1 (some q7)) 2 (some q8)) 3 (some q9)) 4 (some q10)) 5 (some q11))))))), (q2, .inl (ct.1, 40, .inl (fun _ => 0)))] ++ wX0 ct q3 u3 ++ [(q4, .inl (ct.1, 120, .inl (fun _ => 0)))] ++ wX1 ct q5 u5 ++ wX1 ct q6 u6 ++ wX1 ct q7 u7 ++ wX1 ct q8 u8 ++ wX1 ct q9 u9 ++ wX1 ct q10 u10 ++ wX1 ct q11 u11) rfl (dtX3_init_0 35 (71, .aastore, 1) rfl) ?_
  refine w_iinc hk 6 0 [(1, .int 6), (0, .ref h)] (dtX3_init_0 36 (72, .iinc 1 1, 3) rfl) rfl (by decide) (by decide) rfl ?_
  refine w_goto hk 53 (dtX3_init_0 37 (75, .goto (-22), 3) rfl) (by decide) ?_
  refine w_iload hk 0 (dtX3_init_0 26 (53, .iload_n 1, 1) rfl) rfl ?_
  refine w_bip hk 6 (dtX3_init_0 27 (54, .bipush 6, 2) rfl) (by decide) ?_
  refine w_geT hk 78 (dtX3_init_0 28 (56, .if_icmp .ge 22, 3) rfl) (by decide) (by decide) ?_
  exact hR _ _ [q1, q2, q3, u3.getD 0 0, u3.getD 1 0, u3.getD 2 0, q4, q5, u5.getD 0 0, u5.getD 1 0, u5.getD 2 0, u5.getD 3 0, u5.getD 4 0, u5.getD 5 0, u5.getD 6 0, u5.getD 7 0, u5.getD 8 0, u5.getD 9 0, u5.getD 10 0, u5.getD 11 0, u5.getD 12 0, u5.getD 13 0, u5.getD 14 0, q6, u6.getD 0 0, u6.getD 1 0, u6.getD 2 0, u6.getD 3 0, u6.getD 4 0, u6.getD 5 0, u6.getD 6 0, u6.getD 7 0, u6.getD 8 0, u6.getD 9 0, u6.getD 10 0, u6.getD 11 0, u6.getD 12 0, u6.getD 13 0, u6.getD 14 0, q7, u7.getD 0 0, u7.getD 1 0, u7.getD 2 0, u7.getD 3 0, u7.getD 4 0, u7.getD 5 0, u7.getD 6 0, u7.getD 7 0, u7.getD 8 0, u7.getD 9 0, u7.getD 10 0, u7.getD 11 0, u7.getD 12 0, u7.getD 13 0, u7.getD 14 0, q8, u8.getD 0 0, u8.getD 1 0, u8.getD 2 0, u8.getD 3 0, u8.getD 4 0, u8.getD 5 0, u8.getD 6 0, u8.getD 7 0, u8.getD 8 0, u8.getD 9 0, u8.getD 10 0, u8.getD 11 0, u8.getD 12 0, u8.getD 13 0, u8.getD 14 0, q9, u9.getD 0 0, u9.getD 1 0, u9.getD 2 0, u9.getD 3 0, u9.getD 4 0, u9.getD 5 0, u9.getD 6 0, u9.getD 7 0, u9.getD 8 0, u9.getD 9 0, u9.getD 10 0, u9.getD 11 0, u9.getD 12 0, u9.getD 13 0, u9.getD 14 0, q10, u10.getD 0 0, u10.getD 1 0, u10.getD 2 0, u10.getD 3 0, u10.getD 4 0, u10.getD 5 0, u10.getD 6 0, u10.getD 7 0, u10.getD 8 0, u10.getD 9 0, u10.getD 10 0, u10.getD 11 0, u10.getD 12 0, u10.getD 13 0, u10.getD 14 0, q11, u11.getD 0 0, u11.getD 1 0, u11.getD 2 0, u11.getD 3 0, u11.getD 4 0, u11.getD 5 0, u11.getD 6 0, u11.getD 7 0, u11.getD 8 0, u11.getD 9 0, u11.getD 10 0, u11.getD 11 0, u11.getD 12 0, u11.getD 13 0, u11.getD 14 0] (dtX3_init_0 38 (78, .return_, 1) rfl)
