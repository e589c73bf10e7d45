/-! THE CLAIM OUT OF ONE WALK OF THE LAW'S BODY. Your part is whole_start (and what it stands on); all else here is the same for every law, but numbers. -/
def R_law : String := "SharedColumnsLaw"
def lw_P (b : Addr) (xs : List Int32) (args : Array Value) (s : State) : Prop := args = #[.ref b] ∧ s.IntsAt b xs ∧ xs.length ≤ 260 ∧ (Jvm.Cond.and given_1 narrow_1).before args s = true
/-- what a walk over the start with the record d0 says of its end, said of the start itself -/
theorem lw_closed {s t : State} {o : Outcome} {d0 : Drawn} {L : List Loc} {k n : Nat} (hd0 : s.drawn.sameBut d0 lw_cs) (hv : ∃ v, o = .returned v) (hW : (s.setDrawn d0).WarmedH t.vm) (hs : (s.setDrawn d0).sameButNew ({ t with vm := s.vm } : State) L k n) : State.butDraws s t lw_cs (fun t1 => Framed s o t1 L k n) := by
  have h2 : t.drawn = d0 := congrArg State.drawn hs.1
  refine ⟨⟨hv, hW, State.sameButNew.setDrawn hs s.drawn⟩, ?_, by decide⟩
  rw [h2]
  exact hd0
def lw_Q (_ : Array Value) (s : State) (o : Outcome) (t : State) : Prop := o = .returned (some (.int 1)) ∧ State.butDraws s t lw_cs (fun t1 => Framed s o t1 [] 600130 7301080)
def lw_Z (below : List Frame) (a : Array Value) (s : State) : State → Prop := fun t => ∃ o, t.status = .running ∧ Ended t below o ∧ lw_Q a s o t
/-- the law's own end, with 1 on the stack, nothing written that was there before, its room as the claim has it; d0: the record of draws at this point (at the entry s.drawn: begin with 'refine W.base ?_' and 'have hd0 := Drawn.sameBut.refl s.drawn lw_cs') -/
theorem lw_ret {p : Program} {l : Launch} {e : Env} {s : State} {m : MethodId} {below : List Frame} {meth : Method} {c : Code} {b : Nat} {d0 : Drawn} (hd0 : s.drawn.sameBut d0 lw_cs) (hx : p.tables.exec = Jvm.exec) (hb : c.code = code) (hr : meth.sig.returnType = ret) (hlocks : meth.locks = false) {pc : Nat} {H : Heap} {ls : Array Slot} (hdg : decode code pc = .ok (.ireturn, 1)) : W p l e room_1 (s.setDrawn d0) m #[Value.ref b] below meth c H [] 600130 7301080 (lw_Z below #[Value.ref b] s) (F0 m pc ls [.int 1]) := by
  intro T hT X
  obtain ⟨fs, hret, hrun, hended, hW, hframe⟩ := X.leave (v := some (.int 1)) (hlocks := hlocks) (fun h => by rw [hr] at h; cases h)
  have hmeth' : T.vm.method? m = some meth := X.method'
  refine ⟨T.setFrames fs, ?_, .returned (some (.int 1)), hrun, hended, rfl, lw_closed hd0 ⟨_, rfl⟩ hW hframe⟩
  jvm_step X.here [X.here.top, hx, hb, hdg, hmeth', hr, ret, narrow_b1]
  (try refine ⟨rfl, ?_⟩); (try refine ⟨rfl, ?_⟩)
  first | (intro acts; rw [hret _ acts rfl rfl rfl]) | rw [hret _ _ rfl rfl rfl]
  exact Steps.refl _
/-- what holds at the law's entry: the machine, the code, the tables' words (any of lw_tbl by 'hts w (by decide +kernel)'), the script of L ints xs at the cell b, what the Statement gives of the start (any of its parts by flat_of_before) -/
def lw_At (p : Program) (s : State) (m : MethodId) (meth : Method) (c : Code) (b L : Nat) (xs : Nat → Int32) : Prop :=
  p.tables.exec = Jvm.exec ∧ c.code = code ∧ meth.sig.returnType = ret ∧ c.maxLocals = 12 ∧ s.vm.findClass R_law = some m.cls ∧ (∀ w ∈ lw_tbl, w.before #[Value.ref b] s = true) ∧ va_X b L xs s s.heap ∧ b < s.heap.size ∧ meth.locks = false ∧ (Jvm.Cond.and given_1 narrow_1).before #[Value.ref b] s = true

/-! from the entry of the law to its loop -/
theorem arr_class {s : State} {args : Array Value} {ty : FieldType} (hr : ∀ cA : ClassId, s.vm.findClass ("[" ++ ty.toString) = some cA → va_RA s cA ty) (h : (Cond.arrayClass ty).before args s = true) : ∃ cA : ClassId, ArrOfT s cA ty ∧ va_RA s cA ty := by
  obtain ⟨cA, k, comp, h1, h2, h3⟩ := Cond.arrayClass_spec h
  exact ⟨cA, fun n z => ⟨fun k h => (by cases h), k, h2, comp, h3⟩, hr cA h1⟩
theorem arr_over {s : State} {args : Array Value} {C : String} (h : (Cond.arrayOver (.object C)).before args s = true) : ∃ cA : ClassId, ArrOfT s cA (.object C) ∧ va_RA s cA (.object C) := by
  obtain ⟨comp, cA, k, h1, h2, h3, h4, h5⟩ := Cond.arrayOver_spec h
  exact ⟨cA, fun n z => ⟨fun k h => (by cases h), k, h3, comp, h4⟩, k, comp, h3, h4, h1, h5⟩
-- the world that is made, by labels
def adf (q1 : Nat) (u1 : List Nat) : Lb → Nat := fun lb => match lb with
  | (0, _, _, 0) => q1
  | (0, _, _, 1) => u1.getD 0 0
  | (0, _, _, 2) => u1.getD 1 0
  | (0, _, _, 3) => u1.getD 2 0
  | (0, _, _, 4) => u1.getD 6 0
  | (0, _, _, 5) => u1.getD 3 0
  | (0, _, _, 6) => u1.getD 4 0
  | (0, _, _, _) => u1.getD 5 0
  | (1, i, _, 0) => u1.getD (7 + 16 * i) 0
  | (1, i, _, k + 1) => (u1.drop 7).getD (16 * i + 1 + k) 0
  | (2, i, j, k) => (u1.drop 7).getD (16 * i + 1 + (3 + 4 * j + k)) 0
  | (_, _, _, _) => 0
def tn0 : Nat → Int32 := fun k => match k with
  | 3 => 20
  | 4 => 5
  | _ => 0
def f00 : Lb → Nat → Int32 := fun lb => match lb with
  | (2, _, _, 0) => tn0
  | (2, _, _, 1) => m1f
  | _ => fun _ => 0
def q00 : Nat → Nat := fun k => if k = 6 then 0 else k + 1
def m00 : Mem := (f00, q00, 0)
def ceI (X : XW) (lb : Lb) : va_E := match lb with
  | (0, _, _, 1) => .inl (xcS X, 6, .inr (.inr (.inr (.inr (s6f (fun k => xad X (1, k + 1, 0, 0)))))))
  | (1, i, _, 1) => .inl (xcT X, 3, .inr (.inr (.inr (.inr (t3f (xad X (2, i, 0, 0)) (xad X (2, i, 1, 0)) (xad X (2, i, 2, 0)))))))
  | lb => ce X lb m00
theorem s6_eq (X : XW) : s6f (fun k => xad X (1, k + 1, 0, 0)) = svf X q00 := by
  funext k
  unfold s6f svf q00 va_up
  by_cases h5 : k = 5
  · subst h5; rfl
  by_cases h4 : k = 4
  · subst h4; rfl
  by_cases h3 : k = 3
  · subst h3; rfl
  by_cases h2 : k = 2
  · subst h2; rfl
  by_cases h1 : k = 1
  · subst h1; rfl
  by_cases h0 : k = 0
  · subst h0; rfl
  rw [if_neg h5, if_neg h4, if_neg h3, if_neg h2, if_neg h1, if_neg h0, if_neg (by omega)]
theorem t3_eq (X : XW) (i : Nat) : t3f (xad X (2, i, 0, 0)) (xad X (2, i, 1, 0)) (xad X (2, i, 2, 0)) = tnf X i := by
  funext k
  unfold t3f tnf va_up
  by_cases h2 : k = 2
  · subst h2; rfl
  by_cases h1 : k = 1
  · subst h1; rfl
  by_cases h0 : k = 0
  · subst h0; rfl
  rw [if_neg h2, if_neg h1, if_neg h0, if_neg (by omega)]
theorem ceI_eq (X : XW) {lb : Lb} (h : lb ∈ lbs) : ceI X lb = ce X lb m00 := by
  rcases lbs_cases h with ⟨k, hk, rfl⟩ | ⟨i, k, hi, hk, rfl⟩ | ⟨i, j, k, hi, hj, hk, rfl⟩
  · rcases (show k = 0 ∨ k = 1 ∨ k = 2 ∨ k = 3 ∨ k = 4 ∨ k = 5 ∨ k = 6 ∨ k = 7 by omega) with rfl | rfl | rfl | rfl | rfl | rfl | rfl | rfl <;> first | rfl | (simp only [ceI, ce, s6_eq]; rfl)
  · rcases (show k = 0 ∨ k = 1 ∨ k = 2 ∨ k = 3 by omega) with rfl | rfl | rfl | rfl <;> first | rfl | (simp only [ceI, ce, t3_eq])
  · rcases (show k = 0 ∨ k = 1 ∨ k = 2 ∨ k = 3 by omega) with rfl | rfl | rfl | rfl <;> rfl
def celI (X : XW) : va_W := lbs.map (fun lb => (xad X lb, ceI X lb))
theorem celI_eq (X : XW) : celI X = cel X m00 := List.map_congr_left (fun lb h => by rw [ceI_eq X h])
def prm : List Nat := [0, 1, 2, 3, 7, 4, 5, 6] ++ (List.range 112).map (fun k => k + 8)
abbrev wAll (ct : CT5) (q1 : Nat) (u1 : List Nat) : va_W := wX3 ct q1 u1
def tl1 (i : Nat) : List Lb := [(1, i, 0, 0), (1, i, 0, 1), (1, i, 0, 2), (1, i, 0, 3), (2, i, 0, 0), (2, i, 0, 1), (2, i, 0, 2), (2, i, 0, 3), (2, i, 1, 0), (2, i, 1, 1), (2, i, 1, 2), (2, i, 1, 3), (2, i, 2, 0), (2, i, 2, 1), (2, i, 2, 2), (2, i, 2, 3)]
def tl0 : List Lb := [(0, 0, 0, 0), (0, 0, 0, 1), (0, 0, 0, 2), (0, 0, 0, 3), (0, 0, 0, 4), (0, 0, 0, 5), (0, 0, 0, 6), (0, 0, 0, 7)]
theorem lbs_tl : lbs = tl0 ++ (tl1 0 ++ (tl1 1 ++ (tl1 2 ++ (tl1 3 ++ (tl1 4 ++ (tl1 5 ++ tl1 6)))))) := by decide +kernel
theorem range_get {α : Type} (l : List α) : (List.range l.length).map (fun k => l[k]?) = l.map some := by
  apply List.ext_getElem?
  intro k
  rw [List.getElem?_map, List.getElem?_map]
  by_cases h : k < l.length
  · rw [List.getElem?_range h]
    show some (l[k]?) = (l[k]?).map some
    rw [List.getElem?_eq_getElem h]; rfl
  · rw [List.getElem?_eq_none (by rw [List.length_range]; omega), List.getElem?_eq_none (by omega)]; rfl
theorem prm_map {α : Type} (F M R : List α) (hF : F.length = 8) (hR : R.length = 112) (hM : [0, 1, 2, 3, 7, 4, 5, 6].map (fun i => F[i]?) = M.map some) : prm.map (fun i => (F ++ R)[i]?) = (M ++ R).map some := by
  unfold prm
  rw [List.map_append, List.map_append, List.map_map, ← hM]
  congr 1
  · refine List.map_congr_left (fun i hi => ?_)
    have h8 : i < 8 := by
      simp only [List.mem_cons, List.not_mem_nil, or_false] at hi
      omega
    rw [List.getElem?_append_left (by omega)]
  · rw [← range_get R, hR]
    refine List.map_congr_left (fun i hi => ?_)
    show (F ++ R)[i + 8]? = R[i]?
    rw [List.getElem?_append_right (by omega), hF, Nat.add_sub_cancel]
section WAL
variable (D : va_G) (ct : CT5) (q1 : Nat) (u1 : List Nat) (z b L : Nat) (xs : Nat → Int32)
abbrev sX : va_W := wX1 ct (u1.getD 7 0) (sl (u1.drop 7) 0) ++ (wX1 ct (u1.getD 23 0) (sl (u1.drop 7) 1) ++ (wX1 ct (u1.getD 39 0) (sl (u1.drop 7) 2) ++ (wX1 ct (u1.getD 55 0) (sl (u1.drop 7) 3) ++ (wX1 ct (u1.getD 71 0) (sl (u1.drop 7) 4) ++ (wX1 ct (u1.getD 87 0) (sl (u1.drop 7) 5) ++ wX1 ct (u1.getD 103 0) (sl (u1.drop 7) 6))))))
def f8 : va_W := [(q1, .inr (3, [.ref (u1.getD 0 0), .ref (u1.getD 1 0), .ref (u1.getD 2 0), .ref (u1.getD 6 0), .ref (u1.getD 7 0), .int 0, .int 0])), (u1.getD 0 0, .inl (ct.2.2.2.1, 6, .inr (.inr (.inr (.inr (s6f (fun k => u1.getD (23 + 16 * k) 0))))))), (u1.getD 1 0, .inl (ct.1, 40, .inl (fun _ => 0)))] ++ wX0 ct (u1.getD 2 0) [u1.getD 3 0, u1.getD 4 0, u1.getD 5 0] ++ [(u1.getD 6 0, .inl (ct.1, 120, .inl (fun _ => 0)))]
theorem wAll_f8 : wAll ct q1 u1 = f8 ct q1 u1 ++ sX ct u1 := by
  unfold wAll wX3 f8 sX
  simp only [List.append_assoc]
set_option maxRecDepth 100000 in
set_option maxHeartbeats 4000000 in
theorem tl1_map (i h : Nat) (hh : h = 7 + 16 * i) : (tl1 i).map (fun lb => (adf q1 u1 lb, ceI (D, adf q1 u1, ct, z, b, L, xs) lb)) = wX1 ct (u1.getD h 0) (sl (u1.drop 7) i) := by
  subst hh
  rfl
def m8 : va_W := tl0.map (fun lb => (adf q1 u1 lb, ceI (D, adf q1 u1, ct, z, b, L, xs) lb))
theorem celI_m8 : celI (D, adf q1 u1, ct, z, b, L, xs) = m8 D ct q1 u1 z b L xs ++ sX ct u1 := by
  unfold celI
  rw [lbs_tl]
  simp only [List.map_append]
  rw [tl1_map D ct q1 u1 z b L xs 0 7 rfl, tl1_map D ct q1 u1 z b L xs 1 23 rfl, tl1_map D ct q1 u1 z b L xs 2 39 rfl, tl1_map D ct q1 u1 z b L xs 3 55 rfl, tl1_map D ct q1 u1 z b L xs 4 71 rfl, tl1_map D ct q1 u1 z b L xs 5 87 rfl, tl1_map D ct q1 u1 z b L xs 6 103 rfl]
  rfl
set_option maxRecDepth 100000 in
set_option maxHeartbeats 4000000 in
theorem wAll_map : prm.map (fun i => (wAll ct q1 u1)[i]?) = (celI (D, adf q1 u1, ct, z, b, L, xs)).map some := by
  rw [wAll_f8, celI_m8]
  refine prm_map _ _ _ rfl ?_ rfl
  rfl
end WAL
theorem wAll_fm (D : va_G) (ct : CT5) (q1 : Nat) (u1 : List Nat) (z b L : Nat) (xs : Nat → Int32) : prm.filterMap (fun i => (wAll ct q1 u1)[i]?) = celI (D, adf q1 u1, ct, z, b, L, xs) := by
  have h := wAll_map D ct q1 u1 z b L xs
  have e : prm.filterMap (fun i => (wAll ct q1 u1)[i]?) = (prm.map (fun i => (wAll ct q1 u1)[i]?)).filterMap id := by
    rw [List.filterMap_map]; rfl
  rw [e, h, List.filterMap_map]
  exact List.filterMap_some
theorem hp_start {D : va_G} {ct : CT5} {q1 z b L : Nat} {u1 : List Nat} {xs : Nat → Int32} {H : Heap} (hP : va_P D vwCl (wAll ct q1 u1) H) (hD : va_D (fun q => z ≤ q) (wAll ct q1 u1)) : Hp (D, adf q1 u1, ct, z, b, L, xs) m00 H := by
  have h1 := hP.sub (ws' := celI (D, adf q1 u1, ct, z, b, L, xs)) prm (wAll_fm D ct q1 u1 z b L xs)
  have h2 := hD.sub (ws' := celI (D, adf q1 u1, ct, z, b, L, xs)) prm (by decide +kernel) (wAll_map D ct q1 u1 z b L xs)
  rw [celI_eq] at h1 h2
  exact ⟨h1, h2⟩

theorem mk_L_10 : ∀ (a : Array Value) (U : State), Wd U → (Cond.classLink RL 10 RX3).before a U = true ∧ (Cond.instantiable RX3 7).before a U = true ∧ (Cond.initialized RX3).before a U = true := fun a U h => ⟨h.use a 34 (by decide +kernel) (by decide +kernel), h.use a 35 (by decide +kernel) (by decide +kernel), h.use a 22 (by decide +kernel) (by decide +kernel)⟩
theorem ml_L_95 : ∀ (a : Array Value) (U : State), Wd U → (Cond.methodLink RL 95 yX3_init).before a U = true := fun a U h => h.use a 36 (by decide +kernel) (by decide +kernel)
theorem mi_X3 : ∀ (a : Array Value) (U : State), Wd U → (Cond.instanceMethod yX3_init).before a U = true ∧ (Cond.initialized yX3_init.cls).before a U = true ∧ (Cond.code yX3_init cX3_init 2 none).before a U = true := fun a U h => ⟨h.use a 37 (by decide +kernel) (by decide +kernel), h.use a 22 (by decide +kernel) (by decide +kernel), h.use a 38 (by decide +kernel) (by decide +kernel)⟩
theorem yi_X3 : YF yX3_init 0 := ⟨⟨by decide +kernel, by decide +kernel⟩, by decide +kernel⟩
set_option maxHeartbeats 40000000 in
set_option maxRecDepth 100000 in
theorem start_of {p : Program} {e : Env} {s : State} {m : MethodId} {below : List Frame} {meth : Method} {c : Code} (l : Launch) (hflags : l.flags = flags0) {b L : Nat} {xs : Nat → Int32} (C0 : lw_At p s m meth c b L xs) (hLL : F_law L xs m00 = some ()) : W p l e room_1 s m #[Value.ref b] below meth c s.heap [] 0 0 (lw_Z below #[Value.ref b] s) (entryFrame m ([Value.ref b] : List Value).toArray 12) := by
  obtain ⟨hx, hb, hr, hml, hown, hts, hX, hbl, hlocks, hgv⟩ := id C0
  have hfl := flat_of_before _ hgv
  have hlf : l.stackTraces = false := by unfold Launch.stackTraces; rw [hflags]; decide +kernel
  have hWd : Wd s := fun w h1 h2 => okw_at (State.WarmedH.refl s) h2 (hts w h1)
  have hao1 : va_AO RX1 s := va_AO.of (hts (.arrayOver (.object RX1)) (by decide +kernel))
  have hao2 : va_AO RX2 s := va_AO.of (hts (.arrayOver (.object RX2)) (by decide +kernel))
  obtain ⟨cI, hI⟩ := arr_class (s := s) (ty := .int) (fun cA h => h) (hts (.arrayClass .int) (by decide +kernel))
  obtain ⟨cZ, hZ⟩ := arr_class (s := s) (ty := .boolean) (fun cA h => h) (hts (.arrayClass .boolean) (by decide +kernel))
  obtain ⟨cL, hL2⟩ := arr_class (s := s) (ty := .byte) (fun cA h => h) (hts (.arrayClass .byte) (by decide +kernel))
  obtain ⟨cS, hS2⟩ := arr_over (s := s) (va_AO.use (A := #[]) hao1)
  obtain ⟨cT, hT2⟩ := arr_over (s := s) (va_AO.use (A := #[]) hao2)
  obtain ⟨k0, i0, hKn0⟩ := u_known (C := RX0) (T := TX0) (N := 6) (n := 6) (cbX0.1 #[] s hWd) (fun w h => h) (hWd.use #[] 45 (by decide +kernel) (by decide +kernel))
  obtain ⟨k1, i1, hKn1⟩ := u_known (C := RX1) (T := TX1) (N := 4) (n := 4) (cbX1.1 #[] s hWd) (fun w h => h) (hWd.use #[] 74 (by decide +kernel) (by decide +kernel))
  obtain ⟨k2, i2, hKn2⟩ := u_known (C := RX2) (T := TX2) (N := 10) (n := 10) (cbX2.1 #[] s hWd) (fun w h => h) (hWd.use #[] 81 (by decide +kernel) (by decide +kernel))
  obtain ⟨k3, i3, hKn3⟩ := u_known (C := RX3) (T := TX3) (N := 7) (n := 7) (cbX3.1 #[] s hWd) (fun w h => h) (hWd.use #[] 35 (by decide +kernel) (by decide +kernel))
  obtain ⟨dC, dI, hKc⟩ : ∃ (dC : Nat → ClassId) (dI : Nat → Nat → Nat), ∀ (k : Nat) (q : vw_C), vwCl[k]? = some q → u_Kn s q.1 q.2.1 q.2.2 (dC k) (dI k) := by
    refine ⟨fun k => if k = 0 then k0 else if k = 1 then k1 else if k = 2 then k2 else k3, fun k => if k = 0 then i0 else if k = 1 then i1 else if k = 2 then i2 else i3, ?_⟩
    intro k q hq
    match k, hq with
    | 0, hq => cases hq; exact hKn0
    | 1, hq => cases hq; exact hKn1
    | 2, hq => cases hq; exact hKn2
    | 3, hq => cases hq; exact hKn3
    | k + 4, hq => simp [vwCl] at hq
  have hK : va_K (dC, dI) vwCl (ctys (cI, cZ, cL, cS, cT)) s := by
    refine ⟨hKc, fun k q h => ?_⟩
    match k, h with
    | 0, h => cases h; exact hI
    | 1, h => cases h; exact hZ
    | 2, h => cases h; exact hL2
    | 3, h => cases h; exact hS2
    | 4, h => cases h; exact hT2
    | k + 5, h => simp [ctys] at h
  have hA : ∀ q : Nat, s.heap.size ≤ q → (fun q : Nat => s.heap.size ≤ q) q := fun _ h => h
  have hnA : ∀ q : Nat, q < s.heap.size → ¬ (fun q : Nat => s.heap.size ≤ q) q := fun q h => Nat.not_le.mpr h
  have hs150 : ∃ a, vk_R RX3 150 "the buffer is full" a s := by
    obtain ⟨a, -, -, -, h1, -⟩ := Cond.exactly_spec (args := #[Value.ref b]) (first := s) (o := none) (s := s) (idx := []) (t := Term.string RX3 150) (cls := "java/lang/String") (hfl _ (by decide +kernel))
    exact ⟨a, vk_R.of (hts (.stringRef RX3 150 "the buffer is full") (by decide +kernel)) h1⟩
  have hs182 : ∃ a, vk_R RX3 182 "no state is saved" a s := by
    obtain ⟨a, -, -, -, h1, -⟩ := Cond.exactly_spec (args := #[Value.ref b]) (first := s) (o := none) (s := s) (idx := []) (t := Term.string RX3 182) (cls := "java/lang/String") (hfl _ (by decide +kernel))
    exact ⟨a, vk_R.of (hts (.stringRef RX3 182 "no state is saved") (by decide +kernel)) h1⟩
  have hs269 : ∃ a, vk_R RX3 269 "an argument is out of range, or the buffer tells no question" a s := by
    obtain ⟨a, -, -, -, h1, -⟩ := Cond.exactly_spec (args := #[Value.ref b]) (first := s) (o := none) (s := s) (idx := []) (t := Term.string RX3 269) (cls := "java/lang/String") (hfl _ (by decide +kernel))
    exact ⟨a, vk_R.of (hts (.stringRef RX3 269 "an argument is out of range, or the buffer tells no question") (by decide +kernel)) h1⟩
  have hs274 : ∃ a, vk_R RX3 274 "there is no such row" a s := by
    obtain ⟨a, -, -, -, h1, -⟩ := Cond.exactly_spec (args := #[Value.ref b]) (first := s) (o := none) (s := s) (idx := []) (t := Term.string RX3 274) (cls := "java/lang/String") (hfl _ (by decide +kernel))
    exact ⟨a, vk_R.of (hts (.stringRef RX3 274 "there is no such row") (by decide +kernel)) h1⟩
  have hOld : Old ((dC, dI), adf 0 [], (cI, cZ, cL, cS, cT), s.heap.size, b, L, xs) s := ⟨hWd, hK, vx_Zqof (hts (.laysStatic Bundle.tN "UNASSIGNED_STACK" Bundle.steD) (by decide +kernel)) (hts (.initialized Bundle.tN) (by decide +kernel)) (hfl _ (by decide +kernel)) hnA, vx_Zqof (hts (.laysStatic Bundle.tN "SUPPRESSED_SENTINEL" Bundle.listD) (by decide +kernel)) (hts (.initialized Bundle.tN) (by decide +kernel)) (hfl _ (by decide +kernel)) hnA, hs150, hs182, hs269, hs274, hX, hbl, Nat.le_refl _, trivial, trivial⟩
  have hCG : CG (dC, dI) (cI, cZ, cL, cS, cT) s := ⟨hWd, hK, hao1, hao2⟩
  have hk : OkW (dC, dI) (cI, cZ, cL, cS, cT) (fun q : Nat => s.heap.size ≤ q) (p, l, e, room_1, s, m, #[Value.ref b], below, meth, c, 12, 0, 0, lw_Z below #[Value.ref b] s) RL cL_law 12 10 600130 7301080 :=
    ⟨hx, hb, hml, rfl, hown, hCG, hlocks, Nat.le_of_ble_eq_true rfl, Nat.le_of_ble_eq_true rfl, Nat.le_of_ble_eq_true rfl, Nat.le_of_ble_eq_true rfl, fun q h => h⟩
  have main : GW (dC, dI) (fun q : Nat => s.heap.size ≤ q) (p, l, e, room_1, s, m, #[Value.ref b], below, meth, c, 12, 0, 0, lw_Z below #[Value.ref b] s) 0 0 0 [(0, .ref b)] [] [] := by
    refine w_make (fs := [.null, .null, .null, .null, .null, .int 0, .int 0]) hk cbX3 (kX3_init l (dC, dI) (cI, cZ, cL, cS, cT)) mk_L_10 (Or.inl ml_L_95) mi_X3 yi_X3 rfl (fun j hj => by rcases (show j = 0 ∨ j = 1 ∨ j = 2 ∨ j = 3 ∨ j = 4 ∨ j = 5 ∨ j = 6 by omega) with rfl | rfl | rfl | rfl | rfl | rfl | rfl <;> rfl) (by decide) (by decide) (Nat.le_of_ble_eq_true rfl) (Nat.le_of_ble_eq_true rfl) (Nat.le_of_ble_eq_true rfl) (dtL_law_0 0 (0, .new 10, 3) rfl) (dtL_law_0 1 (3, .dup, 1) rfl) (dtL_law_0 2 (4, .invokespecial 95, 3) rfl) (fun q1 u1 => ?_)
    refine w_astore hk [(1, .ref q1), (0, .ref b)] (dtL_law_0 3 (7, .astore_n 1, 1) rfl) (by decide) rfl ?_
    have hXa : Old ((dC, dI), adf q1 u1, (cI, cZ, cL, cS, cT), s.heap.size, b, L, xs) s := hOld
    have hk2 : Ok ((dC, dI), adf q1 u1, (cI, cZ, cL, cS, cT), s.heap.size, b, L, xs) (p, l, e, room_1, s, m, #[Value.ref b], below, meth, c, 12, 120, 8532, lw_Z below #[Value.ref b] s) RL cL_law 12 10 :=
      ⟨hx, hb, hml, rfl, hown, hXa, hlocks, Nat.le_of_ble_eq_true rfl, Nat.le_of_ble_eq_true rfl, Nat.le_of_ble_eq_true rfl, Nat.le_of_ble_eq_true rfl, hlf⟩
    have hgood : LGood ((dC, dI), adf q1 u1, (cI, cZ, cL, cS, cT), s.heap.size, b, L, xs) (p, l, e, room_1, s, m, #[Value.ref b], below, meth, c, 12, 120, 8532, lw_Z below #[Value.ref b] s) fu := by
      refine ⟨hk2, Nat.le_of_ble_eq_true rfl, Nat.le_of_ble_eq_true rfl, fun c1 s1 h1 h2 pc lv mm hd H locs ls hH hSS hlv => ?_⟩
      refine W.widen (k := 600130) (n := 7301080) h1 h2 ?_
      refine va_forget (fun q h => hSS.2.2 q h) ?_
      exact lw_ret (d0 := s.drawn) (Drawn.sameBut.refl s.drawn lw_cs) hx hb hr hlocks hd
    have hloop := law_run ((dC, dI), adf q1 u1, (cI, cZ, cL, cS, cT), s.heap.size, b, L, xs) _ hgood m00 hLL
    intro H locs ls hP hD hSS hlv
    exact hloop H locs ls (hp_start hP hD) hSS (lv_sub hlv [1, 0] rfl)
  have h2 := main s.heap [] _ (fun k q h => by simp at h) ⟨fun i j p q h => by simp at h, fun k q h => by simp at h⟩ va_S.rf (lv_entry [.ref b] (n := 12) (Nat.le_of_ble_eq_true rfl))
  rw [lg_entry_eq]
  exact h2
