section
-- ===== PART A: goes FIRST, ahead of the names: the tables' words, and 'selects' of the private methods out of them =====
/-- a private method of a class that the tables say can be made, by its rows of tables_1 -/
def lw_okq (q : MethodName × Nat) : Prop := (q.1.cls ≠ "java/lang/invoke/MethodHandle" ∧ q.1.cls ≠ "java/lang/invoke/VarHandle") ∧ Cond.instantiable q.1.cls q.2 ∈ tables_1 ∧ Cond.privateMethod q.1 ∈ tables_1 ∧ Cond.instanceMethod q.1 ∈ tables_1
theorem lw_p0 : lw_okq (⟨"java/lang/Throwable", "fillInStackTrace", "(I)Ljava/lang/Throwable;"⟩, 6) := ⟨⟨by decide +kernel, by decide +kernel⟩, List.mem_of_getElem? (i := 197) (by decide +kernel), List.mem_of_getElem? (i := 195) (by decide +kernel), List.mem_of_getElem? (i := 196) (by decide +kernel)⟩
theorem lw_p1 : lw_okq (⟨"SharedColumns", "requireRow", "(I)V"⟩, 7) := ⟨⟨by decide +kernel, by decide +kernel⟩, List.mem_of_getElem? (i := 14) (by decide +kernel), List.mem_of_getElem? (i := 292) (by decide +kernel), List.mem_of_getElem? (i := 293) (by decide +kernel)⟩
theorem lw_p2 : lw_okq (⟨"SharedColumns$State", "standsAhead", "(III)Z"⟩, 4) := ⟨⟨by decide +kernel, by decide +kernel⟩, List.mem_of_getElem? (i := 53) (by decide +kernel), List.mem_of_getElem? (i := 337) (by decide +kernel), List.mem_of_getElem? (i := 338) (by decide +kernel)⟩
theorem lw_p3 : lw_okq (⟨"SharedColumns", "readQuestion", "()Z"⟩, 7) := ⟨⟨by decide +kernel, by decide +kernel⟩, List.mem_of_getElem? (i := 14) (by decide +kernel), List.mem_of_getElem? (i := 375) (by decide +kernel), List.mem_of_getElem? (i := 376) (by decide +kernel)⟩
theorem lw_p4 : lw_okq (⟨"SharedColumns$Question", "take", "(I)Z"⟩, 6) := ⟨⟨by decide +kernel, by decide +kernel⟩, List.mem_of_getElem? (i := 24) (by decide +kernel), List.mem_of_getElem? (i := 383) (by decide +kernel), List.mem_of_getElem? (i := 384) (by decide +kernel)⟩
theorem lw_p5 : lw_okq (⟨"SharedColumns$Question", "takeLetter", "(I)Z"⟩, 6) := ⟨⟨by decide +kernel, by decide +kernel⟩, List.mem_of_getElem? (i := 24) (by decide +kernel), List.mem_of_getElem? (i := 387) (by decide +kernel), List.mem_of_getElem? (i := 388) (by decide +kernel)⟩
theorem lw_p6 : lw_okq (⟨"SharedColumns$Question", "takeSign", "(I)Z"⟩, 6) := ⟨⟨by decide +kernel, by decide +kernel⟩, List.mem_of_getElem? (i := 24) (by decide +kernel), List.mem_of_getElem? (i := 391) (by decide +kernel), List.mem_of_getElem? (i := 392) (by decide +kernel)⟩
theorem lw_p7 : lw_okq (⟨"SharedColumns$Question", "takeMinus", "(I)Z"⟩, 6) := ⟨⟨by decide +kernel, by decide +kernel⟩, List.mem_of_getElem? (i := 24) (by decide +kernel), List.mem_of_getElem? (i := 395) (by decide +kernel), List.mem_of_getElem? (i := 396) (by decide +kernel)⟩
theorem lw_p8 : lw_okq (⟨"SharedColumns$Question", "takeDigit", "(I)Z"⟩, 6) := ⟨⟨by decide +kernel, by decide +kernel⟩, List.mem_of_getElem? (i := 24) (by decide +kernel), List.mem_of_getElem? (i := 399) (by decide +kernel), List.mem_of_getElem? (i := 400) (by decide +kernel)⟩
theorem lw_p9 : lw_okq (⟨"SharedColumns$Question", "takeAnd", "(I)Z"⟩, 6) := ⟨⟨by decide +kernel, by decide +kernel⟩, List.mem_of_getElem? (i := 24) (by decide +kernel), List.mem_of_getElem? (i := 403) (by decide +kernel), List.mem_of_getElem? (i := 404) (by decide +kernel)⟩
theorem lw_p10 : lw_okq (⟨"SharedColumns$Question", "mayGrow", "()Z"⟩, 6) := ⟨⟨by decide +kernel, by decide +kernel⟩, List.mem_of_getElem? (i := 24) (by decide +kernel), List.mem_of_getElem? (i := 407) (by decide +kernel), List.mem_of_getElem? (i := 408) (by decide +kernel)⟩
theorem lw_p11 : lw_okq (⟨"SharedColumns", "collectAnswers", "(I)I"⟩, 7) := ⟨⟨by decide +kernel, by decide +kernel⟩, List.mem_of_getElem? (i := 14) (by decide +kernel), List.mem_of_getElem? (i := 418) (by decide +kernel), List.mem_of_getElem? (i := 419) (by decide +kernel)⟩
theorem lw_p12 : lw_okq (⟨"SharedColumns", "isAnswer", "(ILSharedColumns$Tenant;)Z"⟩, 7) := ⟨⟨by decide +kernel, by decide +kernel⟩, List.mem_of_getElem? (i := 14) (by decide +kernel), List.mem_of_getElem? (i := 422) (by decide +kernel), List.mem_of_getElem? (i := 423) (by decide +kernel)⟩
theorem lw_p13 : lw_okq (⟨"SharedColumns", "sortAnswers", "(II)V"⟩, 7) := ⟨⟨by decide +kernel, by decide +kernel⟩, List.mem_of_getElem? (i := 14) (by decide +kernel), List.mem_of_getElem? (i := 434) (by decide +kernel), List.mem_of_getElem? (i := 435) (by decide +kernel)⟩
theorem lw_p14 : lw_okq (⟨"SharedColumns", "comesBefore", "(III)Z"⟩, 7) := ⟨⟨by decide +kernel, by decide +kernel⟩, List.mem_of_getElem? (i := 14) (by decide +kernel), List.mem_of_getElem? (i := 438) (by decide +kernel), List.mem_of_getElem? (i := 439) (by decide +kernel)⟩
theorem lw_p15 : lw_okq (⟨"SharedColumns", "answerAt", "(II)I"⟩, 7) := ⟨⟨by decide +kernel, by decide +kernel⟩, List.mem_of_getElem? (i := 14) (by decide +kernel), List.mem_of_getElem? (i := 442) (by decide +kernel), List.mem_of_getElem? (i := 443) (by decide +kernel)⟩
def lw_privs_1 : List (MethodName × Nat) := [(⟨"java/lang/Throwable", "fillInStackTrace", "(I)Ljava/lang/Throwable;"⟩, 6), (⟨"SharedColumns", "requireRow", "(I)V"⟩, 7), (⟨"SharedColumns$State", "standsAhead", "(III)Z"⟩, 4), (⟨"SharedColumns", "readQuestion", "()Z"⟩, 7), (⟨"SharedColumns$Question", "take", "(I)Z"⟩, 6), (⟨"SharedColumns$Question", "takeLetter", "(I)Z"⟩, 6), (⟨"SharedColumns$Question", "takeSign", "(I)Z"⟩, 6), (⟨"SharedColumns$Question", "takeMinus", "(I)Z"⟩, 6), (⟨"SharedColumns$Question", "takeDigit", "(I)Z"⟩, 6), (⟨"SharedColumns$Question", "takeAnd", "(I)Z"⟩, 6), (⟨"SharedColumns$Question", "mayGrow", "()Z"⟩, 6), (⟨"SharedColumns", "collectAnswers", "(I)I"⟩, 7), (⟨"SharedColumns", "isAnswer", "(ILSharedColumns$Tenant;)Z"⟩, 7), (⟨"SharedColumns", "sortAnswers", "(II)V"⟩, 7), (⟨"SharedColumns", "comesBefore", "(III)Z"⟩, 7), (⟨"SharedColumns", "answerAt", "(II)I"⟩, 7)]
theorem lw_r1 : ∀ q ∈ lw_privs_1, lw_okq q := List.forall_mem_cons.mpr ⟨lw_p0, List.forall_mem_cons.mpr ⟨lw_p1, List.forall_mem_cons.mpr ⟨lw_p2, List.forall_mem_cons.mpr ⟨lw_p3, List.forall_mem_cons.mpr ⟨lw_p4, List.forall_mem_cons.mpr ⟨lw_p5, List.forall_mem_cons.mpr ⟨lw_p6, List.forall_mem_cons.mpr ⟨lw_p7, List.forall_mem_cons.mpr ⟨lw_p8, List.forall_mem_cons.mpr ⟨lw_p9, List.forall_mem_cons.mpr ⟨lw_p10, List.forall_mem_cons.mpr ⟨lw_p11, List.forall_mem_cons.mpr ⟨lw_p12, List.forall_mem_cons.mpr ⟨lw_p13, List.forall_mem_cons.mpr ⟨lw_p14, List.forall_mem_cons.mpr ⟨lw_p15, fun _ h => absurd h List.not_mem_nil⟩⟩⟩⟩⟩⟩⟩⟩⟩⟩⟩⟩⟩⟩⟩⟩
theorem lw_p16 : lw_okq (⟨"SharedColumns", "rowsToLookAt", "(IZI)I"⟩, 7) := ⟨⟨by decide +kernel, by decide +kernel⟩, List.mem_of_getElem? (i := 14) (by decide +kernel), List.mem_of_getElem? (i := 450) (by decide +kernel), List.mem_of_getElem? (i := 451) (by decide +kernel)⟩
theorem lw_p17 : lw_okq (⟨"SharedColumns", "save", "()LSharedColumns$State;"⟩, 7) := ⟨⟨by decide +kernel, by decide +kernel⟩, List.mem_of_getElem? (i := 14) (by decide +kernel), List.mem_of_getElem? (i := 462) (by decide +kernel), List.mem_of_getElem? (i := 463) (by decide +kernel)⟩
theorem lw_p18 : lw_okq (⟨"SharedColumns", "bestLetter", "(I)I"⟩, 7) := ⟨⟨by decide +kernel, by decide +kernel⟩, List.mem_of_getElem? (i := 14) (by decide +kernel), List.mem_of_getElem? (i := 485) (by decide +kernel), List.mem_of_getElem? (i := 486) (by decide +kernel)⟩
theorem lw_p19 : lw_okq (⟨"SharedColumns$State", "tableOf", "(I)I"⟩, 4) := ⟨⟨by decide +kernel, by decide +kernel⟩, List.mem_of_getElem? (i := 53) (by decide +kernel), List.mem_of_getElem? (i := 537) (by decide +kernel), List.mem_of_getElem? (i := 538) (by decide +kernel)⟩
theorem lw_p20 : lw_okq (⟨"SharedColumns$State", "copyRow", "(LSharedColumns$State;II)V"⟩, 4) := ⟨⟨by decide +kernel, by decide +kernel⟩, List.mem_of_getElem? (i := 53) (by decide +kernel), List.mem_of_getElem? (i := 558) (by decide +kernel), List.mem_of_getElem? (i := 559) (by decide +kernel)⟩
def lw_privs_2 : List (MethodName × Nat) := [(⟨"SharedColumns", "rowsToLookAt", "(IZI)I"⟩, 7), (⟨"SharedColumns", "save", "()LSharedColumns$State;"⟩, 7), (⟨"SharedColumns", "bestLetter", "(I)I"⟩, 7), (⟨"SharedColumns$State", "tableOf", "(I)I"⟩, 4), (⟨"SharedColumns$State", "copyRow", "(LSharedColumns$State;II)V"⟩, 4)]
theorem lw_r2 : ∀ q ∈ lw_privs_2, lw_okq q := List.forall_mem_cons.mpr ⟨lw_p16, List.forall_mem_cons.mpr ⟨lw_p17, List.forall_mem_cons.mpr ⟨lw_p18, List.forall_mem_cons.mpr ⟨lw_p19, List.forall_mem_cons.mpr ⟨lw_p20, fun _ h => absurd h List.not_mem_nil⟩⟩⟩⟩⟩
def lw_privs : List (MethodName × Nat) := lw_privs_1 ++ (lw_privs_2)
def lw_tbl : List Cond := k2_sels lw_privs ++ tables_1
theorem lw_privs_ok : ∀ q ∈ lw_privs, lw_okq q := by
  show ∀ q ∈ lw_privs_1 ++ (lw_privs_2), lw_okq q
  exact List.forall_mem_append.mpr ⟨lw_r1, lw_r2⟩
/-- the streams that the claim lets the run draw from -/
abbrev lw_cs : List Choice := [Jvm.Choice.named "NaN.bits"]
theorem lw_bits : nanBits ∈ lw_cs := by first | decide | exact List.mem_cons_self | simp [lw_cs, nanBits]
/-! ===== BEGIN words of one list among another's, by their places ===== -/
theorem goodIn_r {big : List Cond} (ws : List Cond) (ps : List Nat) (hp : ws = ps.filterMap (fun i => big[i]?)) (h : ws.all goodWord = true) : GoodIn big ws := by
  intro w hw
  have h1 := List.all_eq_true.mp h w hw
  rw [hp] at hw
  obtain ⟨i, -, hi⟩ := List.mem_filterMap.mp hw
  have hm : w ∈ big := by first | exact List.mem_of_getElem? hi | exact List.getElem?_mem hi
  exact ⟨hm, good_of_word h1⟩
theorem goodIn_app {big a b : List Cond} (ha : GoodIn big a) (hb : GoodIn big b) : GoodIn big (a ++ b) := fun w h => (List.mem_append.mp h).elim (ha w) (hb w)
theorem goodIn_ca {big a b : List Cond} {c : Cond} (ha : GoodIn big (c :: a)) (hb : GoodIn big b) : GoodIn big (c :: (a ++ b)) := fun w h => (List.mem_cons.mp h).elim (fun e => ha w (List.mem_cons.mpr (Or.inl e))) (fun h => (List.mem_append.mp h).elim (fun h => ha w (List.mem_cons.mpr (Or.inr h))) (hb w))
theorem goodIn_sub {big ws : List Cond} (hm : ∀ w ∈ ws, w ∈ big) (h : ws.all goodWord = true) : GoodIn big ws := fun w hw => ⟨hm w hw, good_of_word (List.all_eq_true.mp h w hw)⟩
/-! ===== END ===== -/

/-! ===== BEGIN exceptions that leave a method, and their catching by the caller (launches without stack traces) ===== -/
section VXA
/-! The laws vx_back, vx_callV, vx_callS, vx_callSW, vx_throw0, vx_throwS follow proofs of the library, with one case more: JvmDerived/Free/Laws.lean (Back.of_free), Shelf42/LK1.lean (callV, callS), Shelf/KitTraced.lean (throwNew0V, throwNewS). -/
/-- where a method has thrown q: the class by its name, the cell, what was written, the world -/
def vx_T (XC : String → State → State → Prop) (st : State) (q : Addr) (t : State) (mc ms : Nat) (free : Addr → Prop) : Prop :=
  ∃ (E : String) (ce : Cell) (L : List Loc), XC E st t ∧ t.heap[q]? = some ce ∧ ce.vm = .none ∧ st.vm.findClass E = some ce.cls ∧ st.WarmedH t.vm ∧ st.sameButNew ({ t with vm := st.vm } : State) L mc ms ∧ ∀ z ∈ L, free z.base
def vx_Q (Qc : Array Value → State → Outcome → State → Prop) (XC : String → State → State → Prop) (mc ms : Nat) (free : Addr → Prop) : Array Value → State → Outcome → State → Prop := fun a st o t =>
  (Qc a st o t ∧ ∃ L, FrameEnd st o t L mc ms ∧ ∀ q ∈ L, free q.base) ∨ ∃ q, o = .threw q ∧ vx_T XC st q t mc ms free
/-- a callee that returns or throws -/
def vx_Met (l : Launch) (y : MethodName) (ws : List Cond) (rm : Room) (Pc : Array Value → State → Prop) (Qc : Array Value → State → Outcome → State → Prop) (XC : String → State → State → Prop) (mc ms : Nat) (free : Addr → Prop) : Prop :=
  MetFree l y (headSpec ws rm) Pc (fun _ _ _ _ _ => True) (vx_Q Qc XC mc ms free)
def vx_Post (XC : String → State → State → Prop) (mc ms : Nat) (free : Addr → Prop) : Pt → Array Value → Addr → Pt → Prop := fun A a q B =>
  ∃ (g : JFrame) (mk : MethodId) (t : State) (L : List Loc) (E : String) (ce : Cell), B.U.heap = t.heap ∧ B.U.vm = t.vm ∧ XC E (A.U.calling g mk a) t ∧ t.heap[q]? = some ce ∧ ce.vm = .none ∧ A.U.vm.findClass E = some ce.cls ∧ B.locs = A.locs ++ L ∧ (∀ z ∈ L, free z.base) ∧ B.cells = A.cells + mc ∧ B.slots = A.slots + ms
def vx_Back (l : Launch) (R : Room) (p : Program) (e : Env) (below : List Frame) (s : State) (sargs : Array Value) (y : MethodName) (len W9 : Nat)
    (Pre : Pt → Array Value → Prop) (Post : Pt → Array Value → Option Value → Pt → Prop) (PostX : Pt → Array Value → Addr → Pt → Prop) : Prop :=
  ∀ (m : MethodId) (meth : Method) (c : Code) (A : Pt) (g : JFrame) (ig : Instr) (mk : MethodId) (a : Array Value),
    Stand p l e R s m sargs below meth c A.U A.locs A.cells A.slots → g.method = m → g.locals.size = c.maxLocals → decode c.code g.pc = .ok (ig, len) →
    2 * g.monitorRoom + (g.stack.map fun v => v.category).sum ≤ W9 → A.U.methodNamed? y = some mk → Pre A a →
    (∃ (v : Option Value) (B : Pt), Stand p l e R s m sargs below meth c B.U B.locs B.cells B.slots ∧ Post A a v B ∧
      Steps p.tables e below (doInvoke e (A.U.setTop g) [] mk a).1 (B.U.setTop { g with pc := g.pc + len, stack := v.toList ++ g.stack })) ∨
    (∃ (q : Addr) (B : Pt), Stand p l e R s m sargs below meth c B.U B.locs B.cells B.slots ∧ PostX A a q B ∧
      Steps p.tables e below (doInvoke e (A.U.setTop g) [] mk a).1 ((B.U.setTop g).pushFrame (.throwing q)))
section Payer
variable {l : Launch} {R : Room} {p : Program} {e : Env} {below : List Frame} {s : State} {sargs : Array Value} {y : MethodName} {len W9 : Nat}
theorem vx_back {ws : List Cond} {rm : Room} {Pc : Array Value → State → Prop} {Qc : Array Value → State → Outcome → State → Prop} {XC : String → State → State → Prop} {mc ms : Nat} {free : Addr → Prop} {bytes : ByteArray} {maxL : Nat} {ret : Option FieldType}
    (hM : vx_Met l y ws rm Pc Qc XC mc ms free) (hblind : FrameBlind Pc) (hrc : rm.cells = mc) (hrs : rm.slots = ms)
    (hframes : rm.frames + 1 ≤ R.frames) (hlocals : W9 + (maxL + 11) + rm.locals ≤ R.locals)
    (hws : ∀ w ∈ ws, ∀ a' U, s.WarmedH U.vm → w.before a' U = true) (hcode : Cond.code y bytes maxL ret ∈ ws) (hinit : ∀ a' U, s.WarmedH U.vm → (Cond.initialized y.cls).before a' U = true) :
    vx_Back l R p e below s sargs y len W9 (PreOf R mc ms Pc) (PostOf Qc mc ms free) (vx_Post XC mc ms free) := by
  intro m meth c A g ig mk a X hg hsize hdg hW hn hp
  have h1 : (headSpec ws rm).pre.before a A.U = true := atoms_intro fun w hw => hws w hw _ _ X.warmed
  have h2 : (Cond.code y bytes maxL ret).before a A.U = true := hws _ hcode _ _ X.warmed
  have h3 : (Cond.initialized y.cls).before a A.U = true := hinit _ _ X.warmed
  have h4 : A.cells + (headSpec ws rm).room.cells ≤ R.cells := by rw [show (headSpec ws rm).room.cells = mc from hrc]; exact hp.1
  have h5 : A.slots + (headSpec ws rm).room.slots ≤ R.slots := by rw [show (headSpec ws rm).room.slots = ms from hrs]; exact hp.2.1
  have hPc : Pc a (A.U.calling g mk a) := hblind _ _ _ _ hp.2.2
  obtain ⟨U, Ls, c0, s0⟩ := A
  dsimp only [Pt.U, Pt.locs, Pt.cells, Pt.slots] at h1 h2 h3 h4 h5 X hn hPc ⊢
  obtain ⟨methY, cY, hmY, hcY, -, hlY, -, -, -, -⟩ := Cond.code_spec hn h2
  obtain ⟨kY, hkY, -⟩ := className_of_methodNamed hn
  have hinitY : kY.init = .initialized := Cond.initialized_spec (findClass_of_methodNamed hn) hkY h3
  have h : At U g.method c below := by rw [hg]; exact X.here
  have hlocals9 : W9 + (maxL + 11) + (headSpec ws rm).room.locals ≤ R.locals := hlocals
  have happ : (headSpec ws rm).appliesLoose y e.platform (U.calling g mk a) = true :=
    Spec.appliesLoose_calling (g := g) h hdg hn hkY hinitY
      (X.room_calling (g := g) (R' := (headSpec ws rm).room) hsize hmY hcY hframes (by rw [hlY]; omega) h4 h5) h1
  obtain ⟨mid, hmid⟩ := h.above
  have hfr : (U.setTop g).frames = (.java g :: mid) ++ below := by rw [State.frames_setTop' g h.top, hmid]; rfl
  obtain ⟨o, s₂, hsteps, -, hend, hq⟩ := Steps.callFree hM p X.admits X.cas X.clock (acts := []) hfr happ hPc trivial
  have hq' : vx_Q Qc XC mc ms free a (U.calling g mk a) o s₂ := hq
  rw [State.frames_setTop' g h.top] at hend
  obtain ⟨g₀, hg0⟩ := Option.isSome_iff_exists.mp h.top
  obtain ⟨r, hr⟩ := State.topJava?_eq_some.mp hg0
  have hr' : (({ U with heap := s₂.heap, slotsUsed := s₂.slotsUsed } : State).setVm s₂.vm).frames = .java g₀ :: r := hr
  rcases hq' with ⟨hqc, L, hfe, hL⟩ | ⟨q, rfl, E, ce, L, hx, hce, hcv, hcl, hW₂, hsm, hL⟩
  · obtain ⟨⟨v, rfl⟩, hW₂, e2, q2, q3, q4, q5, q6⟩ := id hfe
    have e3 : s₂ = ({ (U.calling g mk a).setFrames s₂.frames with heap := s₂.heap, slotsUsed := s₂.slotsUsed } : State).setVm s₂.vm := by
      have : s₂ = ({ s₂ with vm := (U.calling g mk a).vm } : State).setVm s₂.vm := rfl
      rw [e2] at this
      exact this
    obtain ⟨c₂, i₂, len₂, hc₂, hd₂, hf₂⟩ := hend
    have hW' : U.WarmedH s₂.vm := hW₂
    have hcc : c₂ = c := by
      have h1 : s₂.code? g.method = U.code? g.method := by
        rw [State.code?_eq, State.code?_eq, hW'.alike.method?]
      exact Option.some.inj (hc₂.symm.trans (h1.trans h.code))
    subst hcc
    have hlen : len₂ = len := by rw [hdg] at hd₂; cases hd₂; rfl
    subst hlen
    have hs₂ : s₂ = (({ U with heap := s₂.heap, slotsUsed := s₂.slotsUsed } : State).setVm s₂.vm).setTop { g with pc := g.pc + len₂, stack := v.toList ++ g.stack } := by
      refine e3.trans ?_
      rw [hf₂, State.calling_eq h.top, State.setFrames_setFrames, State.setTop_of_frames _ hr', hr]
      rfl
    have hsame : U.sameButNew ({ U with heap := s₂.heap, slotsUsed := s₂.slotsUsed } : State) L mc ms := by
      refine ⟨?_, q2, q3, q4, q5, q6⟩
      obtain ⟨t, ht, -⟩ := State.frames_cons hr
      show ({ U with heap := s₂.heap, slotsUsed := s₂.slotsUsed } : State) = { U.setFrames U.frames with heap := s₂.heap, slotsUsed := s₂.slotsUsed }
      rw [State.setFrames_self ht]
    subst hg
    refine Or.inl ⟨v, ⟨(({ U with heap := s₂.heap, slotsUsed := s₂.slotsUsed } : State).setVm s₂.vm), Ls ++ L, c0 + mc, s0 + ms⟩,
      ⟨X.admits, X.cas, X.clock, X.frames, X.room, X.hears, X.method, X.code, (X.here.setHeapUsed s₂.heap s₂.slotsUsed).setVm hW'.alike, X.tail, State.WarmedH.trans X.warmed hW', X.limits, X.bytes, X.same.trans (hsame.setVm s.vm)⟩,
      ⟨g, mk, s₂, L, rfl, rfl, hqc, rfl, hL, rfl, rfl⟩, ?_⟩
    show Steps p.tables e below _ ((({ U with heap := s₂.heap, slotsUsed := s₂.slotsUsed } : State).setVm s₂.vm).setTop { g with pc := g.pc + len₂, stack := v.toList ++ g.stack })
    rw [← hs₂]
    exact hsteps
  · obtain ⟨e2, q2, q3, q4, q5, q6⟩ := id hsm
    have e3 : s₂ = ({ (U.calling g mk a).setFrames s₂.frames with heap := s₂.heap, slotsUsed := s₂.slotsUsed } : State).setVm s₂.vm := by
      have : s₂ = ({ s₂ with vm := (U.calling g mk a).vm } : State).setVm s₂.vm := rfl
      rw [e2] at this
      exact this
    have hf₂ : s₂.frames = .throwing q :: .java g :: U.frames.tail := hend
    have hW' : U.WarmedH s₂.vm := hW₂
    have hs₂ : s₂ = ((({ U with heap := s₂.heap, slotsUsed := s₂.slotsUsed } : State).setVm s₂.vm).setTop g).pushFrame (.throwing q) := by
      refine e3.trans ?_
      rw [hf₂, State.calling_eq h.top, State.setFrames_setFrames, State.pushFrame, State.frames_setTop _ hr', State.setTop_of_frames _ hr', State.setFrames_setFrames, hr]
      rfl
    have hsame : U.sameButNew ({ U with heap := s₂.heap, slotsUsed := s₂.slotsUsed } : State) L mc ms := by
      refine ⟨?_, q2, q3, q4, q5, q6⟩
      obtain ⟨t, ht, -⟩ := State.frames_cons hr
      show ({ U with heap := s₂.heap, slotsUsed := s₂.slotsUsed } : State) = { U.setFrames U.frames with heap := s₂.heap, slotsUsed := s₂.slotsUsed }
      rw [State.setFrames_self ht]
    subst hg
    refine Or.inr ⟨q, ⟨(({ U with heap := s₂.heap, slotsUsed := s₂.slotsUsed } : State).setVm s₂.vm), Ls ++ L, c0 + mc, s0 + ms⟩,
      ⟨X.admits, X.cas, X.clock, X.frames, X.room, X.hears, X.method, X.code, (X.here.setHeapUsed s₂.heap s₂.slotsUsed).setVm hW'.alike, X.tail, State.WarmedH.trans X.warmed hW', X.limits, X.bytes, X.same.trans (hsame.setVm s.vm)⟩,
      ⟨g, mk, s₂, L, E, ce, rfl, rfl, hx, hce, hcv, hcl, rfl, hL, rfl, rfl⟩, ?_⟩
    show Steps p.tables e below _ (((({ U with heap := s₂.heap, slotsUsed := s₂.slotsUsed } : State).setVm s₂.vm).setTop g).pushFrame (.throwing q))
    rw [← hs₂]
    exact hsteps
end Payer
section Calls
variable {p : Program} {l : Launch} {e : Env} {R : Room} {s : State} {m : MethodId} {args : Array Value} {below : List Frame} {meth : Method} {c : Code} {T : State} {locs : List Loc} {cells slots : Nat}
theorem vx_callV (X : Stand p l e R s m args below meth c T locs cells slots) (hexec : p.tables.exec = Jvm.exec) {own C : String} {index : Nat} {y : MethodName} {bytes : ByteArray} {maxL : Nat} {ret : Option FieldType}
    (hown : s.vm.findClass own = some m.cls) (hlink : (Cond.methodLink own index y).before args s = true) (hinst : (Cond.instanceMethod y).before args s = true) (hsel : (Cond.selects C y y).before args s = true)
    (hcode : (Cond.code y bytes maxL ret).before args s = true) (hy : y.cls ≠ "java/lang/invoke/MethodHandle" ∧ y.cls ≠ "java/lang/invoke/VarHandle")
    {W9 : Nat} {Pre : Pt → Array Value → Prop} {Post : Pt → Array Value → Option Value → Pt → Prop} {PostX : Pt → Array Value → Addr → Pt → Prop} (hK : vx_Back l R p e below s args y 3 W9 Pre Post PostX)
    {b : Addr} {cellB : Cell} (hcell : T.heap[b]? = some cellB) (hobj : cellB.vm.isStatics = false) (hcls : s.vm.findClass C = some cellB.cls)
    {g : JFrame} (hg : g.method = m) (hsize : g.locals.size = c.maxLocals) {argsL rest : List Value} (hlen : ∀ sig, parseMethodDescriptor y.desc = some sig → argsL.length = sig.parameters.length)
    (hstack : g.stack = argsL.reverse ++ .ref b :: rest) (hW : 2 * g.monitorRoom + (rest.map fun v => v.category).sum ≤ W9) (hdg : decode c.code g.pc = .ok (.invokevirtual index, 3))
    (hpre : ∀ vm₁, s.WarmedH vm₁ → Pre ⟨T.setVm vm₁, locs, cells, slots⟩ (Value.ref b :: argsL).toArray) :
    (∃ (v : Option Value) (vm₁ : Vm) (B : Pt), s.WarmedH vm₁ ∧ Stand p l e R s m args below meth c B.U B.locs B.cells B.slots ∧ Post ⟨T.setVm vm₁, locs, cells, slots⟩ (Value.ref b :: argsL).toArray v B ∧
      ∀ target, Steps p.tables e below (B.U.setTop { g with pc := g.pc + 3, stack := v.toList ++ rest }) target → Steps p.tables e below (T.setTop g) target) ∨
    (∃ (q : Addr) (vm₁ : Vm) (B : Pt), s.WarmedH vm₁ ∧ Stand p l e R s m args below meth c B.U B.locs B.cells B.slots ∧ PostX ⟨T.setVm vm₁, locs, cells, slots⟩ (Value.ref b :: argsL).toArray q B ∧
      Steps p.tables e below (T.setTop g) ((B.U.setTop { g with stack := rest }).pushFrame (.throwing q))) := by
  obtain ⟨mk, methM, hnamed, hmethM, hstM, habM⟩ := Cond.instanceMethod_spec hinst
  obtain ⟨methM', cM, hmethM', -, -, -, -, -, -, hsigM⟩ := Cond.code_spec hnamed hcode
  cases hmethM.symm.trans hmethM'
  obtain ⟨c2, r2, m2, q1, q2, q3, q4, kP, hkP, hkPi⟩ := Cond.selects_spec hsel
  cases hcls.symm.trans q1
  cases (State.methodFound?_of_named hnamed hy).symm.trans q2
  cases hnamed.symm.trans q3
  have hselP : selectMethod e.platform s.vm cellB.cls mk = .method mk := by rw [Launch.admits_selectMethod X.admits]; exact q4
  obtain ⟨vm₁, X₁, hstep₁⟩ := X.invokevirtual hexec hown hlink hnamed hmethM hstM hkP hkPi hy (a := b) (cell := cellB) hcell
    (fun z h => by rw [h] at hobj; cases hobj) hselP hmethM habM hkP hkPi (g := g) hg (argsL := argsL) (rest := rest) (hlen _ hsigM) hstack hdg
  rcases hK m meth c ⟨T.setVm vm₁, locs, cells, slots⟩ { g with stack := rest } (.invokevirtual index) mk (Value.ref b :: argsL).toArray X₁ hg hsize hdg hW (X₁.named hnamed) (hpre vm₁ X₁.warmed) with ⟨v, B, X', hpost, hsteps⟩ | ⟨q, B, X', hpost, hsteps⟩
  · exact Or.inl ⟨v, vm₁, B, X₁.warmed, X', hpost, fun target h => hstep₁ _ fun acts => by rw [doInvoke_state]; exact hsteps.trans h⟩
  · exact Or.inr ⟨q, vm₁, B, X₁.warmed, X', hpost, hstep₁ _ fun acts => by rw [doInvoke_state]; exact hsteps⟩
theorem vx_callS (X : Stand p l e R s m args below meth c T locs cells slots) (hexec : p.tables.exec = Jvm.exec) {own : String} {index : Nat} {y : MethodName} {bytes : ByteArray} {maxL : Nat} {ret : Option FieldType}
    (hown : s.vm.findClass own = some m.cls) (hlink : (Cond.methodLink own index y).before args s = true) (hstat : (Cond.static y).before args s = true) (hinit : (Cond.initialized y.cls).before args s = true)
    (hcode : (Cond.code y bytes maxL ret).before args s = true) (hy : y.cls ≠ "java/lang/invoke/MethodHandle" ∧ y.cls ≠ "java/lang/invoke/VarHandle")
    {W9 : Nat} {Pre : Pt → Array Value → Prop} {Post : Pt → Array Value → Option Value → Pt → Prop} {PostX : Pt → Array Value → Addr → Pt → Prop} (hK : vx_Back l R p e below s args y 3 W9 Pre Post PostX)
    {g : JFrame} (hg : g.method = m) (hsize : g.locals.size = c.maxLocals) {argsL rest : List Value} (hlen : ∀ sig, parseMethodDescriptor y.desc = some sig → argsL.length = sig.parameters.length)
    (hstack : g.stack = argsL.reverse ++ rest) (hW : 2 * g.monitorRoom + (rest.map fun v => v.category).sum ≤ W9) (hdg : decode c.code g.pc = .ok (.invokestatic index, 3))
    (hpre : ∀ vm₁, s.WarmedH vm₁ → Pre ⟨T.setVm vm₁, locs, cells, slots⟩ argsL.toArray) :
    (∃ (v : Option Value) (vm₁ : Vm) (B : Pt), s.WarmedH vm₁ ∧ Stand p l e R s m args below meth c B.U B.locs B.cells B.slots ∧ Post ⟨T.setVm vm₁, locs, cells, slots⟩ argsL.toArray v B ∧
      ∀ target, Steps p.tables e below (B.U.setTop { g with pc := g.pc + 3, stack := v.toList ++ rest }) target → Steps p.tables e below (T.setTop g) target) ∨
    (∃ (q : Addr) (vm₁ : Vm) (B : Pt), s.WarmedH vm₁ ∧ Stand p l e R s m args below meth c B.U B.locs B.cells B.slots ∧ PostX ⟨T.setVm vm₁, locs, cells, slots⟩ argsL.toArray q B ∧
      Steps p.tables e below (T.setTop g) ((B.U.setTop { g with stack := rest }).pushFrame (.throwing q))) := by
  obtain ⟨mk, hnamed⟩ := Cond.code_named hcode
  obtain ⟨methM, cM, hmethM, -, -, -, -, -, -, hsigM⟩ := Cond.code_spec hnamed hcode
  have hstatic : methM.isStatic = true := Cond.static_spec hnamed hmethM hstat
  obtain ⟨kP, hkP, -⟩ := className_of_methodNamed hnamed
  have hinitP : kP.init = .initialized := Cond.initialized_spec (findClass_of_methodNamed hnamed) hkP hinit
  obtain ⟨vm₁, X₁, hstep₁⟩ := X.invokestatic hexec hown hlink hnamed hmethM hstatic hkP hinitP hy (g := g) hg (argsL := argsL) (rest := rest) (hlen _ hsigM) hstack hdg
  rcases hK m meth c ⟨T.setVm vm₁, locs, cells, slots⟩ { g with stack := rest } (.invokestatic index) mk argsL.toArray X₁ hg hsize hdg hW (X₁.named hnamed) (hpre vm₁ X₁.warmed) with ⟨v, B, X', hpost, hsteps⟩ | ⟨q, B, X', hpost, hsteps⟩
  · exact Or.inl ⟨v, vm₁, B, X₁.warmed, X', hpost, fun target h => hstep₁ _ fun acts => by rw [doInvoke_state]; exact hsteps.trans h⟩
  · exact Or.inr ⟨q, vm₁, B, X₁.warmed, X', hpost, hstep₁ _ fun acts => by rw [doInvoke_state]; exact hsteps⟩
end Calls
theorem vx_cls {s : State} {T : State} {vm₁ : Vm} {E : String} {k : ClassId} (hW : s.WarmedH vm₁) (h : (T.setVm vm₁).vm.findClass E = some k) : s.vm.findClass E = some k := by
  have h1 : vm₁.findClass E = some k := h
  rw [hW.alike.findClass] at h1
  exact h1
/-- the method's frame g, with q thrown over it -/
def vx_W (p : Program) (l : Launch) (e : Env) (R : Room) (s : State) (m : MethodId) (args : Array Value) (below : List Frame) (meth : Method) (c : Code) (H : Heap) (locs : List Loc) (cells slots : Nat) (Q : State → Prop) (g : JFrame) (q : Addr) : Prop :=
  ∀ T : State, T.heap = H → Stand p l e R s m args below meth c T locs cells slots → ∃ t, Steps p.tables e below ((T.setTop g).pushFrame (.throwing q)) t ∧ Q t
def vx_Run (p : Program) (l : Launch) (e : Env) (R : Room) (s : State) (m : MethodId) (args : Array Value) (below : List Frame) (meth : Method) (c : Code) (H : Heap) (locs : List Loc) (cells slots mc ms : Nat) (g : JFrame) (rest : List Value) (Qa : State → Outcome → State → Prop) (XC : String → State → State → Prop) (free : Addr → Prop) : Prop :=
  ∀ T : State, T.heap = H → Stand p l e R s m args below meth c T locs cells slots →
    (∃ (v : Option Value) (st₀ t T' : State) (L : List Loc), st₀.heap = H ∧ Stand p l e R s m args below meth c T' (locs ++ L) (cells + mc) (slots + ms) ∧ (∀ q ∈ L, free q.base) ∧ T'.heap = t.heap ∧ T'.vm = t.vm ∧ Qa st₀ (.returned v) t ∧
      Goes p e below T g T' { g with pc := g.pc + 3, stack := v.toList ++ rest }) ∨
    (∃ (q : Addr) (st₀ t T' : State) (L : List Loc) (E : String) (ce : Cell), st₀.heap = H ∧ Stand p l e R s m args below meth c T' (locs ++ L) (cells + mc) (slots + ms) ∧ (∀ z ∈ L, free z.base) ∧ T'.heap = t.heap ∧ T'.vm = t.vm ∧ XC E st₀ t ∧ t.heap[q]? = some ce ∧ ce.vm = .none ∧ s.vm.findClass E = some ce.cls ∧
      Steps p.tables e below (T.setTop g) ((T'.setTop { g with stack := rest }).pushFrame (.throwing q)))
def vx_X {S : Type} (px : S → Prop) (B : String → S → State → Prop) (A : Nat → Prop) : String → State → State → Prop := fun E st t => ∃ u : S, px u ∧ B E u t ∧ va_F A st t
section Runs
variable {p : Program} {l : Launch} {e : Env} {R : Room} {s : State} {m : MethodId} {args : Array Value} {below : List Frame} {meth : Method} {c : Code} {H : Heap} {locs : List Loc} {cells slots : Nat}
variable {y : MethodName} {bytes cc : ByteArray} {maxL nL mc ms n index : Nat} {ret : Option FieldType} {ws : List Cond} {rm : Room} {Pc : Array Value → State → Prop} {Qc : Array Value → State → Outcome → State → Prop} {XC : String → State → State → Prop} {free : Addr → Prop} {Ts : List Cond} {own C : String} {b : Addr} {As rest : List Value} {g : JFrame}
theorem vx_callBack (cb : CallB R s args own index y bytes maxL ret ws rm mc ms n) (hM : vx_Met l y ws rm Pc Qc XC mc ms free) (hbl : FrameBlind Pc) : vx_Back l R p e below s args y 3 8 (PreOf R mc ms Pc) (PostOf Qc mc ms free) (vx_Post XC mc ms free) := by
  obtain ⟨hrc, hrs, hfr, hlo, hws, hcw, -, hini, -⟩ := cb
  exact vx_back (bytes := bytes) (maxL := maxL) (ret := ret) hM hbl hrc hrs hfr hlo hws hcw (fun a' U hW => word_at hW (Or.inl (by first | rfl | simp [Cond.onTables, Cond.keeps, Cond.steady])) hini)
theorem vx_runV (S : CallFix p m c cc nL s args Ts own) (hM : vx_Met l y ws rm Pc Qc XC mc ms free) (cw : CallW R s args own C index y bytes maxL ret ws rm mc ms n) (hp : PreV s H C b Pc As)
    (hg : g.method = m) (hn : As.length = n) (hsize : g.locals.size = nL) (hstack : g.stack = As.reverse ++ .ref b :: rest) (hW : 2 * g.monitorRoom + (rest.map fun v => v.category).sum ≤ 8) (hdg : decode cc g.pc = .ok (.invokevirtual index, 3)) (hf : cells + mc ≤ R.cells ∧ slots + ms ≤ R.slots) :
    vx_Run p l e R s m args below meth c H locs cells slots mc ms g rest (Qc (Value.ref b :: As).toArray) XC free := by
  have hK : vx_Back l R p e below s args y 3 8 (PreOf R mc ms Pc) (PostOf Qc mc ms free) (vx_Post XC mc ms free) := vx_callBack cw.1 hM hp.1
  obtain ⟨⟨-, -, -, -, -, -, hcode, -, hy, hlen, hl⟩, hin, hse⟩ := cw
  obtain ⟨hx, hb, hml, ho, -⟩ := S
  obtain ⟨-, ⟨cellB, hcB, hoB, hclB⟩, hPc⟩ := hp
  intro T hT X
  rcases vx_callV X hx (C := C) (bytes := bytes) (maxL := maxL) (ret := ret) ho hl hin hse hcode hy hK (by rw [hT]; exact hcB) hoB hclB hg (hsize.trans hml.symm) (argsL := As) (rest := rest) (fun sig h => hn.trans (hlen sig h)) hstack hW (by rw [hb]; exact hdg)
    (fun vm₁ hW₁ => ⟨hf.1, hf.2, hPc (T.setVm vm₁) hT hW₁⟩) with ⟨v, vm₁, ⟨U', l2, c2, s2⟩, hW₁, X', ⟨g', mk, t, L, e1, e2, hq, h1, hL, h2, h3⟩, st⟩ | ⟨q, vm₁, ⟨U', l2, c2, s2⟩, hW₁, X', ⟨g', mk, t, L, E, ce, e1, e2, hq, hce, hcv, hcl, h1, hL, h2, h3⟩, st⟩
  · dsimp only [Pt.U, Pt.locs, Pt.cells, Pt.slots] at X' e1 e2 h1 h2 h3 st
    subst h1; subst h2; subst h3
    exact Or.inl ⟨v, (T.setVm vm₁).calling g' mk (Value.ref b :: As).toArray, t, U', L, hT, X', hL, e1, e2, hq, st⟩
  · dsimp only [Pt.U, Pt.locs, Pt.cells, Pt.slots] at X' e1 e2 h1 h2 h3 st hcl
    subst h1; subst h2; subst h3
    exact Or.inr ⟨q, (T.setVm vm₁).calling g' mk (Value.ref b :: As).toArray, t, U', L, E, ce, hT, X', hL, e1, e2, hq, hce, hcv, vx_cls hW₁ hcl, st⟩
theorem vx_runS (S : CallFix p m c cc nL s args Ts own) (hM : vx_Met l y ws rm Pc Qc XC mc ms free) (cw : CallB R s args own index y bytes maxL ret ws rm mc ms n ∧ (Cond.static y).before args s = true) (hp : PreS s H Pc As)
    (hg : g.method = m) (hn : As.length = n) (hsize : g.locals.size = nL) (hstack : g.stack = As.reverse ++ rest) (hW : 2 * g.monitorRoom + (rest.map fun v => v.category).sum ≤ 8) (hdg : decode cc g.pc = .ok (.invokestatic index, 3)) (hf : cells + mc ≤ R.cells ∧ slots + ms ≤ R.slots) :
    vx_Run p l e R s m args below meth c H locs cells slots mc ms g rest (Qc As.toArray) XC free := by
  have hK : vx_Back l R p e below s args y 3 8 (PreOf R mc ms Pc) (PostOf Qc mc ms free) (vx_Post XC mc ms free) := vx_callBack cw.1 hM hp.1
  obtain ⟨⟨-, -, -, -, -, -, hcode, hini, hy, hlen, hl⟩, hstt⟩ := cw
  obtain ⟨hx, hb, hml, ho, -⟩ := S
  intro T hT X
  rcases vx_callS X hx (bytes := bytes) (maxL := maxL) (ret := ret) ho hl hstt hini hcode hy hK hg (hsize.trans hml.symm) (argsL := As) (rest := rest) (fun sig h => hn.trans (hlen sig h)) hstack hW (by rw [hb]; exact hdg)
    (fun vm₁ hW₁ => ⟨hf.1, hf.2, hp.2 (T.setVm vm₁) hT hW₁⟩) with ⟨v, vm₁, ⟨U', l2, c2, s2⟩, hW₁, X', ⟨g', mk, t, L, e1, e2, hq, h1, hL, h2, h3⟩, st⟩ | ⟨q, vm₁, ⟨U', l2, c2, s2⟩, hW₁, X', ⟨g', mk, t, L, E, ce, e1, e2, hq, hce, hcv, hcl, h1, hL, h2, h3⟩, st⟩
  · dsimp only [Pt.U, Pt.locs, Pt.cells, Pt.slots] at X' e1 e2 h1 h2 h3 st
    subst h1; subst h2; subst h3
    exact Or.inl ⟨v, (T.setVm vm₁).calling g' mk As.toArray, t, U', L, hT, X', hL, e1, e2, hq, st⟩
  · dsimp only [Pt.U, Pt.locs, Pt.cells, Pt.slots] at X' e1 e2 h1 h2 h3 st hcl
    subst h1; subst h2; subst h3
    exact Or.inr ⟨q, (T.setVm vm₁).calling g' mk As.toArray, t, U', L, E, ce, hT, X', hL, e1, e2, hq, hce, hcv, vx_cls hW₁ hcl, st⟩
end Runs
section Rows
variable {p : Program} {l : Launch} {e : Env} {R : Room} {s : State} {m : MethodId} {args : Array Value} {below : List Frame} {meth : Method} {c : Code} {H : Heap} {locs : List Loc} {cells slots : Nat} {Q : State → Prop}
variable {mc ms : Nat} {free : Addr → Prop} {A0 A1 : Nat → Prop} {H0 : Heap} {a : Array Value} {pc : Nat} {ls : Array Slot} {st0 rest : List Value}
theorem vx_keep {st₀ t T' : State} {L : List Loc} (h0 : st₀.heap = H) (e1 : T'.heap = t.heap) (hS : va_S A0 H0 H locs) (hA : ∀ q, q < H.size → A1 q → A0 q) (hf : ∀ q, free q → A0 q) (hL : ∀ q ∈ L, free q.base) (hF : va_F A1 st₀ t) :
    H.size ≤ T'.heap.size ∧ (∀ q : Nat, q < H.size → ¬ A1 q → T'.heap[q]? = H[q]?) ∧ va_S A0 H0 T'.heap (locs ++ L) := by
  obtain ⟨hz, hk⟩ := hF
  rw [h0] at hz hk
  exact ⟨by rw [e1]; exact hz, fun q h1 h2 => by rw [e1]; exact hk q h1 h2,
    ⟨Nat.le_trans hS.1 (by rw [e1]; exact hz), fun q h1 h2 => by rw [e1, hk q (Nat.lt_of_lt_of_le h1 hS.1) (fun z => h2 (hA q (Nat.lt_of_lt_of_le h1 hS.1) z))]; exact hS.2.1 q h1 h2, fun q hq => by
      rcases List.mem_append.mp hq with h | h
      · exact hS.2.2 q h
      · exact hf _ (hL q h)⟩⟩
theorem vx_calli {S SX : Type} {post : Int32 → S → Prop} {px : SX → Prop} {B : S → State → Prop} {BX : String → SX → State → Prop} {AX : Nat → Prop} (hr : vx_Run p l e R s m args below meth c H locs cells slots mc ms (F0 m pc ls st0) rest (va_Qi post B A1 a) (vx_X px BX AX) free) (hS : va_S A0 H0 H locs) (hA : ∀ q, q < H.size → A1 q → A0 q) (hf : ∀ q, free q → A0 q) (hAX : ∀ q, q < H.size → AX q → A0 q)
    (kx : ∀ (E : String) (ce : Cell) (q9 : Addr) (u : SX) (t : State) (H1 : Heap) (locs1 : List Loc), t.heap = H1 → s.vm.Alike t.vm → px u → BX E u t → H.size ≤ H1.size → (∀ q : Nat, q < H.size → ¬ AX q → H1[q]? = H[q]?) → va_S A0 H0 H1 locs1 → H1[q9]? = some ce → ce.vm = .none → s.vm.findClass E = some ce.cls → vx_W p l e R s m args below meth c H1 locs1 (cells + mc) (slots + ms) Q (F0 m pc ls rest) q9)
    (kk : ∀ (r : Int32) (u : S) (t : State) (H1 : Heap) (locs1 : List Loc), t.heap = H1 → s.vm.Alike t.vm → post r u → B u t → H.size ≤ H1.size → (∀ q : Nat, q < H.size → ¬ A1 q → H1[q]? = H[q]?) → va_S A0 H0 H1 locs1 → W p l e R s m args below meth c H1 locs1 (cells + mc) (slots + ms) Q (F0 m (pc + 3) ls (.int r :: rest))) : W p l e R s m args below meth c H locs cells slots Q (F0 m pc ls st0) := by
  intro T hT X
  rcases hr T hT X with ⟨v, st₀, t, T', L, h0, X', hL, e1, e2, ⟨⟨r, u, hv, hp, hb⟩, hF⟩, st⟩ | ⟨q, st₀, t, T', L, E, ce, h0, X', hL, e1, e2, ⟨u, hp, hb, hF⟩, hce, hcv, hcl, st⟩
  · cases hv
    obtain ⟨k1, k2, k3⟩ := vx_keep h0 e1 hS hA hf hL hF
    obtain ⟨t2, a1, b1⟩ := kk r u t T'.heap (locs ++ L) e1.symm (by rw [← e2]; exact X'.warmed.alike) hp hb k1 k2 k3 T' rfl X'
    exact ⟨t2, st t2 a1, b1⟩
  · obtain ⟨k1, k2, k3⟩ := vx_keep h0 e1 hS hAX hf hL hF
    obtain ⟨t2, a1, b1⟩ := kx E ce q u t T'.heap (locs ++ L) e1.symm (by rw [← e2]; exact X'.warmed.alike) hp hb k1 k2 k3 (by rw [e1]; exact hce) hcv hcl T' rfl X'
    exact ⟨t2, st.trans a1, b1⟩
theorem vx_calll {S SX : Type} {post : Int64 → S → Prop} {px : SX → Prop} {B : S → State → Prop} {BX : String → SX → State → Prop} {AX : Nat → Prop} (hr : vx_Run p l e R s m args below meth c H locs cells slots mc ms (F0 m pc ls st0) rest (va_Ql post B A1 a) (vx_X px BX AX) free) (hS : va_S A0 H0 H locs) (hA : ∀ q, q < H.size → A1 q → A0 q) (hf : ∀ q, free q → A0 q) (hAX : ∀ q, q < H.size → AX q → A0 q)
    (kx : ∀ (E : String) (ce : Cell) (q9 : Addr) (u : SX) (t : State) (H1 : Heap) (locs1 : List Loc), t.heap = H1 → s.vm.Alike t.vm → px u → BX E u t → H.size ≤ H1.size → (∀ q : Nat, q < H.size → ¬ AX q → H1[q]? = H[q]?) → va_S A0 H0 H1 locs1 → H1[q9]? = some ce → ce.vm = .none → s.vm.findClass E = some ce.cls → vx_W p l e R s m args below meth c H1 locs1 (cells + mc) (slots + ms) Q (F0 m pc ls rest) q9)
    (kk : ∀ (r : Int64) (u : S) (t : State) (H1 : Heap) (locs1 : List Loc), t.heap = H1 → s.vm.Alike t.vm → post r u → B u t → H.size ≤ H1.size → (∀ q : Nat, q < H.size → ¬ A1 q → H1[q]? = H[q]?) → va_S A0 H0 H1 locs1 → W p l e R s m args below meth c H1 locs1 (cells + mc) (slots + ms) Q (F0 m (pc + 3) ls (.long r :: rest))) : W p l e R s m args below meth c H locs cells slots Q (F0 m pc ls st0) := by
  intro T hT X
  rcases hr T hT X with ⟨v, st₀, t, T', L, h0, X', hL, e1, e2, ⟨⟨r, u, hv, hp, hb⟩, hF⟩, st⟩ | ⟨q, st₀, t, T', L, E, ce, h0, X', hL, e1, e2, ⟨u, hp, hb, hF⟩, hce, hcv, hcl, st⟩
  · cases hv
    obtain ⟨k1, k2, k3⟩ := vx_keep h0 e1 hS hA hf hL hF
    obtain ⟨t2, a1, b1⟩ := kk r u t T'.heap (locs ++ L) e1.symm (by rw [← e2]; exact X'.warmed.alike) hp hb k1 k2 k3 T' rfl X'
    exact ⟨t2, st t2 a1, b1⟩
  · obtain ⟨k1, k2, k3⟩ := vx_keep h0 e1 hS hAX hf hL hF
    obtain ⟨t2, a1, b1⟩ := kx E ce q u t T'.heap (locs ++ L) e1.symm (by rw [← e2]; exact X'.warmed.alike) hp hb k1 k2 k3 (by rw [e1]; exact hce) hcv hcl T' rfl X'
    exact ⟨t2, st.trans a1, b1⟩
theorem vx_callf {S SX : Type} {post : UInt32 → S → Prop} {px : SX → Prop} {B : S → State → Prop} {BX : String → SX → State → Prop} {AX : Nat → Prop} (hr : vx_Run p l e R s m args below meth c H locs cells slots mc ms (F0 m pc ls st0) rest (va_Qf post B A1 a) (vx_X px BX AX) free) (hS : va_S A0 H0 H locs) (hA : ∀ q, q < H.size → A1 q → A0 q) (hf : ∀ q, free q → A0 q) (hAX : ∀ q, q < H.size → AX q → A0 q)
    (kx : ∀ (E : String) (ce : Cell) (q9 : Addr) (u : SX) (t : State) (H1 : Heap) (locs1 : List Loc), t.heap = H1 → s.vm.Alike t.vm → px u → BX E u t → H.size ≤ H1.size → (∀ q : Nat, q < H.size → ¬ AX q → H1[q]? = H[q]?) → va_S A0 H0 H1 locs1 → H1[q9]? = some ce → ce.vm = .none → s.vm.findClass E = some ce.cls → vx_W p l e R s m args below meth c H1 locs1 (cells + mc) (slots + ms) Q (F0 m pc ls rest) q9)
    (kk : ∀ (r : UInt32) (u : S) (t : State) (H1 : Heap) (locs1 : List Loc), t.heap = H1 → s.vm.Alike t.vm → post r u → B u t → H.size ≤ H1.size → (∀ q : Nat, q < H.size → ¬ A1 q → H1[q]? = H[q]?) → va_S A0 H0 H1 locs1 → W p l e R s m args below meth c H1 locs1 (cells + mc) (slots + ms) Q (F0 m (pc + 3) ls (.float r :: rest))) : W p l e R s m args below meth c H locs cells slots Q (F0 m pc ls st0) := by
  intro T hT X
  rcases hr T hT X with ⟨v, st₀, t, T', L, h0, X', hL, e1, e2, ⟨⟨r, u, hv, hp, hb⟩, hF⟩, st⟩ | ⟨q, st₀, t, T', L, E, ce, h0, X', hL, e1, e2, ⟨u, hp, hb, hF⟩, hce, hcv, hcl, st⟩
  · cases hv
    obtain ⟨k1, k2, k3⟩ := vx_keep h0 e1 hS hA hf hL hF
    obtain ⟨t2, a1, b1⟩ := kk r u t T'.heap (locs ++ L) e1.symm (by rw [← e2]; exact X'.warmed.alike) hp hb k1 k2 k3 T' rfl X'
    exact ⟨t2, st t2 a1, b1⟩
  · obtain ⟨k1, k2, k3⟩ := vx_keep h0 e1 hS hAX hf hL hF
    obtain ⟨t2, a1, b1⟩ := kx E ce q u t T'.heap (locs ++ L) e1.symm (by rw [← e2]; exact X'.warmed.alike) hp hb k1 k2 k3 (by rw [e1]; exact hce) hcv hcl T' rfl X'
    exact ⟨t2, st.trans a1, b1⟩
theorem vx_calld {S SX : Type} {post : UInt64 → S → Prop} {px : SX → Prop} {B : S → State → Prop} {BX : String → SX → State → Prop} {AX : Nat → Prop} (hr : vx_Run p l e R s m args below meth c H locs cells slots mc ms (F0 m pc ls st0) rest (va_Qd post B A1 a) (vx_X px BX AX) free) (hS : va_S A0 H0 H locs) (hA : ∀ q, q < H.size → A1 q → A0 q) (hf : ∀ q, free q → A0 q) (hAX : ∀ q, q < H.size → AX q → A0 q)
    (kx : ∀ (E : String) (ce : Cell) (q9 : Addr) (u : SX) (t : State) (H1 : Heap) (locs1 : List Loc), t.heap = H1 → s.vm.Alike t.vm → px u → BX E u t → H.size ≤ H1.size → (∀ q : Nat, q < H.size → ¬ AX q → H1[q]? = H[q]?) → va_S A0 H0 H1 locs1 → H1[q9]? = some ce → ce.vm = .none → s.vm.findClass E = some ce.cls → vx_W p l e R s m args below meth c H1 locs1 (cells + mc) (slots + ms) Q (F0 m pc ls rest) q9)
    (kk : ∀ (r : UInt64) (u : S) (t : State) (H1 : Heap) (locs1 : List Loc), t.heap = H1 → s.vm.Alike t.vm → post r u → B u t → H.size ≤ H1.size → (∀ q : Nat, q < H.size → ¬ A1 q → H1[q]? = H[q]?) → va_S A0 H0 H1 locs1 → W p l e R s m args below meth c H1 locs1 (cells + mc) (slots + ms) Q (F0 m (pc + 3) ls (.double r :: rest))) : W p l e R s m args below meth c H locs cells slots Q (F0 m pc ls st0) := by
  intro T hT X
  rcases hr T hT X with ⟨v, st₀, t, T', L, h0, X', hL, e1, e2, ⟨⟨r, u, hv, hp, hb⟩, hF⟩, st⟩ | ⟨q, st₀, t, T', L, E, ce, h0, X', hL, e1, e2, ⟨u, hp, hb, hF⟩, hce, hcv, hcl, st⟩
  · cases hv
    obtain ⟨k1, k2, k3⟩ := vx_keep h0 e1 hS hA hf hL hF
    obtain ⟨t2, a1, b1⟩ := kk r u t T'.heap (locs ++ L) e1.symm (by rw [← e2]; exact X'.warmed.alike) hp hb k1 k2 k3 T' rfl X'
    exact ⟨t2, st t2 a1, b1⟩
  · obtain ⟨k1, k2, k3⟩ := vx_keep h0 e1 hS hAX hf hL hF
    obtain ⟨t2, a1, b1⟩ := kx E ce q u t T'.heap (locs ++ L) e1.symm (by rw [← e2]; exact X'.warmed.alike) hp hb k1 k2 k3 (by rw [e1]; exact hce) hcv hcl T' rfl X'
    exact ⟨t2, st.trans a1, b1⟩
theorem vx_callv {S SX : Type} {post : S → Prop} {px : SX → Prop} {B : S → State → Prop} {BX : String → SX → State → Prop} {AX : Nat → Prop} (hr : vx_Run p l e R s m args below meth c H locs cells slots mc ms (F0 m pc ls st0) rest (va_Qv post B A1 a) (vx_X px BX AX) free) (hS : va_S A0 H0 H locs) (hA : ∀ q, q < H.size → A1 q → A0 q) (hf : ∀ q, free q → A0 q) (hAX : ∀ q, q < H.size → AX q → A0 q)
    (kx : ∀ (E : String) (ce : Cell) (q9 : Addr) (u : SX) (t : State) (H1 : Heap) (locs1 : List Loc), t.heap = H1 → s.vm.Alike t.vm → px u → BX E u t → H.size ≤ H1.size → (∀ q : Nat, q < H.size → ¬ AX q → H1[q]? = H[q]?) → va_S A0 H0 H1 locs1 → H1[q9]? = some ce → ce.vm = .none → s.vm.findClass E = some ce.cls → vx_W p l e R s m args below meth c H1 locs1 (cells + mc) (slots + ms) Q (F0 m pc ls rest) q9)
    (kk : ∀ (u : S) (t : State) (H1 : Heap) (locs1 : List Loc), t.heap = H1 → s.vm.Alike t.vm → post u → B u t → H.size ≤ H1.size → (∀ q : Nat, q < H.size → ¬ A1 q → H1[q]? = H[q]?) → va_S A0 H0 H1 locs1 → W p l e R s m args below meth c H1 locs1 (cells + mc) (slots + ms) Q (F0 m (pc + 3) ls (rest))) : W p l e R s m args below meth c H locs cells slots Q (F0 m pc ls st0) := by
  intro T hT X
  rcases hr T hT X with ⟨v, st₀, t, T', L, h0, X', hL, e1, e2, ⟨⟨u, hv, hp, hb⟩, hF⟩, st⟩ | ⟨q, st₀, t, T', L, E, ce, h0, X', hL, e1, e2, ⟨u, hp, hb, hF⟩, hce, hcv, hcl, st⟩
  · cases hv
    obtain ⟨k1, k2, k3⟩ := vx_keep h0 e1 hS hA hf hL hF
    obtain ⟨t2, a1, b1⟩ := kk u t T'.heap (locs ++ L) e1.symm (by rw [← e2]; exact X'.warmed.alike) hp hb k1 k2 k3 T' rfl X'
    exact ⟨t2, st t2 a1, b1⟩
  · obtain ⟨k1, k2, k3⟩ := vx_keep h0 e1 hS hAX hf hL hF
    obtain ⟨t2, a1, b1⟩ := kx E ce q u t T'.heap (locs ++ L) e1.symm (by rw [← e2]; exact X'.warmed.alike) hp hb k1 k2 k3 (by rw [e1]; exact hce) hcv hcl T' rfl X'
    exact ⟨t2, st.trans a1, b1⟩
/-- caught by the row x of this method's table; the rows ahead don't take it -/
theorem vx_catch {own name : String} {E : String} {ce : Cell} {q : Addr} (hown : s.vm.findClass own = some m.cls) (pre : List ExceptionTableEntry) (x : ExceptionTableEntry) (suf : List ExceptionTableEntry) (hsplit : c.exceptionTable.toList = pre ++ x :: suf)
    (hpass : ∀ z ∈ pre, covers z pc = false ∨ (z.catchType ≠ 0 ∧ ∃ nm : String, (Cond.classLink own z.catchType nm).before args s = true ∧ va_Nc E nm s)) (hx : covers x pc = true) (h0 : x.catchType ≠ 0)
    (hlink : (Cond.classLink own x.catchType name).before args s = true) (hcast : (Cond.castable E name).before args s = true) (hcell : H[q]? = some ce) (hv : ce.vm = .none) (hcl : s.vm.findClass E = some ce.cls)
    (kk : W p l e R s m args below meth c H locs cells slots Q (F0 m x.handlerPc ls [.ref q])) : vx_W p l e R s m args below meth c H locs cells slots Q (F0 m pc ls rest) q := by
  intro T hT X
  have hpl : e.platform.magicAccessors = ({} : Platform).magicAccessors := by rw [X.admits.platform]
  obtain ⟨c3, c4, hc3, hc4, hasg⟩ := Cond.castable_spec hcast
  cases Option.some.inj (hc3.symm.trans hcl)
  obtain ⟨c5, hc5, hcl5⟩ := Cond.classLink_spec hown hlink e.platform hpl
  cases Option.some.inj (hc4.symm.trans hc5)
  obtain ⟨vm', X', st⟩ := X.thenCaughtThrough q (g := F0 m pc ls rest) rfl (Steps.refl _) (by rw [hT]; exact hcell) (by rw [hv]; rfl) (by obtain ⟨k9, h9, -⟩ := Vm.findClass_spec hcl; exact ⟨k9, h9⟩) pre x suf hsplit
    (fun z hz => by
      rcases hpass z hz with h | ⟨hz0, nm, hl1, hn1⟩
      · exact Or.inl h
      · obtain ⟨c6, hc6, hcl6⟩ := Cond.classLink_spec hown hl1 e.platform hpl
        obtain ⟨a8, b8, h1, h2, h3⟩ := hn1
        cases Option.some.inj (h1.symm.trans hcl)
        cases Option.some.inj (h2.symm.trans hc6)
        exact Or.inr ⟨hz0, _, hcl6, h3⟩) hx (Or.inr ⟨h0, c4, hcl5, hasg⟩)
  obtain ⟨t, a1, b1⟩ := kk (T.setVm vm') hT X'
  exact ⟨t, st.trans a1, b1⟩
end Rows
section Ends
variable {p : Program} {l : Launch} {e : Env} {R : Room} {s : State} {m : MethodId} {args : Array Value} {below : List Frame} {meth : Method} {c : Code} {H : Heap} {locs : List Loc} {cells slots : Nat} {Q : State → Prop}
variable {mc ms : Nat} {free : Addr → Prop} {A0 A1 : Nat → Prop} {H0 : Heap} {a : Array Value} {ls : Array Slot} {st0 rest : List Value}
variable {Qc : Array Value → State → Outcome → State → Prop} {XC : String → State → State → Prop}
/-- what a body that may throw owes at its end -/
def vx_MQ (below : List Frame) (Qc : Array Value → State → Outcome → State → Prop) (XC : String → State → State → Prop) (a : Array Value) (s : State) (mc ms : Nat) (free : Addr → Prop) : State → Prop := fun t =>
  ∃ o, t.status = .running ∧ Ended t below o ∧ vx_Q Qc XC mc ms free a s o t
theorem vx_ret {g : JFrame} {mc ms : Nat} (k : W p l e R s m args below meth c H locs cells slots (MQ below Qc args s mc ms free) g) : W p l e R s m args below meth c H locs cells slots (vx_MQ below Qc XC args s mc ms free) g := by
  intro T hT X
  obtain ⟨t, a1, o, b1, b2, b3, b4⟩ := k T hT X
  exact ⟨t, a1, o, b1, b2, Or.inl ⟨b3, b4⟩⟩
/-- not caught here: it goes on to the caller -/
theorem vx_widen {g : JFrame} {q : Addr} {k n : Nat} (h1 : cells ≤ k) (h2 : slots ≤ n) (kk : vx_W p l e R s m args below meth c H locs k n Q g q) : vx_W p l e R s m args below meth c H locs cells slots Q g q := fun T hT X => kk T hT (stand_widen X h1 h2)
theorem vx_out {pc : Nat} {E : String} {ce : Cell} {q : Addr} {mc ms : Nat} (hout : ∀ x ∈ c.exceptionTable.toList, covers x pc = false) (hlocks : meth.locks = false) (hcell : H[q]? = some ce) (hv : ce.vm = .none) (hcl : s.vm.findClass E = some ce.cls)
    (hx : ∀ t : State, t.heap = H → s.vm.Alike t.vm → XC E s t) (hf : ∀ z ∈ locs, free z.base) (hc : cells ≤ mc) (hs : slots ≤ ms) :
    vx_W p l e R s m args below meth c H locs cells slots (vx_MQ below Qc XC args s mc ms free) (F0 m pc ls rest) q := by
  intro T hT X
  obtain ⟨st1, hrun, hend, hW, hsm⟩ := X.leaveThrown q (g := F0 m pc ls rest) rfl rfl rfl hout hlocks
  have hcell9 : (T.setFrames (.throwing q :: below)).heap[q]? = some ce := by
    show T.heap[q]? = some ce
    rw [hT]; exact hcell
  exact ⟨_, st1, .threw q, hrun, hend, Or.inr ⟨q, rfl, E, ce, locs, hx _ hT hW.alike, hcell9, hv, hcl, hW, hsm.mono hc hs, hf⟩⟩
theorem vx_frame {U : State} {k n : Nat} (h : s.sameButNew ({ U with vm := s.vm } : State) locs k n) : s.heap.size ≤ U.heap.size ∧ ∀ q : Nat, q < s.heap.size → (∀ z ∈ locs, z.base ≠ q) → U.heap[q]? = s.heap[q]? := by
  obtain ⟨-, h2, -, -, -, h6⟩ := h
  refine ⟨h2, fun q hq hz => ?_⟩
  obtain ⟨c9, e1, e2, e3, e4⟩ := h6 q _ (Array.getElem?_eq_getElem hq)
  have hs : c9.slots = (s.heap[q]).slots := Array.ext_getElem? fun i => e4 i fun hm => hz _ hm rfl
  have h9 : c9 = s.heap[q] := by
    rw [hs] at e2
    exact e2
  have e5 : U.heap[q]? = some c9 := e1
  rw [e5, h9, Array.getElem?_eq_getElem hq]
/-- the words of a throw but the four that speak of the heap -/
def vx_no (w : Cond) : Bool := decide (w ≠ .isRef (.static Bundle.tN "UNASSIGNED_STACK" Bundle.steD)) && decide (w ≠ .isRef (.static Bundle.tN "SUPPRESSED_SENTINEL" Bundle.listD)) && decide (w ≠ .laysStatic Bundle.tN "UNASSIGNED_STACK" Bundle.steD) && decide (w ≠ .laysStatic Bundle.tN "SUPPRESSED_SENTINEL" Bundle.listD)
def vx_at0 (own : String) (ic : Nat) (X : String) (names : List String) : List Cond := (Bundle.ownAtoms0 own ic X names).filter vx_no
def vx_atS (own : String) (ic : Nat) (X : String) (names : List String) : List Cond := (Bundle.ownAtoms own ic X names).filter vx_no
/-- a word that the tables alone decide, or a good one -/
def vx_ot (w : Cond) : Bool := w.onTables || goodWord w
theorem vx_ot_at {args a' : Array Value} {s U : State} {w : Cond} (hW : s.WarmedH U.vm) (hvm : s.vm = U.vm) (hg : vx_ot w = true) (h : w.before args s = true) : w.before a' U = true := by
  simp only [vx_ot, Bool.or_eq_true] at hg
  rcases hg with hg | hg
  · exact va_tabs hg hvm h
  · exact word_at hW (good_of_word hg) h
/-- a list's words: the good ones out of the method's own list, the others by premises of their own -/
theorem vx_hat {args : Array Value} {s : State} {L B : List Cond} (h1 : ∀ w ∈ L.filter goodWord, w.before args s = true) (h2 : ∀ w ∈ L.filter (fun w => !goodWord w), w ∈ B) (h3 : ∀ w ∈ B, w.before args s = true) : ∀ w ∈ L, w.before args s = true := by
  intro w hw
  by_cases g : goodWord w = true
  · exact h1 w (List.mem_filter.mpr ⟨hw, g⟩)
  · refine h3 w (h2 w (List.mem_filter.mpr ⟨hw, ?_⟩))
    show (!goodWord w) = true
    cases hgw : goodWord w
    · rfl
    · exact absurd hgw g
theorem vx_c {args : Array Value} {s : State} {w : Cond} {B : List Cond} (h : w.before args s = true) (t : ∀ w ∈ B, w.before args s = true) : ∀ w' ∈ w :: B, w'.before args s = true := fun w' h' => (List.mem_cons.mp h').elim (fun e => by rw [e]; exact h) (t w')
theorem vx_n {args : Array Value} {s : State} : ∀ w ∈ ([] : List Cond), w.before args s = true := fun _ h => nomatch h
theorem vx_own {args : Array Value} {s : State} {L : List Cond} (h1 : ∀ w ∈ L.filter vx_no, w.before args s = true)
    (hU : (Cond.isRef (.static Bundle.tN "UNASSIGNED_STACK" Bundle.steD)).before args s = true) (hN : (Cond.isRef (.static Bundle.tN "SUPPRESSED_SENTINEL" Bundle.listD)).before args s = true)
    (lU : (Cond.laysStatic Bundle.tN "UNASSIGNED_STACK" Bundle.steD).before args s = true) (lN : (Cond.laysStatic Bundle.tN "SUPPRESSED_SENTINEL" Bundle.listD).before args s = true) : ∀ w ∈ L, w.before args s = true := by
  intro w hw
  by_cases e1 : w = .isRef (.static Bundle.tN "UNASSIGNED_STACK" Bundle.steD)
  · rw [e1]; exact hU
  · by_cases e2 : w = .isRef (.static Bundle.tN "SUPPRESSED_SENTINEL" Bundle.listD)
    · rw [e2]; exact hN
    · by_cases e3 : w = .laysStatic Bundle.tN "UNASSIGNED_STACK" Bundle.steD
      · rw [e3]; exact lU
      · by_cases e4 : w = .laysStatic Bundle.tN "SUPPRESSED_SENTINEL" Bundle.listD
        · rw [e4]; exact lN
        · exact h1 w (List.mem_filter.mpr ⟨hw, by unfold vx_no; rw [decide_eq_true e1, decide_eq_true e2, decide_eq_true e3, decide_eq_true e4]; rfl⟩)
/-- where a static field lies, its class's statics cell in H -/
def vx_L (C n d : String) (A : Nat → Prop) (U : State) (H : Heap) : Prop := ∃ (c : ClassId) (k : Class) (i : Nat) (f : Field) (a : Nat) (cell : Cell), U.vm.findClass C = some c ∧ U.fieldFound? C n d = some (c, k, i, f) ∧ f.isStatic = true ∧ k.statics = some a ∧ H[a]? = some cell ∧ cell.vm.isStatics = true ∧ cell.cls = c ∧ f.slot < cell.slots.size ∧ k.staticTypes[f.slot]? = some f.type ∧ ¬ A a
theorem vx_L.moved {C n d : String} {A : Nat → Prop} {u U : State} {H : Heap} (hvm : u.vm.Alike U.vm) (h : vx_L C n d A u H) : vx_L C n d A U H := by
  obtain ⟨c, k, i, f, a, cell, h1, h2, h3, h4, h5, h6, h7, h8, h9, h10⟩ := h
  obtain ⟨k', hi', he⟩ := State.fieldFound?_setVm hvm h2
  exact ⟨c, k', i, f, a, cell, by rw [hvm.findClass]; exact h1, hi', h3, by rw [he]; exact h4, h5, h6, h7, h8, by rw [he]; exact h9, h10⟩
theorem vx_L.kept {C n d : String} {A : Nat → Prop} {U : State} {H H1 : Heap} (h : vx_L C n d A U H) (hq : ∀ a : Nat, a < H.size → ¬ A a → H1[a]? = H[a]?) : vx_L C n d A U H1 := by
  obtain ⟨c, k, i, f, a, cell, h1, h2, h3, h4, h5, h6, h7, h8, h9, h10⟩ := h
  exact ⟨c, k, i, f, a, cell, h1, h2, h3, h4, by rw [hq a (Array.getElem?_eq_some_iff.mp h5).1 h10]; exact h5, h6, h7, h8, h9, h10⟩
theorem vx_L.narrow {C n d : String} {A B : Nat → Prop} {U : State} {H : Heap} (h : vx_L C n d A U H) (hAB : ∀ q, B q → A q) : vx_L C n d B U H := by
  obtain ⟨c, k, i, f, a, cell, h1, h2, h3, h4, h5, h6, h7, h8, h9, h10⟩ := h
  exact ⟨c, k, i, f, a, cell, h1, h2, h3, h4, h5, h6, h7, h8, h9, fun z => h10 (hAB _ z)⟩
theorem vx_L.word {C n d : String} {A : Nat → Prop} {s : State} {args : Array Value} (h : vx_L C n d A s s.heap) : (Cond.laysStatic C n d).before args s = true := by
  obtain ⟨c, k, i, f, a, cell, h1, h2, h3, h4, h5, h6, h7, h8, h9, -⟩ := h
  show (Cond.laysStatic C n d).holds args s none s [] = true
  exact Cond.laysStatic_of h1 h2 h3 h4 h5 h6 h7 h8 h9
/-- .. and what it holds: null or some reference -/
def vx_Zq (C n d : String) (A : Nat → Prop) (U : State) (H : Heap) : Prop := va_Zq C n d A U H ∧ vx_L C n d A U H
theorem vx_Zq.moved {C n d : String} {A : Nat → Prop} {u U : State} {H : Heap} (hvm : u.vm.Alike U.vm) (h : vx_Zq C n d A u H) : vx_Zq C n d A U H := ⟨va_Zq.moved hvm h.1, vx_L.moved hvm h.2⟩
theorem vx_Zq.kept {C n d : String} {A : Nat → Prop} {U : State} {H H1 : Heap} (h : vx_Zq C n d A U H) (hq : ∀ a : Nat, a < H.size → ¬ A a → H1[a]? = H[a]?) : vx_Zq C n d A U H1 := ⟨va_Zq.kept h.1 hq, vx_L.kept h.2 hq⟩
theorem vx_Zq.narrow {C n d : String} {A B : Nat → Prop} {U : State} {H : Heap} (h : vx_Zq C n d A U H) (hAB : ∀ q, B q → A q) : vx_Zq C n d B U H := ⟨va_Zq.narrow h.1 hAB, vx_L.narrow h.2 hAB⟩
theorem vx_Zqof {args : Array Value} {s : State} {C n d : String} {A : Nat → Prop} (hl : (Cond.laysStatic C n d).before args s = true) (hini : (Cond.initialized C).before args s = true) (h : (Cond.isRef (.static C n d)).before args s = true) (hA : ∀ a : Nat, a < s.heap.size → ¬ A a) : vx_Zq C n d A s s.heap := by
  refine ⟨va_Zqof hl hini h hA, ?_⟩
  obtain ⟨c, k, i, f, a, cell, h1, h2, h3, h4, h5, h6, h7, h8, h9⟩ := Cond.laysStatic_spec hl
  exact ⟨c, k, i, f, a, cell, h1, h2, h3, h4, h5, h6, h7, h8, h9, hA a (Array.getElem?_eq_some_iff.mp h5).1⟩
theorem vx_isRef {C n d : String} {v : Value} {A : Nat → Prop} {s : State} {args : Array Value} (h : va_Z C n d v A s s.heap) (hv : v.isRef = true) : (Cond.isRef (.static C n d)).before args s = true := by
  obtain ⟨cf, kf, fi, f, a, cell, h1, h2, h3, h4, h5, h6, h7, -⟩ := h
  have he : (Term.static C n d).eval args s none [] s = some v := by
    simp [Term.eval, State.fieldNamed?, h1, h2, h4, h5, h6, h7]
  simp only [Cond.before, Cond.holds, Cond.value, he]
  cases v <;> simp_all [Value.isRef]
theorem vx_isRefq {C n d : String} {A : Nat → Prop} {s : State} {args : Array Value} (h : va_Zq C n d A s s.heap) : (Cond.isRef (.static C n d)).before args s = true := by
  rcases h with h | ⟨t, h⟩
  · exact vx_isRef h rfl
  · exact vx_isRef h rfl
/-- the same frame, seen from here: as if the method were called anew in this heap -/
theorem vx_rebase {T : State} (X : Stand p l e R s m args below meth c T locs cells slots) {R' : Room} (hf : R'.frames ≤ R.frames) (hl : R'.locals ≤ R.locals) (hc : cells + R'.cells ≤ R.cells) (hs : slots + R'.slots ≤ R.slots) :
    Stand p l e R' ((T.setVm s.vm).setFrames (.invoking m args :: below)) m args below meth c T [] 0 0 := by
  have htop : (T.setVm s.vm).topJava?.isSome := X.here.top
  have hF : ((T.setVm s.vm).setFrames (.invoking m args :: below)).frames = .invoking m args :: below := State.frames_setFrames _ (State.cur_lt_of_top htop)
  obtain ⟨g₀, hg0⟩ := Option.isSome_iff_exists.mp htop
  obtain ⟨r, hr⟩ := State.topJava?_eq_some.mp hg0
  have hl9 : e.platform.stackLimits (T.setVm s.vm).me = e.platform.stackLimits s.me := X.limits
  have hb9 : (T.setVm s.vm).me.stackBytes = s.me.stackBytes := X.bytes
  refine ⟨X.admits, X.cas, X.clock, hF, ?_, X.hears, X.method, X.code, X.here, X.tail, X.warmed, ?_, ?_, ?_⟩
  · have h := X.room
    have hU : ((T.setVm s.vm).setFrames (.invoking m args :: below)).localsInUse = s.localsInUse := by
      rw [State.localsInUse_invoking hF (meth := meth) (c := c) X.method X.code, State.localsInUse_invoking X.frames X.method X.code]
    simp only [State.hasRoom, Bool.and_eq_true, decide_eq_true_eq] at h ⊢
    obtain ⟨⟨⟨⟨h1, h2, h3, h4, h5, h6⟩, h7⟩, h8⟩, h9⟩ := h
    rw [X.frames, List.length_cons] at h2 h3
    have q1 := X.heapSize
    have q2 := X.used
    simp only [hF, hU, List.length_cons, State.stackLimits_setFrames, State.stackBytes_setFrames, hl9, hb9]
    refine ⟨⟨⟨⟨by omega, by omega, by omega, by omega, by omega, h6⟩, ?_⟩, ?_⟩, X.book⟩
    · show T.heap.size + R'.cells ≤ e.platform.maxCells
      omega
    · show T.slotsUsed + R'.slots ≤ e.platform.maxSlots
      omega
  · rw [State.stackLimits_setFrames]; rfl
  · rw [State.stackBytes_setFrames]; rfl
  · refine ⟨?_, Nat.le_refl _, Nat.le_refl _, ?_, ?_, fun a c9 h9 => ⟨c9, h9, rfl, rfl, fun _ _ => rfl⟩⟩
    · obtain ⟨t, ht, -⟩ := State.frames_cons hr
      show T.setVm s.vm = { ((T.setVm s.vm).setFrames (.invoking m args :: below)).setFrames (T.setVm s.vm).frames with heap := T.heap, slotsUsed := T.slotsUsed }
      rw [State.setFrames_setFrames, State.setFrames_self ht]
      rfl
    · show T.slotsUsed = T.slotsUsed + ((T.heap.toList.drop T.heap.size).map (·.slots.size)).sum
      rw [List.drop_eq_nil_of_le (Nat.le_of_eq Array.length_toList)]
      rfl
    · show ((T.heap.toList.drop T.heap.size).map (·.slots.size)).sum ≤ 0
      rw [List.drop_eq_nil_of_le (Nat.le_of_eq Array.length_toList)]
      exact Nat.le_refl _
/-- 'throw new E()': new; dup; invokespecial; athrow -/
theorem vx_throw0 {cc : ByteArray} {pc : Nat} (hexec : p.tables.exec = Jvm.exec) (hb : c.code = cc) (hl : l.stackTraces = false) {own cls : String} {names : List String} {ik ic mc ms : Nat} {A : Nat → Prop}
    (hown : s.vm.findClass own = some m.cls) (hcls : Bundle.fit cls = true) (hnames : ∀ n ∈ names, Bundle.fit n = true)
    (hk : (Cond.classLink own ik cls).before args s = true) (hini : (Cond.initialized cls).before args s = true) (hat : ∀ w ∈ vx_at0 own ic cls names, w.before args s = true)
    (hgood : ∀ w ∈ Cond.classLink own ik cls :: Cond.initialized cls :: vx_at0 own ic cls names, vx_ot w = true)
    (hU : vx_Zq Bundle.tN "UNASSIGNED_STACK" Bundle.steD A s s.heap) (hN : vx_Zq Bundle.tN "SUPPRESSED_SENTINEL" Bundle.listD A s s.heap) (hS : va_S A s.heap H locs) (hsize : ls.size = c.maxLocals)
    (d0 : decode cc pc = .ok (.new ik, 3)) (d3 : decode cc (pc + 3) = .ok (.dup, 1)) (d4 : decode cc (pc + 4) = .ok (.invokespecial ic, 3)) (d7 : decode cc (pc + 7) = .ok (.athrow, 1))
    (hout : ∀ x ∈ c.exceptionTable.toList, covers x (pc + 7) = false)
    (hRframes : names.length + 3 < R.frames) (hRlocals : (rest.map fun v => v.category).sum + (13 * (names.length + 1) + 42) ≤ R.locals) (hRcells : cells + 1 ≤ R.cells) (hRslots : slots + 6 ≤ R.slots) (hlocks : meth.locks = false)
    (hx : ∀ t : State, s.vm.Alike t.vm → H.size ≤ t.heap.size → (∀ q : Nat, q < H.size → t.heap[q]? = H[q]?) → XC cls s t)
    (hf : ∀ z ∈ locs, free z.base) (hc : cells + 1 ≤ mc) (hs : slots + 6 ≤ ms) :
    W p l e R s m args below meth c H locs cells slots (vx_MQ below Qc XC args s mc ms free) (F0 m pc ls rest) := by
  intro T hT X
  have htr : e.platform.stackTraces = false := (show e.platform.stackTraces = l.stackTraces by rw [X.admits.platform]).trans hl
  have Y := vx_rebase X (R' := { frames := R.frames, locals := R.locals, cells := 1, slots := 6 }) (Nat.le_refl _) (Nat.le_refl _) hRcells hRslots
  obtain ⟨s', hA⟩ : ∃ z, z = (T.setVm s.vm).setFrames (.invoking m args :: below) := ⟨_, rfl⟩
  rw [← hA] at Y
  have hvm : s'.vm = s.vm := by rw [hA]; rfl
  have hhp : s'.heap = H := by rw [hA]; exact hT
  have hW0 : s.WarmedH s'.vm := by rw [hvm]; exact State.WarmedH.refl s
  have hat' : ∀ w ∈ vx_at0 own ic cls names, w.before args s' = true := fun w hw => vx_ot_at hW0 hvm.symm (hgood w (List.mem_cons_of_mem _ (List.mem_cons_of_mem _ hw))) (hat w hw)
  have hk' : (Cond.classLink own ik cls).before args s' = true := vx_ot_at hW0 hvm.symm (hgood _ List.mem_cons_self) hk
  have hini' : (Cond.initialized cls).before args s' = true := vx_ot_at hW0 hvm.symm (hgood _ (List.mem_cons_of_mem _ List.mem_cons_self)) hini
  have hU' : vx_Zq Bundle.tN "UNASSIGNED_STACK" Bundle.steD A s' s'.heap := by rw [hhp]; exact vx_Zq.moved hW0.alike (hU.kept hS.2.1)
  have hN' : vx_Zq Bundle.tN "SUPPRESSED_SENTINEL" Bundle.listD A s' s'.heap := by rw [hhp]; exact vx_Zq.moved hW0.alike (hN.kept hS.2.1)
  have h : ∀ w ∈ Bundle.ownAtoms0 own ic cls names, w.before args s' = true := vx_own hat' (vx_isRefq hU'.1) (vx_isRefq hN'.1) hU'.2.word hN'.2.word
  have hown' : s'.vm.findClass own = some m.cls := by rw [hvm]; exact hown
  have hins : (Cond.instantiable cls 6).before args s' = true := h _ (by simp [Bundle.ownAtoms0])
  obtain ⟨vm₁, cX, kX, hfX, hkX, -, -, X₁, st1⟩ := Y.newCold hexec (own := own) (C := cls) (index := ik) (n := 6) hown' hk' hins hini'
    (g := F0 m pc ls rest) rfl (by rw [hb]; exact d0) (Nat.le_refl _) (Nat.le_refl _)
  generalize hT1 : (T.setVm vm₁).pushCell { cls := cX, slots := kX.instanceTypes.map defaultValue, vm := .none } = T1 at X₁ st1
  have hcat : (Value.ref T.heap.size).category = 1 := rfl
  have hcellA : T1.heap[T.heap.size]? = some (freshCell cX kX) := by rw [← hT1]; exact State.heap_pushCell_size _ _
  have d3' : decode c.code (pc + 3) = .ok (.dup, 1) := by rw [hb]; exact d3
  obtain ⟨U, hsteps, hrun, hend, hW, hsame, ce, hce, hO⟩ := X₁.ctorThrow0 hexec htr (own := own) (cls := cls) (names := names) (ic := ic) hown' hcls hnames h (fun x hx => nomatch hx) hfX hkX hcellA (by rw [hhp, hT]; exact Nat.le_refl _)
    (g := { method := m, pc := pc + 4, locals := ls, stack := .ref T.heap.size :: .ref T.heap.size :: rest, locked := none }) rfl hsize rfl rfl (rest := rest) rfl
    (by rw [hb]; exact d4) (by rw [hb]; exact d7) hout hRframes (by simp only [List.map_cons, List.sum_cons, hcat]; omega) hlocks
  obtain ⟨f1, f2⟩ := vx_frame hsame
  rw [hhp] at f1 f2
  have hWs : s.WarmedH U.vm := State.WarmedH.trans hW0 hW
  have hcl : s.vm.findClass cls = some ce.cls := by
    have h9 := hO.cls
    rw [hvm] at h9
    exact h9
  have hall : s.sameButNew ({ U with vm := s.vm } : State) locs mc ms := by
    subst hA
    obtain ⟨e1, e2⟩ := hsame
    rw [State.setFrames_setFrames] at e1
    have h2 : (T.setVm s.vm).sameButNew ({ U with vm := s.vm } : State) [] (0 + 1) (0 + 6) := ⟨e1, e2⟩
    have h3 := X.same.trans h2
    rw [List.append_nil] at h3
    exact h3.mono hc hs
  refine ⟨U, ?_, .threw T.heap.size, hrun, hend, Or.inr ⟨T.heap.size, rfl, cls, ce, locs, hx U hWs.alike f1 (fun q hq => f2 q hq (fun z hz => nomatch hz)), hce, hO.vm, hcl, hWs, hall, hf⟩⟩
  refine st1 _ ?_
  show Steps p.tables e below (T1.setTop { method := m, pc := pc + 3, locals := ls, stack := .ref T.heap.size :: rest, locked := none }) _
  jvm_step X₁.here [X₁.here.top, hexec, d3', Value.category]
  exact hsteps
/-- 'throw new E("text")': new; dup; ldc; invokespecial; athrow -/
theorem vx_throwS {cc : ByteArray} {pc : Nat} (hexec : p.tables.exec = Jvm.exec) (hb : c.code = cc) (hl : l.stackTraces = false) {own cls text : String} {names : List String} {ik is ic mc ms sa : Nat} {A : Nat → Prop}
    (hown : s.vm.findClass own = some m.cls) (hcls : Bundle.fit cls = true) (hnames : ∀ n ∈ names, Bundle.fit n = true)
    (hk : (Cond.classLink own ik cls).before args s = true) (hini : (Cond.initialized cls).before args s = true) (hstr : vk_R own is text sa s) (hat : ∀ w ∈ vx_atS own ic cls names, w.before args s = true)
    (hgood : ∀ w ∈ Cond.classLink own ik cls :: Cond.initialized cls :: vx_atS own ic cls names, vx_ot w = true)
    (hU : vx_Zq Bundle.tN "UNASSIGNED_STACK" Bundle.steD A s s.heap) (hN : vx_Zq Bundle.tN "SUPPRESSED_SENTINEL" Bundle.listD A s s.heap) (hS : va_S A s.heap H locs) (hsize : ls.size = c.maxLocals)
    (d0 : decode cc pc = .ok (.new ik, 3)) (d3 : decode cc (pc + 3) = .ok (.dup, 1)) (d4 : decode cc (pc + 4) = .ok (.ldc is, 2)) (d6 : decode cc (pc + 6) = .ok (.invokespecial ic, 3)) (d9 : decode cc (pc + 9) = .ok (.athrow, 1))
    (hout : ∀ x ∈ c.exceptionTable.toList, covers x (pc + 9) = false)
    (hRframes : names.length + 3 < R.frames) (hRlocals : (rest.map fun v => v.category).sum + (13 * (names.length + 1) + 43) ≤ R.locals) (hRcells : cells + 1 ≤ R.cells) (hRslots : slots + 6 ≤ R.slots) (hlocks : meth.locks = false)
    (hx : ∀ t : State, s.vm.Alike t.vm → H.size ≤ t.heap.size → (∀ q : Nat, q < H.size → t.heap[q]? = H[q]?) → XC cls s t)
    (hf : ∀ z ∈ locs, free z.base) (hc : cells + 1 ≤ mc) (hs : slots + 6 ≤ ms) :
    W p l e R s m args below meth c H locs cells slots (vx_MQ below Qc XC args s mc ms free) (F0 m pc ls rest) := by
  intro T hT X
  have htr : e.platform.stackTraces = false := (show e.platform.stackTraces = l.stackTraces by rw [X.admits.platform]).trans hl
  have Y := vx_rebase X (R' := { frames := R.frames, locals := R.locals, cells := 1, slots := 6 }) (Nat.le_refl _) (Nat.le_refl _) hRcells hRslots
  obtain ⟨s', hA⟩ : ∃ z, z = (T.setVm s.vm).setFrames (.invoking m args :: below) := ⟨_, rfl⟩
  rw [← hA] at Y
  have hvm : s'.vm = s.vm := by rw [hA]; rfl
  have hhp : s'.heap = H := by rw [hA]; exact hT
  have hW0 : s.WarmedH s'.vm := by rw [hvm]; exact State.WarmedH.refl s
  have hat' : ∀ w ∈ vx_atS own ic cls names, w.before args s' = true := fun w hw => vx_ot_at hW0 hvm.symm (hgood w (List.mem_cons_of_mem _ (List.mem_cons_of_mem _ hw))) (hat w hw)
  have hk' : (Cond.classLink own ik cls).before args s' = true := vx_ot_at hW0 hvm.symm (hgood _ List.mem_cons_self) hk
  have hini' : (Cond.initialized cls).before args s' = true := vx_ot_at hW0 hvm.symm (hgood _ (List.mem_cons_of_mem _ List.mem_cons_self)) hini
  have hU' : vx_Zq Bundle.tN "UNASSIGNED_STACK" Bundle.steD A s' s'.heap := by rw [hhp]; exact vx_Zq.moved hW0.alike (hU.kept hS.2.1)
  have hN' : vx_Zq Bundle.tN "SUPPRESSED_SENTINEL" Bundle.listD A s' s'.heap := by rw [hhp]; exact vx_Zq.moved hW0.alike (hN.kept hS.2.1)
  have h : ∀ w ∈ Bundle.ownAtoms own ic cls names, w.before args s' = true := vx_own hat' (vx_isRefq hU'.1) (vx_isRefq hN'.1) hU'.2.word hN'.2.word
  have hown' : s'.vm.findClass own = some m.cls := by rw [hvm]; exact hown
  have hins : (Cond.instantiable cls 6).before args s' = true := h _ (by simp [Bundle.ownAtoms])
  obtain ⟨vm₁, cX, kX, hfX, hkX, -, -, X₁, st1⟩ := Y.newCold hexec (own := own) (C := cls) (index := ik) (n := 6) hown' hk' hins hini'
    (g := F0 m pc ls rest) rfl (by rw [hb]; exact d0) (Nat.le_refl _) (Nat.le_refl _)
  generalize hT1 : (T.setVm vm₁).pushCell { cls := cX, slots := kX.instanceTypes.map defaultValue, vm := .none } = T1 at X₁ st1
  have hcat : (Value.ref T.heap.size).category = 1 := rfl
  have hcellA : T1.heap[T.heap.size]? = some (freshCell cX kX) := by rw [← hT1]; exact State.heap_pushCell_size _ _
  have d3' : decode c.code (pc + 3) = .ok (.dup, 1) := by rw [hb]; exact d3
  have d4' : decode c.code (pc + 4) = .ok (.ldc is, 2) := by rw [hb]; exact d4
  have hstr' : vk_R own is text sa s' := vk_R.warm hW0 hstr
  obtain ⟨U, hsteps, hrun, hend, hW, hsame, ce, hce, hO⟩ := X₁.ctorThrowS hexec htr (own := own) (cls := cls) (names := names) (ic := ic) hown' hcls hnames h (fun x hx => nomatch hx) hfX hkX hcellA (by rw [hhp, hT]; exact Nat.le_refl _) (msg := .ref sa) rfl
    (g := { method := m, pc := pc + 6, locals := ls, stack := .ref sa :: .ref T.heap.size :: .ref T.heap.size :: rest, locked := none }) rfl hsize rfl rfl (rest := rest) rfl
    (by rw [hb]; exact d6) (by rw [hb]; exact d9) hout hRframes (by simp only [List.map_cons, List.sum_cons, hcat]; omega) hlocks
  obtain ⟨f1, f2⟩ := vx_frame hsame
  rw [hhp] at f1 f2
  have hWs : s.WarmedH U.vm := State.WarmedH.trans hW0 hW
  have hcl : s.vm.findClass cls = some ce.cls := by
    have h9 := hO.cls
    rw [hvm] at h9
    exact h9
  have hall : s.sameButNew ({ U with vm := s.vm } : State) locs mc ms := by
    subst hA
    obtain ⟨e1, e2⟩ := hsame
    rw [State.setFrames_setFrames] at e1
    have h2 : (T.setVm s.vm).sameButNew ({ U with vm := s.vm } : State) [] (0 + 1) (0 + 6) := ⟨e1, e2⟩
    have h3 := X.same.trans h2
    rw [List.append_nil] at h3
    exact h3.mono hc hs
  refine ⟨U, ?_, .threw T.heap.size, hrun, hend, Or.inr ⟨T.heap.size, rfl, cls, ce, locs, hx U hWs.alike f1 (fun q hq => f2 q hq (fun z hz => nomatch hz)), hce, hO.vm, hcl, hWs, hall, hf⟩⟩
  refine st1 _ ?_
  show Steps p.tables e below (T1.setTop { method := m, pc := pc + 3, locals := ls, stack := .ref T.heap.size :: rest, locked := none }) _
  jvm_step X₁.here [X₁.here.top, hexec, d3', Value.category]
  exact X₁.ldcString hexec (own := own) (text := text) (index := is) (a := sa) hown' hstr'.1 hstr'.2
    (g := { method := m, pc := pc + 4, locals := ls, stack := .ref T.heap.size :: .ref T.heap.size :: rest, locked := none }) rfl d4' _ hsteps
/-- 'throw new E("text")', the text by a wide index -/
theorem vx_throwSW {cc : ByteArray} {pc : Nat} (hexec : p.tables.exec = Jvm.exec) (hb : c.code = cc) (hl : l.stackTraces = false) {own cls text : String} {names : List String} {ik is ic mc ms sa : Nat} {A : Nat → Prop}
    (hown : s.vm.findClass own = some m.cls) (hcls : Bundle.fit cls = true) (hnames : ∀ n ∈ names, Bundle.fit n = true)
    (hk : (Cond.classLink own ik cls).before args s = true) (hini : (Cond.initialized cls).before args s = true) (hstr : vk_R own is text sa s) (hat : ∀ w ∈ vx_atS own ic cls names, w.before args s = true)
    (hgood : ∀ w ∈ Cond.classLink own ik cls :: Cond.initialized cls :: vx_atS own ic cls names, vx_ot w = true)
    (hU : vx_Zq Bundle.tN "UNASSIGNED_STACK" Bundle.steD A s s.heap) (hN : vx_Zq Bundle.tN "SUPPRESSED_SENTINEL" Bundle.listD A s s.heap) (hS : va_S A s.heap H locs) (hsize : ls.size = c.maxLocals)
    (d0 : decode cc pc = .ok (.new ik, 3)) (d3 : decode cc (pc + 3) = .ok (.dup, 1)) (d4 : decode cc (pc + 4) = .ok (.ldc_w is, 3)) (d7 : decode cc (pc + 7) = .ok (.invokespecial ic, 3)) (d10 : decode cc (pc + 10) = .ok (.athrow, 1))
    (hout : ∀ x ∈ c.exceptionTable.toList, covers x (pc + 10) = false)
    (hRframes : names.length + 3 < R.frames) (hRlocals : (rest.map fun v => v.category).sum + (13 * (names.length + 1) + 43) ≤ R.locals) (hRcells : cells + 1 ≤ R.cells) (hRslots : slots + 6 ≤ R.slots) (hlocks : meth.locks = false)
    (hx : ∀ t : State, s.vm.Alike t.vm → H.size ≤ t.heap.size → (∀ q : Nat, q < H.size → t.heap[q]? = H[q]?) → XC cls s t)
    (hf : ∀ z ∈ locs, free z.base) (hc : cells + 1 ≤ mc) (hs : slots + 6 ≤ ms) :
    W p l e R s m args below meth c H locs cells slots (vx_MQ below Qc XC args s mc ms free) (F0 m pc ls rest) := by
  intro T hT X
  have htr : e.platform.stackTraces = false := (show e.platform.stackTraces = l.stackTraces by rw [X.admits.platform]).trans hl
  have Y := vx_rebase X (R' := { frames := R.frames, locals := R.locals, cells := 1, slots := 6 }) (Nat.le_refl _) (Nat.le_refl _) hRcells hRslots
  obtain ⟨s', hA⟩ : ∃ z, z = (T.setVm s.vm).setFrames (.invoking m args :: below) := ⟨_, rfl⟩
  rw [← hA] at Y
  have hvm : s'.vm = s.vm := by rw [hA]; rfl
  have hhp : s'.heap = H := by rw [hA]; exact hT
  have hW0 : s.WarmedH s'.vm := by rw [hvm]; exact State.WarmedH.refl s
  have hat' : ∀ w ∈ vx_atS own ic cls names, w.before args s' = true := fun w hw => vx_ot_at hW0 hvm.symm (hgood w (List.mem_cons_of_mem _ (List.mem_cons_of_mem _ hw))) (hat w hw)
  have hk' : (Cond.classLink own ik cls).before args s' = true := vx_ot_at hW0 hvm.symm (hgood _ List.mem_cons_self) hk
  have hini' : (Cond.initialized cls).before args s' = true := vx_ot_at hW0 hvm.symm (hgood _ (List.mem_cons_of_mem _ List.mem_cons_self)) hini
  have hU' : vx_Zq Bundle.tN "UNASSIGNED_STACK" Bundle.steD A s' s'.heap := by rw [hhp]; exact vx_Zq.moved hW0.alike (hU.kept hS.2.1)
  have hN' : vx_Zq Bundle.tN "SUPPRESSED_SENTINEL" Bundle.listD A s' s'.heap := by rw [hhp]; exact vx_Zq.moved hW0.alike (hN.kept hS.2.1)
  have h : ∀ w ∈ Bundle.ownAtoms own ic cls names, w.before args s' = true := vx_own hat' (vx_isRefq hU'.1) (vx_isRefq hN'.1) hU'.2.word hN'.2.word
  have hown' : s'.vm.findClass own = some m.cls := by rw [hvm]; exact hown
  have hins : (Cond.instantiable cls 6).before args s' = true := h _ (by simp [Bundle.ownAtoms])
  obtain ⟨vm₁, cX, kX, hfX, hkX, -, -, X₁, st1⟩ := Y.newCold hexec (own := own) (C := cls) (index := ik) (n := 6) hown' hk' hins hini'
    (g := F0 m pc ls rest) rfl (by rw [hb]; exact d0) (Nat.le_refl _) (Nat.le_refl _)
  generalize hT1 : (T.setVm vm₁).pushCell { cls := cX, slots := kX.instanceTypes.map defaultValue, vm := .none } = T1 at X₁ st1
  have hcat : (Value.ref T.heap.size).category = 1 := rfl
  have hcellA : T1.heap[T.heap.size]? = some (freshCell cX kX) := by rw [← hT1]; exact State.heap_pushCell_size _ _
  have d3' : decode c.code (pc + 3) = .ok (.dup, 1) := by rw [hb]; exact d3
  have d4' : decode c.code (pc + 4) = .ok (.ldc_w is, 3) := by rw [hb]; exact d4
  have hstr' : vk_R own is text sa s' := vk_R.warm hW0 hstr
  obtain ⟨U, hsteps, hrun, hend, hW, hsame, ce, hce, hO⟩ := X₁.ctorThrowS hexec htr (own := own) (cls := cls) (names := names) (ic := ic) hown' hcls hnames h (fun x hx => nomatch hx) hfX hkX hcellA (by rw [hhp, hT]; exact Nat.le_refl _) (msg := .ref sa) rfl
    (g := { method := m, pc := pc + 7, locals := ls, stack := .ref sa :: .ref T.heap.size :: .ref T.heap.size :: rest, locked := none }) rfl hsize rfl rfl (rest := rest) rfl
    (by rw [hb]; exact d7) (by rw [hb]; exact d10) hout hRframes (by simp only [List.map_cons, List.sum_cons, hcat]; omega) hlocks
  obtain ⟨f1, f2⟩ := vx_frame hsame
  rw [hhp] at f1 f2
  have hWs : s.WarmedH U.vm := State.WarmedH.trans hW0 hW
  have hcl : s.vm.findClass cls = some ce.cls := by
    have h9 := hO.cls
    rw [hvm] at h9
    exact h9
  have hall : s.sameButNew ({ U with vm := s.vm } : State) locs mc ms := by
    subst hA
    obtain ⟨e1, e2⟩ := hsame
    rw [State.setFrames_setFrames] at e1
    have h2 : (T.setVm s.vm).sameButNew ({ U with vm := s.vm } : State) [] (0 + 1) (0 + 6) := ⟨e1, e2⟩
    have h3 := X.same.trans h2
    rw [List.append_nil] at h3
    exact h3.mono hc hs
  refine ⟨U, ?_, .threw T.heap.size, hrun, hend, Or.inr ⟨T.heap.size, rfl, cls, ce, locs, hx U hWs.alike f1 (fun q hq => f2 q hq (fun z hz => nomatch hz)), hce, hO.vm, hcl, hWs, hall, hf⟩⟩
  refine st1 _ ?_
  show Steps p.tables e below (T1.setTop { method := m, pc := pc + 3, locals := ls, stack := .ref T.heap.size :: rest, locked := none }) _
  jvm_step X₁.here [X₁.here.top, hexec, d3', Value.category]
  exact X₁.ldcStringW hexec (own := own) (text := text) (index := is) (a := sa) hown' hstr'.1 hstr'.2
    (g := { method := m, pc := pc + 4, locals := ls, stack := .ref T.heap.size :: .ref T.heap.size :: rest, locked := none }) rfl d4' _ hsteps
end Ends
section Bodies
variable {l : Launch}
theorem vx_ofW {y : MethodName} {ws ws' : List Cond} {rm : Room} {Pc : Array Value → State → Prop} {Qc : Array Value → State → Outcome → State → Prop} {XC : String → State → State → Prop} {mc ms : Nat} {free : Addr → Prop} {cc : ByteArray} {maxL : Nat} {ret : Option FieldType}
    (hy : plainName y.cls = true) (hw : ws = Cond.code y cc maxL ret :: ws')
    (body : ∀ p e s m args below meth c s₁, BodyLoose p l y (headSpec ws rm) cc maxL ret e s m args below meth c s₁ → c.maxLocals = maxL → (∀ x ∈ c.exceptionTable.toList, False) → Pc args s →
      W p l e (headSpec ws rm).room s m args below meth c s.heap [] 0 0 (vx_MQ below Qc XC args s mc ms free) (entryFrame m args maxL)) : vx_Met l y ws rm Pc Qc XC mc ms free := by
  refine MetFree.of_bodyS (code := cc) (maxLocals := maxL) (ret := ret) hy ?_ ?_
  · intro args s m h hn
    obtain ⟨meth, c, h1, h2, h3, h4, h5, h6, -, -⟩ := Cond.code_spec hn (atoms_spec (ws := ws) h _ (by rw [hw]; exact List.mem_cons_self))
    exact ⟨meth, c, h1, h2, h3, h4, h5, h6⟩
  · intro p e s m args below meth c s₁ B hml hP _
    have hh0 : s₁.heap = s.heap := by rw [B.state]; rfl
    have ht : ∀ x ∈ c.exceptionTable.toList, False := by
      obtain ⟨meth9, c9, h1, h2, -, -, -, -, h7, -⟩ := Cond.code_spec B.named (atoms_spec (ws := ws) B.pre _ (by rw [hw]; exact List.mem_cons_self))
      cases Option.some.inj (h1.symm.trans B.method)
      cases Option.some.inj (h2.symm.trans (Stand.of_body B).code)
      intro x hx
      rw [Array.isEmpty_iff.mp h7] at hx
      cases hx
    obtain ⟨t, a1, o, b1, b2, b3⟩ := body p e s m args below meth c s₁ B hml ht hP s₁ hh0 (Stand.of_body B)
    exact ⟨t, o, a1, b1, b2, b3⟩
/-- the table of a body with handlers -/
theorem vx_table {p : Program} {x y : MethodName} {S : Spec} {cc bytes : ByteArray} {maxL maxL' : Nat} {ret ret' : Option FieldType} {e : Env} {s s₁ : State} {m : MethodId} {args : Array Value} {below : List Frame} {meth : Method} {c : Code} {hh : List (Nat × Nat × Nat × Nat)}
    (B : BodyLoose p l y S cc maxL ret e s m args below meth c s₁) (h : (Cond.codeWith y bytes maxL' ret' hh).before args s = true) : c.exceptionTable.toList = tableOf hh := by
  obtain ⟨m9, meth9, c9, hn9, h1, h2, -, -, h6, -⟩ := Cond.codeWith_spec h
  cases Option.some.inj (hn9.symm.trans B.named)
  cases Option.some.inj (h1.symm.trans B.method)
  cases Option.some.inj (h2.symm.trans (Stand.of_body B).code)
  rw [← h6, table_eq]
end Bodies
end VXA
/-! ===== END ===== -/
/-! ===== BEGIN a static call of a method with an exception table ===== -/
section VXS
variable {p : Program} {l : Launch} {e : Env} {R : Room} {s : State} {m : MethodId} {args : Array Value} {below : List Frame} {meth : Method} {c : Code} {T : State} {H : Heap} {locs : List Loc} {cells slots : Nat}
abbrev vx_CSW (R : Room) (s : State) (args : Array Value) (own : String) (index : Nat) (y : MethodName) (bytes : ByteArray) (maxL : Nat) (ret : Option FieldType) (hh : List (Nat × Nat × Nat × Nat)) (ws : List Cond) (rm : Room) (mc ms n : Nat) : Prop :=
  (rm.cells = mc ∧ rm.slots = ms ∧ rm.frames + 1 ≤ R.frames ∧ 8 + (maxL + 11) + rm.locals ≤ R.locals ∧ (∀ w ∈ ws, ∀ (a' : Array Value) (U : State), s.WarmedH U.vm → w.before a' U = true) ∧ Cond.codeWith y bytes maxL ret hh ∈ ws) ∧
  (Cond.codeWith y bytes maxL ret hh).before args s = true ∧ (Cond.initialized y.cls).before args s = true ∧ (y.cls ≠ "java/lang/invoke/MethodHandle" ∧ y.cls ≠ "java/lang/invoke/VarHandle") ∧
  (∀ sig, parseMethodDescriptor y.desc = some sig → n = sig.parameters.length) ∧ (Cond.methodLink own index y).before args s = true ∧ (Cond.static y).before args s = true
theorem vx_cwSW {own : String} {index maxL mc ms : Nat} {y : MethodName} {bytes : ByteArray} {ret : Option FieldType} {hh : List (Nat × Nat × Nat × Nat)} {Ts ws ws' : List Cond} {rm : Room} (n : Nat) (ht : ∀ w ∈ Ts, w.before args s = true) (hT : GoodIn Ts (va_wsS own index y ws)) (hw : ws = Cond.codeWith y bytes maxL ret hh :: ws') (hrc : rm.cells = mc) (hrs : rm.slots = ms)
    (hd : y.cls ≠ "java/lang/invoke/MethodHandle" ∧ y.cls ≠ "java/lang/invoke/VarHandle" ∧ (parseMethodDescriptor y.desc).map (fun d => d.parameters.length) = some n) (hR : rm.frames + 1 ≤ R.frames ∧ 8 + (maxL + 11) + rm.locals ≤ R.locals) :
    vx_CSW R s args own index y bytes maxL ret hh ws rm mc ms n := by
  have ok : ∀ w ∈ va_wsS own index y ws, w.before args s = true := fun w h => ht w (hT w h).1
  have hG : GoodIn Ts ws := fun w h => hT w (by unfold va_wsS; exact List.mem_append_right _ h)
  have hc : Cond.codeWith y bytes maxL ret hh ∈ ws := by rw [hw]; exact List.mem_cons_self
  refine ⟨⟨hrc, hrs, hR.1, hR.2, pay_in ht hG, hc⟩, ht _ (hG _ hc).1, ok _ (by simp [va_wsS]), ⟨hd.1, hd.2.1⟩, fun sig h => ?_, ok _ (by simp [va_wsS]), ok _ (by simp [va_wsS])⟩
  have h2 := hd.2.2
  rw [h] at h2
  exact (Option.some.inj h2).symm
theorem vx_callSW (X : Stand p l e R s m args below meth c T locs cells slots) (hexec : p.tables.exec = Jvm.exec) {own : String} {index : Nat} {y : MethodName} {bytes : ByteArray} {maxL : Nat} {ret : Option FieldType} {hh : List (Nat × Nat × Nat × Nat)}
    (hown : s.vm.findClass own = some m.cls) (hlink : (Cond.methodLink own index y).before args s = true) (hstat : (Cond.static y).before args s = true) (hinit : (Cond.initialized y.cls).before args s = true)
    (hcode : (Cond.codeWith y bytes maxL ret hh).before args s = true) (hy : y.cls ≠ "java/lang/invoke/MethodHandle" ∧ y.cls ≠ "java/lang/invoke/VarHandle")
    {W9 : Nat} {Pre : Pt → Array Value → Prop} {Post : Pt → Array Value → Option Value → Pt → Prop} (hK : Back l R p e below s args y 3 W9 Pre Post)
    {g : JFrame} (hg : g.method = m) (hsize : g.locals.size = c.maxLocals) {argsL rest : List Value} (hlen : ∀ sig, parseMethodDescriptor y.desc = some sig → argsL.length = sig.parameters.length)
    (hstack : g.stack = argsL.reverse ++ rest) (hW : 2 * g.monitorRoom + (rest.map fun v => v.category).sum ≤ W9) (hdg : decode c.code g.pc = .ok (.invokestatic index, 3))
    (hpre : ∀ vm₁, s.WarmedH vm₁ → Pre ⟨T.setVm vm₁, locs, cells, slots⟩ argsL.toArray) :
    ∃ (v : Option Value) (vm₁ : Vm) (B : Pt), s.WarmedH vm₁ ∧ Stand p l e R s m args below meth c B.U B.locs B.cells B.slots ∧ Post ⟨T.setVm vm₁, locs, cells, slots⟩ argsL.toArray v B ∧
      ∀ target, Steps p.tables e below (B.U.setTop { g with pc := g.pc + 3, stack := v.toList ++ rest }) target → Steps p.tables e below (T.setTop g) target := by
  obtain ⟨mk, methM, cM, hnamed, hmethM, -, -, -, -, -, -, hsigM⟩ := Cond.codeWith_spec hcode
  have hstatic : methM.isStatic = true := Cond.static_spec hnamed hmethM hstat
  obtain ⟨kP, hkP, -⟩ := className_of_methodNamed hnamed
  have hinitP : kP.init = .initialized := Cond.initialized_spec (findClass_of_methodNamed hnamed) hkP hinit
  obtain ⟨vm₁, X₁, hstep₁⟩ := X.invokestatic hexec hown hlink hnamed hmethM hstatic hkP hinitP hy (g := g) hg (argsL := argsL) (rest := rest) (hlen _ hsigM) hstack hdg
  obtain ⟨v, B, X', hpost, hsteps⟩ := hK m meth c ⟨T.setVm vm₁, locs, cells, slots⟩ { g with stack := rest } (.invokestatic index) mk argsL.toArray X₁ hg hsize hdg hW (X₁.named hnamed) (hpre vm₁ X₁.warmed)
  exact ⟨v, vm₁, B, X₁.warmed, X', hpost, fun target h => hstep₁ _ fun acts => by rw [doInvoke_state]; exact hsteps.trans h⟩
theorem vx_runSW {y : MethodName} {bytes cc : ByteArray} {maxL nL mc ms n index : Nat} {ret : Option FieldType} {hh : List (Nat × Nat × Nat × Nat)} {ws : List Cond} {rm : Room} {Pc : Array Value → State → Prop} {Qc : Array Value → State → Outcome → State → Prop} {free : Addr → Prop} {Ts : List Cond} {own : String} {As rest : List Value} {g : JFrame}
    (S : CallFix p m c cc nL s args Ts own) (hM : Met l y ws rm Pc Qc mc ms free) (cw : vx_CSW R s args own index y bytes maxL ret hh ws rm mc ms n) (hp : PreS s H Pc As)
    (hg : g.method = m) (hn : As.length = n) (hsize : g.locals.size = nL) (hstack : g.stack = As.reverse ++ rest) (hW : 2 * g.monitorRoom + (rest.map fun v => v.category).sum ≤ 8) (hdg : decode cc g.pc = .ok (.invokestatic index, 3)) (hf : cells + mc ≤ R.cells ∧ slots + ms ≤ R.slots) :
    va_Run p l e R s m args below meth c H locs cells slots mc ms g rest (Qc As.toArray) (free) := by
  obtain ⟨⟨hrc, hrs, hfr, hlo, hws, hcw⟩, hcode, hini, hy, hlen, hl, hstt⟩ := cw
  have hK : Back l R p e below s args y 3 8 (PreOf R mc ms Pc) (PostOf Qc mc ms free) := va_backW (hh := hh) (bytes := bytes) (maxL := maxL) (ret := ret) hM hp.1 hrc hrs hfr hlo hws hcw (fun a' U hW => word_at hW (Or.inl (by first | rfl | simp [Cond.onTables, Cond.keeps, Cond.steady])) hini)
  obtain ⟨hx, hb, hml, ho, -⟩ := S
  intro T hT X
  obtain ⟨v, vm₁, ⟨U', l2, c2, s2⟩, hW₁, X', ⟨g', mk, t, L, e1, e2, hq, h1, hL, h2, h3⟩, st⟩ := vx_callSW X hx (hh := hh) (bytes := bytes) (maxL := maxL) (ret := ret) ho hl hstt hini hcode hy hK hg (hsize.trans hml.symm) (argsL := As) (rest := rest) (fun sig h => hn.trans (hlen sig h)) hstack hW (by rw [hb]; exact hdg)
    (fun vm₁ hW₁ => ⟨hf.1, hf.2, hp.2 (T.setVm vm₁) hT hW₁⟩)
  dsimp only [Pt.U, Pt.locs, Pt.cells, Pt.slots] at X' e1 e2 h1 h2 h3 st
  subst h1; subst h2; subst h3
  exact ⟨v, (T.setVm vm₁).calling g' mk As.toArray, t, U', L, hT, X', hL, e1, e2, hq, st⟩
/-- not caught here, past rows that name other classes: it goes on to the caller -/
theorem vx_outP {p : Program} {l : Launch} {e : Env} {R : Room} {s : State} {m : MethodId} {args : Array Value} {below : List Frame} {meth : Method} {c : Code} {H : Heap} {locs : List Loc} {cells slots : Nat} {free : Addr → Prop} {ls : Array Slot} {rest : List Value} {Qc : Array Value → State → Outcome → State → Prop} {XC : String → State → State → Prop}
    {pc : Nat} {own E : String} {ce : Cell} {q : Addr} {mc ms : Nat} (hown : s.vm.findClass own = some m.cls) (hlocks : meth.locks = false)
    (hpass : ∀ z ∈ c.exceptionTable.toList, covers z pc = false ∨ (z.catchType ≠ 0 ∧ ∃ nm : String, (Cond.classLink own z.catchType nm).before args s = true ∧ va_Nc E nm s)) (hcell : H[q]? = some ce) (hv : ce.vm = .none) (hcl : s.vm.findClass E = some ce.cls)
    (hx : ∀ t : State, t.heap = H → s.vm.Alike t.vm → XC E s t) (hf : ∀ z ∈ locs, free z.base) (hc : cells ≤ mc) (hs : slots ≤ ms) :
    vx_W p l e R s m args below meth c H locs cells slots (vx_MQ below Qc XC args s mc ms free) (F0 m pc ls rest) q := by
  intro T hT X
  have hpl : e.platform.magicAccessors = ({} : Platform).magicAccessors := by rw [X.admits.platform]
  obtain ⟨vm', hW', X', st⟩ := X.outThrough hlocks q (g := F0 m pc ls rest) rfl rfl rfl (cell := ce) (by rw [hT]; exact hcell) (by rw [hv]; rfl)
    (by obtain ⟨k9, h9, -⟩ := Vm.findClass_spec hcl; exact ⟨k9, h9⟩) (fun z hz => by
      rcases hpass z hz with h | ⟨hz0, nm, hl1, hn1⟩
      · exact Or.inl h
      · obtain ⟨c6, hc6, hcl6⟩ := Cond.classLink_spec hown hl1 e.platform hpl
        obtain ⟨a8, b8, h1, h2, h3⟩ := hn1
        cases Option.some.inj (h1.symm.trans hcl)
        cases Option.some.inj (h2.symm.trans hc6)
        exact Or.inr ⟨hz0, _, hcl6, h3⟩)
  obtain ⟨g₀, hfr⟩ := X'.frames_eq
  have hcell9 : ((T.setVm vm').setFrames (.throwing q :: below)).heap[q]? = some ce := by
    show T.heap[q]? = some ce
    rw [hT]; exact hcell
  have hend : Ended ((T.setVm vm').setFrames (.throwing q :: below)) below (.threw q) := State.frames_setFrames _ (State.cur_lt_of_frames hfr)
  refine ⟨(T.setVm vm').setFrames (.throwing q :: below), ?_, .threw q, X'.here.running, hend, Or.inr ⟨q, rfl, E, ce, locs, hx _ hT (X'.ends _).1.alike, hcell9, hv, hcl, (X'.ends _).1, (X'.ends _).2.mono hc hs, hf⟩⟩
  rw [X.pushThrowing_eq]
  exact st
/-- a thing of a world lies in the heap -/
theorem vx_lt {D : va_G} {cl : List vw_C} {ws : va_W} {H1 : Heap} (h : va_P D cl ws H1) {k : Nat} {q : Nat × va_E} (hk : ws[k]? = some q) : q.1 < H1.size := (h k q hk).lt
end VXS
/-! ===== END ===== -/
/-! ===== BEGIN methods with a table of their own: called by a name, returning or throwing ===== -/
section VXH
/-! vx_backW, vx_callVX, vx_callSX, vx_callVW, vx_runVW, vx_runVX, vx_runSX, vx_ofWH follow the same proofs as their sisters above (Free/Laws.lean, Shelf42/LK1.lean); vx_outP calls Shelf42/NT130.lean (outThrough). -/
section
variable {l : Launch} {R : Room} {p : Program} {e : Env} {below : List Frame} {s : State} {sargs : Array Value} {y : MethodName} {len W9 : Nat}
theorem vx_backW {ws : List Cond} {rm : Room} {Pc : Array Value → State → Prop} {Qc : Array Value → State → Outcome → State → Prop} {XC : String → State → State → Prop} {mc ms : Nat} {free : Addr → Prop} {bytes : ByteArray} {maxL : Nat} {ret : Option FieldType} {hh : List (Nat × Nat × Nat × Nat)}
    (hM : vx_Met l y ws rm Pc Qc XC mc ms free) (hblind : FrameBlind Pc) (hrc : rm.cells = mc) (hrs : rm.slots = ms)
    (hframes : rm.frames + 1 ≤ R.frames) (hlocals : W9 + (maxL + 11) + rm.locals ≤ R.locals)
    (hws : ∀ w ∈ ws, ∀ a' U, s.WarmedH U.vm → w.before a' U = true) (hcode : Cond.codeWith y bytes maxL ret hh ∈ ws) (hinit : ∀ a' U, s.WarmedH U.vm → (Cond.initialized y.cls).before a' U = true) :
    vx_Back l R p e below s sargs y len W9 (PreOf R mc ms Pc) (PostOf Qc mc ms free) (vx_Post XC mc ms free) := by
  intro m meth c A g ig mk a X hg hsize hdg hW hn hp
  have h1 : (headSpec ws rm).pre.before a A.U = true := atoms_intro fun w hw => hws w hw _ _ X.warmed
  have h2 : (Cond.codeWith y bytes maxL ret hh).before a A.U = true := hws _ hcode _ _ X.warmed
  have h3 : (Cond.initialized y.cls).before a A.U = true := hinit _ _ X.warmed
  have h4 : A.cells + (headSpec ws rm).room.cells ≤ R.cells := by rw [show (headSpec ws rm).room.cells = mc from hrc]; exact hp.1
  have h5 : A.slots + (headSpec ws rm).room.slots ≤ R.slots := by rw [show (headSpec ws rm).room.slots = ms from hrs]; exact hp.2.1
  have hPc : Pc a (A.U.calling g mk a) := hblind _ _ _ _ hp.2.2
  obtain ⟨U, Ls, c0, s0⟩ := A
  dsimp only [Pt.U, Pt.locs, Pt.cells, Pt.slots] at h1 h2 h3 h4 h5 X hn hPc ⊢
  obtain ⟨m9, methY, cY, hn9, hmY, hcY, -, hlY, -⟩ := Cond.codeWith_spec h2
  cases Option.some.inj (hn9.symm.trans hn)
  obtain ⟨kY, hkY, -⟩ := className_of_methodNamed hn
  have hinitY : kY.init = .initialized := Cond.initialized_spec (findClass_of_methodNamed hn) hkY h3
  have h : At U g.method c below := by rw [hg]; exact X.here
  have hlocals9 : W9 + (maxL + 11) + (headSpec ws rm).room.locals ≤ R.locals := hlocals
  have happ : (headSpec ws rm).appliesLoose y e.platform (U.calling g mk a) = true :=
    Spec.appliesLoose_calling (g := g) h hdg hn hkY hinitY
      (X.room_calling (g := g) (R' := (headSpec ws rm).room) hsize hmY hcY hframes (by rw [hlY]; omega) h4 h5) h1
  obtain ⟨mid, hmid⟩ := h.above
  have hfr : (U.setTop g).frames = (.java g :: mid) ++ below := by rw [State.frames_setTop' g h.top, hmid]; rfl
  obtain ⟨o, s₂, hsteps, -, hend, hq⟩ := Steps.callFree hM p X.admits X.cas X.clock (acts := []) hfr happ hPc trivial
  have hq' : vx_Q Qc XC mc ms free a (U.calling g mk a) o s₂ := hq
  rw [State.frames_setTop' g h.top] at hend
  obtain ⟨g₀, hg0⟩ := Option.isSome_iff_exists.mp h.top
  obtain ⟨r, hr⟩ := State.topJava?_eq_some.mp hg0
  have hr' : (({ U with heap := s₂.heap, slotsUsed := s₂.slotsUsed } : State).setVm s₂.vm).frames = .java g₀ :: r := hr
  rcases hq' with ⟨hqc, L, hfe, hL⟩ | ⟨q, rfl, E, ce, L, hx, hce, hcv, hcl, hW₂, hsm, hL⟩
  · obtain ⟨⟨v, rfl⟩, hW₂, e2, q2, q3, q4, q5, q6⟩ := id hfe
    have e3 : s₂ = ({ (U.calling g mk a).setFrames s₂.frames with heap := s₂.heap, slotsUsed := s₂.slotsUsed } : State).setVm s₂.vm := by
      have : s₂ = ({ s₂ with vm := (U.calling g mk a).vm } : State).setVm s₂.vm := rfl
      rw [e2] at this
      exact this
    obtain ⟨c₂, i₂, len₂, hc₂, hd₂, hf₂⟩ := hend
    have hW' : U.WarmedH s₂.vm := hW₂
    have hcc : c₂ = c := by
      have h1 : s₂.code? g.method = U.code? g.method := by
        rw [State.code?_eq, State.code?_eq, hW'.alike.method?]
      exact Option.some.inj (hc₂.symm.trans (h1.trans h.code))
    subst hcc
    have hlen : len₂ = len := by rw [hdg] at hd₂; cases hd₂; rfl
    subst hlen
    have hs₂ : s₂ = (({ U with heap := s₂.heap, slotsUsed := s₂.slotsUsed } : State).setVm s₂.vm).setTop { g with pc := g.pc + len₂, stack := v.toList ++ g.stack } := by
      refine e3.trans ?_
      rw [hf₂, State.calling_eq h.top, State.setFrames_setFrames, State.setTop_of_frames _ hr', hr]
      rfl
    have hsame : U.sameButNew ({ U with heap := s₂.heap, slotsUsed := s₂.slotsUsed } : State) L mc ms := by
      refine ⟨?_, q2, q3, q4, q5, q6⟩
      obtain ⟨t, ht, -⟩ := State.frames_cons hr
      show ({ U with heap := s₂.heap, slotsUsed := s₂.slotsUsed } : State) = { U.setFrames U.frames with heap := s₂.heap, slotsUsed := s₂.slotsUsed }
      rw [State.setFrames_self ht]
    subst hg
    refine Or.inl ⟨v, ⟨(({ U with heap := s₂.heap, slotsUsed := s₂.slotsUsed } : State).setVm s₂.vm), Ls ++ L, c0 + mc, s0 + ms⟩,
      ⟨X.admits, X.cas, X.clock, X.frames, X.room, X.hears, X.method, X.code, (X.here.setHeapUsed s₂.heap s₂.slotsUsed).setVm hW'.alike, X.tail, State.WarmedH.trans X.warmed hW', X.limits, X.bytes, X.same.trans (hsame.setVm s.vm)⟩,
      ⟨g, mk, s₂, L, rfl, rfl, hqc, rfl, hL, rfl, rfl⟩, ?_⟩
    show Steps p.tables e below _ ((({ U with heap := s₂.heap, slotsUsed := s₂.slotsUsed } : State).setVm s₂.vm).setTop { g with pc := g.pc + len₂, stack := v.toList ++ g.stack })
    rw [← hs₂]
    exact hsteps
  · obtain ⟨e2, q2, q3, q4, q5, q6⟩ := id hsm
    have e3 : s₂ = ({ (U.calling g mk a).setFrames s₂.frames with heap := s₂.heap, slotsUsed := s₂.slotsUsed } : State).setVm s₂.vm := by
      have : s₂ = ({ s₂ with vm := (U.calling g mk a).vm } : State).setVm s₂.vm := rfl
      rw [e2] at this
      exact this
    have hf₂ : s₂.frames = .throwing q :: .java g :: U.frames.tail := hend
    have hW' : U.WarmedH s₂.vm := hW₂
    have hs₂ : s₂ = ((({ U with heap := s₂.heap, slotsUsed := s₂.slotsUsed } : State).setVm s₂.vm).setTop g).pushFrame (.throwing q) := by
      refine e3.trans ?_
      rw [hf₂, State.calling_eq h.top, State.setFrames_setFrames, State.pushFrame, State.frames_setTop _ hr', State.setTop_of_frames _ hr', State.setFrames_setFrames, hr]
      rfl
    have hsame : U.sameButNew ({ U with heap := s₂.heap, slotsUsed := s₂.slotsUsed } : State) L mc ms := by
      refine ⟨?_, q2, q3, q4, q5, q6⟩
      obtain ⟨t, ht, -⟩ := State.frames_cons hr
      show ({ U with heap := s₂.heap, slotsUsed := s₂.slotsUsed } : State) = { U.setFrames U.frames with heap := s₂.heap, slotsUsed := s₂.slotsUsed }
      rw [State.setFrames_self ht]
    subst hg
    refine Or.inr ⟨q, ⟨(({ U with heap := s₂.heap, slotsUsed := s₂.slotsUsed } : State).setVm s₂.vm), Ls ++ L, c0 + mc, s0 + ms⟩,
      ⟨X.admits, X.cas, X.clock, X.frames, X.room, X.hears, X.method, X.code, (X.here.setHeapUsed s₂.heap s₂.slotsUsed).setVm hW'.alike, X.tail, State.WarmedH.trans X.warmed hW', X.limits, X.bytes, X.same.trans (hsame.setVm s.vm)⟩,
      ⟨g, mk, s₂, L, E, ce, rfl, rfl, hx, hce, hcv, hcl, rfl, hL, rfl, rfl⟩, ?_⟩
    show Steps p.tables e below _ (((({ U with heap := s₂.heap, slotsUsed := s₂.slotsUsed } : State).setVm s₂.vm).setTop g).pushFrame (.throwing q))
    rw [← hs₂]
    exact hsteps
end
variable {p : Program} {l : Launch} {e : Env} {R : Room} {s : State} {m : MethodId} {args : Array Value} {below : List Frame} {meth : Method} {c : Code} {T : State} {H : Heap} {locs : List Loc} {cells slots : Nat}
theorem vx_callVX (X : Stand p l e R s m args below meth c T locs cells slots) (hexec : p.tables.exec = Jvm.exec) {own C : String} {index : Nat} {y : MethodName} {bytes : ByteArray} {maxL : Nat} {ret : Option FieldType} {hh : List (Nat × Nat × Nat × Nat)}
    (hown : s.vm.findClass own = some m.cls) (hlink : (Cond.methodLink own index y).before args s = true) (hinst : (Cond.instanceMethod y).before args s = true) (hsel : (Cond.selects C y y).before args s = true)
    (hcode : (Cond.codeWith y bytes maxL ret hh).before args s = true) (hy : y.cls ≠ "java/lang/invoke/MethodHandle" ∧ y.cls ≠ "java/lang/invoke/VarHandle")
    {W9 : Nat} {Pre : Pt → Array Value → Prop} {Post : Pt → Array Value → Option Value → Pt → Prop} {PostX : Pt → Array Value → Addr → Pt → Prop} (hK : vx_Back l R p e below s args y 3 W9 Pre Post PostX)
    {b : Addr} {cellB : Cell} (hcell : T.heap[b]? = some cellB) (hobj : cellB.vm.isStatics = false) (hcls : s.vm.findClass C = some cellB.cls)
    {g : JFrame} (hg : g.method = m) (hsize : g.locals.size = c.maxLocals) {argsL rest : List Value} (hlen : ∀ sig, parseMethodDescriptor y.desc = some sig → argsL.length = sig.parameters.length)
    (hstack : g.stack = argsL.reverse ++ .ref b :: rest) (hW : 2 * g.monitorRoom + (rest.map fun v => v.category).sum ≤ W9) (hdg : decode c.code g.pc = .ok (.invokevirtual index, 3))
    (hpre : ∀ vm₁, s.WarmedH vm₁ → Pre ⟨T.setVm vm₁, locs, cells, slots⟩ (Value.ref b :: argsL).toArray) :
    (∃ (v : Option Value) (vm₁ : Vm) (B : Pt), s.WarmedH vm₁ ∧ Stand p l e R s m args below meth c B.U B.locs B.cells B.slots ∧ Post ⟨T.setVm vm₁, locs, cells, slots⟩ (Value.ref b :: argsL).toArray v B ∧
      ∀ target, Steps p.tables e below (B.U.setTop { g with pc := g.pc + 3, stack := v.toList ++ rest }) target → Steps p.tables e below (T.setTop g) target) ∨
    (∃ (q : Addr) (vm₁ : Vm) (B : Pt), s.WarmedH vm₁ ∧ Stand p l e R s m args below meth c B.U B.locs B.cells B.slots ∧ PostX ⟨T.setVm vm₁, locs, cells, slots⟩ (Value.ref b :: argsL).toArray q B ∧
      Steps p.tables e below (T.setTop g) ((B.U.setTop { g with stack := rest }).pushFrame (.throwing q))) := by
  obtain ⟨mk, methM, hnamed, hmethM, hstM, habM⟩ := Cond.instanceMethod_spec hinst
  obtain ⟨m8, methM', cM, hn8, hmethM', -, -, -, -, -, -, hsigM⟩ := Cond.codeWith_spec hcode
  cases Option.some.inj (hn8.symm.trans hnamed)
  cases hmethM.symm.trans hmethM'
  obtain ⟨c2, r2, m2, q1, q2, q3, q4, kP, hkP, hkPi⟩ := Cond.selects_spec hsel
  cases hcls.symm.trans q1
  cases (State.methodFound?_of_named hnamed hy).symm.trans q2
  cases hnamed.symm.trans q3
  have hselP : selectMethod e.platform s.vm cellB.cls mk = .method mk := by rw [Launch.admits_selectMethod X.admits]; exact q4
  obtain ⟨vm₁, X₁, hstep₁⟩ := X.invokevirtual hexec hown hlink hnamed hmethM hstM hkP hkPi hy (a := b) (cell := cellB) hcell
    (fun z h => by rw [h] at hobj; cases hobj) hselP hmethM habM hkP hkPi (g := g) hg (argsL := argsL) (rest := rest) (hlen _ hsigM) hstack hdg
  rcases hK m meth c ⟨T.setVm vm₁, locs, cells, slots⟩ { g with stack := rest } (.invokevirtual index) mk (Value.ref b :: argsL).toArray X₁ hg hsize hdg hW (X₁.named hnamed) (hpre vm₁ X₁.warmed) with ⟨v, B, X', hpost, hsteps⟩ | ⟨q, B, X', hpost, hsteps⟩
  · exact Or.inl ⟨v, vm₁, B, X₁.warmed, X', hpost, fun target h => hstep₁ _ fun acts => by rw [doInvoke_state]; exact hsteps.trans h⟩
  · exact Or.inr ⟨q, vm₁, B, X₁.warmed, X', hpost, hstep₁ _ fun acts => by rw [doInvoke_state]; exact hsteps⟩
theorem vx_callSX (X : Stand p l e R s m args below meth c T locs cells slots) (hexec : p.tables.exec = Jvm.exec) {own : String} {index : Nat} {y : MethodName} {bytes : ByteArray} {maxL : Nat} {ret : Option FieldType} {hh : List (Nat × Nat × Nat × Nat)}
    (hown : s.vm.findClass own = some m.cls) (hlink : (Cond.methodLink own index y).before args s = true) (hstat : (Cond.static y).before args s = true) (hinit : (Cond.initialized y.cls).before args s = true)
    (hcode : (Cond.codeWith y bytes maxL ret hh).before args s = true) (hy : y.cls ≠ "java/lang/invoke/MethodHandle" ∧ y.cls ≠ "java/lang/invoke/VarHandle")
    {W9 : Nat} {Pre : Pt → Array Value → Prop} {Post : Pt → Array Value → Option Value → Pt → Prop} {PostX : Pt → Array Value → Addr → Pt → Prop} (hK : vx_Back l R p e below s args y 3 W9 Pre Post PostX)
    {g : JFrame} (hg : g.method = m) (hsize : g.locals.size = c.maxLocals) {argsL rest : List Value} (hlen : ∀ sig, parseMethodDescriptor y.desc = some sig → argsL.length = sig.parameters.length)
    (hstack : g.stack = argsL.reverse ++ rest) (hW : 2 * g.monitorRoom + (rest.map fun v => v.category).sum ≤ W9) (hdg : decode c.code g.pc = .ok (.invokestatic index, 3))
    (hpre : ∀ vm₁, s.WarmedH vm₁ → Pre ⟨T.setVm vm₁, locs, cells, slots⟩ argsL.toArray) :
    (∃ (v : Option Value) (vm₁ : Vm) (B : Pt), s.WarmedH vm₁ ∧ Stand p l e R s m args below meth c B.U B.locs B.cells B.slots ∧ Post ⟨T.setVm vm₁, locs, cells, slots⟩ argsL.toArray v B ∧
      ∀ target, Steps p.tables e below (B.U.setTop { g with pc := g.pc + 3, stack := v.toList ++ rest }) target → Steps p.tables e below (T.setTop g) target) ∨
    (∃ (q : Addr) (vm₁ : Vm) (B : Pt), s.WarmedH vm₁ ∧ Stand p l e R s m args below meth c B.U B.locs B.cells B.slots ∧ PostX ⟨T.setVm vm₁, locs, cells, slots⟩ argsL.toArray q B ∧
      Steps p.tables e below (T.setTop g) ((B.U.setTop { g with stack := rest }).pushFrame (.throwing q))) := by
  obtain ⟨mk, methM, cM, hnamed, hmethM, -, -, -, -, -, -, hsigM⟩ := Cond.codeWith_spec hcode
  have hstatic : methM.isStatic = true := Cond.static_spec hnamed hmethM hstat
  obtain ⟨kP, hkP, -⟩ := className_of_methodNamed hnamed
  have hinitP : kP.init = .initialized := Cond.initialized_spec (findClass_of_methodNamed hnamed) hkP hinit
  obtain ⟨vm₁, X₁, hstep₁⟩ := X.invokestatic hexec hown hlink hnamed hmethM hstatic hkP hinitP hy (g := g) hg (argsL := argsL) (rest := rest) (hlen _ hsigM) hstack hdg
  rcases hK m meth c ⟨T.setVm vm₁, locs, cells, slots⟩ { g with stack := rest } (.invokestatic index) mk argsL.toArray X₁ hg hsize hdg hW (X₁.named hnamed) (hpre vm₁ X₁.warmed) with ⟨v, B, X', hpost, hsteps⟩ | ⟨q, B, X', hpost, hsteps⟩
  · exact Or.inl ⟨v, vm₁, B, X₁.warmed, X', hpost, fun target h => hstep₁ _ fun acts => by rw [doInvoke_state]; exact hsteps.trans h⟩
  · exact Or.inr ⟨q, vm₁, B, X₁.warmed, X', hpost, hstep₁ _ fun acts => by rw [doInvoke_state]; exact hsteps⟩
theorem vx_callVW (X : Stand p l e R s m args below meth c T locs cells slots) (hexec : p.tables.exec = Jvm.exec) {own C : String} {index : Nat} {y : MethodName} {bytes : ByteArray} {maxL : Nat} {ret : Option FieldType} {hh : List (Nat × Nat × Nat × Nat)}
    (hown : s.vm.findClass own = some m.cls) (hlink : (Cond.methodLink own index y).before args s = true) (hinst : (Cond.instanceMethod y).before args s = true) (hsel : (Cond.selects C y y).before args s = true)
    (hcode : (Cond.codeWith y bytes maxL ret hh).before args s = true) (hy : y.cls ≠ "java/lang/invoke/MethodHandle" ∧ y.cls ≠ "java/lang/invoke/VarHandle")
    {W9 : Nat} {Pre : Pt → Array Value → Prop} {Post : Pt → Array Value → Option Value → Pt → Prop} (hK : Back l R p e below s args y 3 W9 Pre Post)
    {b : Addr} {cellB : Cell} (hcell : T.heap[b]? = some cellB) (hobj : cellB.vm.isStatics = false) (hcls : s.vm.findClass C = some cellB.cls)
    {g : JFrame} (hg : g.method = m) (hsize : g.locals.size = c.maxLocals) {argsL rest : List Value} (hlen : ∀ sig, parseMethodDescriptor y.desc = some sig → argsL.length = sig.parameters.length)
    (hstack : g.stack = argsL.reverse ++ .ref b :: rest) (hW : 2 * g.monitorRoom + (rest.map fun v => v.category).sum ≤ W9) (hdg : decode c.code g.pc = .ok (.invokevirtual index, 3))
    (hpre : ∀ vm₁, s.WarmedH vm₁ → Pre ⟨T.setVm vm₁, locs, cells, slots⟩ (Value.ref b :: argsL).toArray) :
    ∃ (v : Option Value) (vm₁ : Vm) (B : Pt), s.WarmedH vm₁ ∧ Stand p l e R s m args below meth c B.U B.locs B.cells B.slots ∧ Post ⟨T.setVm vm₁, locs, cells, slots⟩ (Value.ref b :: argsL).toArray v B ∧
      ∀ target, Steps p.tables e below (B.U.setTop { g with pc := g.pc + 3, stack := v.toList ++ rest }) target → Steps p.tables e below (T.setTop g) target := by
  obtain ⟨mk, methM, hnamed, hmethM, hstM, habM⟩ := Cond.instanceMethod_spec hinst
  obtain ⟨m8, methM', cM, hn8, hmethM', -, -, -, -, -, -, hsigM⟩ := Cond.codeWith_spec hcode
  cases Option.some.inj (hn8.symm.trans hnamed)
  cases hmethM.symm.trans hmethM'
  obtain ⟨c2, r2, m2, q1, q2, q3, q4, kP, hkP, hkPi⟩ := Cond.selects_spec hsel
  cases hcls.symm.trans q1
  cases (State.methodFound?_of_named hnamed hy).symm.trans q2
  cases hnamed.symm.trans q3
  have hselP : selectMethod e.platform s.vm cellB.cls mk = .method mk := by rw [Launch.admits_selectMethod X.admits]; exact q4
  obtain ⟨vm₁, X₁, hstep₁⟩ := X.invokevirtual hexec hown hlink hnamed hmethM hstM hkP hkPi hy (a := b) (cell := cellB) hcell
    (fun z h => by rw [h] at hobj; cases hobj) hselP hmethM habM hkP hkPi (g := g) hg (argsL := argsL) (rest := rest) (hlen _ hsigM) hstack hdg
  obtain ⟨v, B, X', hpost, hsteps⟩ := hK m meth c ⟨T.setVm vm₁, locs, cells, slots⟩ { g with stack := rest } (.invokevirtual index) mk (Value.ref b :: argsL).toArray X₁ hg hsize hdg hW (X₁.named hnamed) (hpre vm₁ X₁.warmed)
  exact ⟨v, vm₁, B, X₁.warmed, X', hpost, fun target h => hstep₁ _ fun acts => by rw [doInvoke_state]; exact hsteps.trans h⟩
abbrev vx_CVW (R : Room) (s : State) (args : Array Value) (own C : String) (index : Nat) (y : MethodName) (bytes : ByteArray) (maxL : Nat) (ret : Option FieldType) (hh : List (Nat × Nat × Nat × Nat)) (ws : List Cond) (rm : Room) (mc ms n : Nat) : Prop :=
  (rm.cells = mc ∧ rm.slots = ms ∧ rm.frames + 1 ≤ R.frames ∧ 8 + (maxL + 11) + rm.locals ≤ R.locals ∧ (∀ w ∈ ws, ∀ (a' : Array Value) (U : State), s.WarmedH U.vm → w.before a' U = true) ∧ Cond.codeWith y bytes maxL ret hh ∈ ws) ∧
  (Cond.codeWith y bytes maxL ret hh).before args s = true ∧ (Cond.initialized y.cls).before args s = true ∧ (y.cls ≠ "java/lang/invoke/MethodHandle" ∧ y.cls ≠ "java/lang/invoke/VarHandle") ∧
  (∀ sig, parseMethodDescriptor y.desc = some sig → n = sig.parameters.length) ∧ (Cond.methodLink own index y).before args s = true ∧ (Cond.instanceMethod y).before args s = true ∧ (Cond.selects C y y).before args s = true
theorem vx_cwVW {own C : String} {index maxL mc ms : Nat} {y : MethodName} {bytes : ByteArray} {ret : Option FieldType} {hh : List (Nat × Nat × Nat × Nat)} {Ts ws ws' : List Cond} {rm : Room} (n : Nat) (ht : ∀ w ∈ Ts, w.before args s = true) (hT : GoodIn Ts (wsV own index C y ws)) (hw : ws = Cond.codeWith y bytes maxL ret hh :: ws') (hrc : rm.cells = mc) (hrs : rm.slots = ms)
    (hd : y.cls = C ∧ y.cls ≠ "java/lang/invoke/MethodHandle" ∧ y.cls ≠ "java/lang/invoke/VarHandle" ∧ (parseMethodDescriptor y.desc).map (fun d => d.parameters.length) = some n) (hR : rm.frames + 1 ≤ R.frames ∧ 8 + (maxL + 11) + rm.locals ≤ R.locals) :
    vx_CVW R s args own C index y bytes maxL ret hh ws rm mc ms n := by
  obtain ⟨hC, hd⟩ := hd
  subst hC
  have ok : ∀ w ∈ wsV own index y.cls y ws, w.before args s = true := fun w h => ht w (hT w h).1
  have hG : GoodIn Ts ws := fun w h => hT w (by unfold wsV; exact List.mem_append_right _ h)
  have hc : Cond.codeWith y bytes maxL ret hh ∈ ws := by rw [hw]; exact List.mem_cons_self
  refine ⟨⟨hrc, hrs, hR.1, hR.2, pay_in ht hG, hc⟩, ht _ (hG _ hc).1, ok _ (by simp [wsV]), ⟨hd.1, hd.2.1⟩, fun sig h => ?_, ok _ (by simp [wsV]), ok _ (by simp [wsV]), ok _ (by simp [wsV])⟩
  have h2 := hd.2.2
  rw [h] at h2
  exact (Option.some.inj h2).symm
theorem vx_runVW {y : MethodName} {bytes cc : ByteArray} {maxL nL mc ms n index : Nat} {ret : Option FieldType} {hh : List (Nat × Nat × Nat × Nat)} {ws : List Cond} {rm : Room} {Pc : Array Value → State → Prop} {Qc : Array Value → State → Outcome → State → Prop} {free : Addr → Prop} {Ts : List Cond} {own C : String} {b : Addr} {As rest : List Value} {g : JFrame}
    (S : CallFix p m c cc nL s args Ts own) (hM : Met l y ws rm Pc Qc mc ms free) (cw : vx_CVW R s args own C index y bytes maxL ret hh ws rm mc ms n) (hp : PreV s H C b Pc As)
    (hg : g.method = m) (hn : As.length = n) (hsize : g.locals.size = nL) (hstack : g.stack = As.reverse ++ .ref b :: rest) (hW : 2 * g.monitorRoom + (rest.map fun v => v.category).sum ≤ 8) (hdg : decode cc g.pc = .ok (.invokevirtual index, 3)) (hf : cells + mc ≤ R.cells ∧ slots + ms ≤ R.slots) :
    va_Run p l e R s m args below meth c H locs cells slots mc ms g rest (Qc (Value.ref b :: As).toArray) free := by
  obtain ⟨⟨hrc, hrs, hfr, hlo, hws, hcw⟩, hcode, hini, hy, hlen, hl, hin, hse⟩ := cw
  have hK : Back l R p e below s args y 3 8 (PreOf R mc ms Pc) (PostOf Qc mc ms free) := va_backW (hh := hh) (bytes := bytes) (maxL := maxL) (ret := ret) hM hp.1 hrc hrs hfr hlo hws hcw (fun a' U hW => word_at hW (Or.inl (by first | rfl | simp [Cond.onTables, Cond.keeps, Cond.steady])) hini)
  obtain ⟨hx, hb, hml, ho, -⟩ := S
  obtain ⟨-, ⟨cellB, hcB, hoB, hclB⟩, hPc⟩ := hp
  intro T hT X
  obtain ⟨v, vm₁, ⟨U', l2, c2, s2⟩, hW₁, X', ⟨g', mk, t, L, e1, e2, hq, h1, hL, h2, h3⟩, st⟩ := vx_callVW X hx (C := C) (hh := hh) (bytes := bytes) (maxL := maxL) (ret := ret) ho hl hin hse hcode hy hK (by rw [hT]; exact hcB) hoB hclB hg (hsize.trans hml.symm) (argsL := As) (rest := rest) (fun sig h => hn.trans (hlen sig h)) hstack hW (by rw [hb]; exact hdg)
    (fun vm₁ hW₁ => ⟨hf.1, hf.2, hPc (T.setVm vm₁) hT hW₁⟩)
  dsimp only [Pt.U, Pt.locs, Pt.cells, Pt.slots] at X' e1 e2 h1 h2 h3 st
  subst h1; subst h2; subst h3
  exact ⟨v, (T.setVm vm₁).calling g' mk (Value.ref b :: As).toArray, t, U', L, hT, X', hL, e1, e2, hq, st⟩
section
variable {y : MethodName} {bytes cc : ByteArray} {maxL nL mc ms n index : Nat} {ret : Option FieldType} {ws : List Cond} {rm : Room} {Pc : Array Value → State → Prop} {Qc : Array Value → State → Outcome → State → Prop} {XC : String → State → State → Prop} {free : Addr → Prop} {Ts : List Cond} {own C : String} {b : Addr} {As rest : List Value} {g : JFrame}
theorem vx_runVX {hh : List (Nat × Nat × Nat × Nat)} (S : CallFix p m c cc nL s args Ts own) (hM : vx_Met l y ws rm Pc Qc XC mc ms free) (cw : vx_CVW R s args own C index y bytes maxL ret hh ws rm mc ms n) (hp : PreV s H C b Pc As)
    (hg : g.method = m) (hn : As.length = n) (hsize : g.locals.size = nL) (hstack : g.stack = As.reverse ++ .ref b :: rest) (hW : 2 * g.monitorRoom + (rest.map fun v => v.category).sum ≤ 8) (hdg : decode cc g.pc = .ok (.invokevirtual index, 3)) (hf : cells + mc ≤ R.cells ∧ slots + ms ≤ R.slots) :
    vx_Run p l e R s m args below meth c H locs cells slots mc ms g rest (Qc (Value.ref b :: As).toArray) XC free := by
  obtain ⟨⟨hrc, hrs, hfr, hlo, hws, hcw⟩, hcode, hini, hy, hlen, hl, hin, hse⟩ := cw
  have hK : vx_Back l R p e below s args y 3 8 (PreOf R mc ms Pc) (PostOf Qc mc ms free) (vx_Post XC mc ms free) := vx_backW (hh := hh) (bytes := bytes) (maxL := maxL) (ret := ret) hM hp.1 hrc hrs hfr hlo hws hcw (fun a' U hW => word_at hW (Or.inl (by first | rfl | simp [Cond.onTables, Cond.keeps, Cond.steady])) hini)
  obtain ⟨hx, hb, hml, ho, -⟩ := S
  obtain ⟨-, ⟨cellB, hcB, hoB, hclB⟩, hPc⟩ := hp
  intro T hT X
  rcases vx_callVX X hx (C := C) (hh := hh) (bytes := bytes) (maxL := maxL) (ret := ret) ho hl hin hse hcode hy hK (by rw [hT]; exact hcB) hoB hclB hg (hsize.trans hml.symm) (argsL := As) (rest := rest) (fun sig h => hn.trans (hlen sig h)) hstack hW (by rw [hb]; exact hdg)
    (fun vm₁ hW₁ => ⟨hf.1, hf.2, hPc (T.setVm vm₁) hT hW₁⟩) with ⟨v, vm₁, ⟨U', l2, c2, s2⟩, hW₁, X', ⟨g', mk, t, L, e1, e2, hq, h1, hL, h2, h3⟩, st⟩ | ⟨q, vm₁, ⟨U', l2, c2, s2⟩, hW₁, X', ⟨g', mk, t, L, E, ce, e1, e2, hq, hce, hcv, hcl, h1, hL, h2, h3⟩, st⟩
  · dsimp only [Pt.U, Pt.locs, Pt.cells, Pt.slots] at X' e1 e2 h1 h2 h3 st
    subst h1; subst h2; subst h3
    exact Or.inl ⟨v, (T.setVm vm₁).calling g' mk (Value.ref b :: As).toArray, t, U', L, hT, X', hL, e1, e2, hq, st⟩
  · dsimp only [Pt.U, Pt.locs, Pt.cells, Pt.slots] at X' e1 e2 h1 h2 h3 st hcl
    subst h1; subst h2; subst h3
    exact Or.inr ⟨q, (T.setVm vm₁).calling g' mk (Value.ref b :: As).toArray, t, U', L, E, ce, hT, X', hL, e1, e2, hq, hce, hcv, vx_cls hW₁ hcl, st⟩
theorem vx_runSX {hh : List (Nat × Nat × Nat × Nat)} (S : CallFix p m c cc nL s args Ts own) (hM : vx_Met l y ws rm Pc Qc XC mc ms free) (cw : vx_CSW R s args own index y bytes maxL ret hh ws rm mc ms n) (hp : PreS s H Pc As)
    (hg : g.method = m) (hn : As.length = n) (hsize : g.locals.size = nL) (hstack : g.stack = As.reverse ++ rest) (hW : 2 * g.monitorRoom + (rest.map fun v => v.category).sum ≤ 8) (hdg : decode cc g.pc = .ok (.invokestatic index, 3)) (hf : cells + mc ≤ R.cells ∧ slots + ms ≤ R.slots) :
    vx_Run p l e R s m args below meth c H locs cells slots mc ms g rest (Qc As.toArray) XC free := by
  obtain ⟨⟨hrc, hrs, hfr, hlo, hws, hcw⟩, hcode, hini, hy, hlen, hl, hstt⟩ := cw
  have hK : vx_Back l R p e below s args y 3 8 (PreOf R mc ms Pc) (PostOf Qc mc ms free) (vx_Post XC mc ms free) := vx_backW (hh := hh) (bytes := bytes) (maxL := maxL) (ret := ret) hM hp.1 hrc hrs hfr hlo hws hcw (fun a' U hW => word_at hW (Or.inl (by first | rfl | simp [Cond.onTables, Cond.keeps, Cond.steady])) hini)
  obtain ⟨hx, hb, hml, ho, -⟩ := S
  intro T hT X
  rcases vx_callSX X hx (hh := hh) (bytes := bytes) (maxL := maxL) (ret := ret) ho hl hstt hini hcode hy hK hg (hsize.trans hml.symm) (argsL := As) (rest := rest) (fun sig h => hn.trans (hlen sig h)) hstack hW (by rw [hb]; exact hdg)
    (fun vm₁ hW₁ => ⟨hf.1, hf.2, hp.2 (T.setVm vm₁) hT hW₁⟩) with ⟨v, vm₁, ⟨U', l2, c2, s2⟩, hW₁, X', ⟨g', mk, t, L, e1, e2, hq, h1, hL, h2, h3⟩, st⟩ | ⟨q, vm₁, ⟨U', l2, c2, s2⟩, hW₁, X', ⟨g', mk, t, L, E, ce, e1, e2, hq, hce, hcv, hcl, h1, hL, h2, h3⟩, st⟩
  · dsimp only [Pt.U, Pt.locs, Pt.cells, Pt.slots] at X' e1 e2 h1 h2 h3 st
    subst h1; subst h2; subst h3
    exact Or.inl ⟨v, (T.setVm vm₁).calling g' mk As.toArray, t, U', L, hT, X', hL, e1, e2, hq, st⟩
  · dsimp only [Pt.U, Pt.locs, Pt.cells, Pt.slots] at X' e1 e2 h1 h2 h3 st hcl
    subst h1; subst h2; subst h3
    exact Or.inr ⟨q, (T.setVm vm₁).calling g' mk As.toArray, t, U', L, E, ce, hT, X', hL, e1, e2, hq, hce, hcv, vx_cls hW₁ hcl, st⟩
end
end VXH
theorem vx_ofWH {l : Launch} {y : MethodName} {ws ws' : List Cond} {rm : Room} {Pc : Array Value → State → Prop} {Qc : Array Value → State → Outcome → State → Prop} {XC : String → State → State → Prop} {mc ms : Nat} {free : Addr → Prop} {cc : ByteArray} {maxL : Nat} {ret : Option FieldType} {hh : List (Nat × Nat × Nat × Nat)}
    (hy : plainName y.cls = true) (hw : ws = Cond.codeWith y cc maxL ret hh :: ws')
    (body : ∀ p e s m args below meth c s₁, BodyLoose p l y (headSpec ws rm) cc maxL ret e s m args below meth c s₁ → c.maxLocals = maxL → Pc args s →
      W p l e (headSpec ws rm).room s m args below meth c s.heap [] 0 0 (vx_MQ below Qc XC args s mc ms free) (entryFrame m args maxL)) : vx_Met l y ws rm Pc Qc XC mc ms free := by
  refine MetFree.of_bodyS (code := cc) (maxLocals := maxL) (ret := ret) hy ?_ ?_
  · intro args s m h hn
    obtain ⟨m9, meth, c, hn9, h1, h2, h3, h4, -, h5, h6, -⟩ := Cond.codeWith_spec (atoms_spec (ws := ws) h _ (by rw [hw]; exact List.mem_cons_self))
    cases hn.symm.trans hn9
    exact ⟨meth, c, h1, h2, h3, h4, h5, h6⟩
  · intro p e s m args below meth c s₁ B hml hP _
    have hh0 : s₁.heap = s.heap := by rw [B.state]; rfl
    obtain ⟨t, a1, o, b1, b2, b3⟩ := body p e s m args below meth c s₁ B hml hP s₁ hh0 (Stand.of_body B)
    exact ⟨t, o, a1, b1, b2, b3⟩
/-! ===== END ===== -/

/-! ===== BEGIN printed: names, fields, word lists, decode rows ===== -/
def RX0 : String := "SharedColumns$Question"
def TX0 : u_T := fun k => match k with
  | 0 => ("SharedColumns$Question", "letters", "[I", true)
  | 1 => ("SharedColumns$Question", "signs", "[I", true)
  | 2 => ("SharedColumns$Question", "numbers", "[I", true)
  | 3 => ("SharedColumns$Question", "terms", "I", false)
  | 4 => ("SharedColumns$Question", "reading", "I", false)
  | _ => ("SharedColumns$Question", "negative", "Z", false)
def tyX0 : Nat → FieldType := fun k => match k with
  | 0 => .array .int
  | 1 => .array .int
  | 2 => .array .int
  | 3 => .int
  | 4 => .int
  | _ => .boolean
abbrev wsX00 : List Cond := u_ws RX0 TX0 6
theorem nmX0 : ∀ a, a < 6 → ∀ b, b < 6 → a ≠ b → (TX0 a).2.1 ≠ (TX0 b).2.1 := by decide +kernel
theorem tyX0_ok : ∀ k, k < 6 → parseFieldDescriptor (TX0 k).2.2.1 = some (tyX0 k) := by decide +kernel
abbrev cX0_init : ByteArray := prog_2_method_1_code
def yX0_init : MethodName := ⟨RX0, "<init>", "()V"⟩
abbrev cX0_read : ByteArray := prog_2_method_2_code
def yX0_read : MethodName := ⟨RX0, "read", "([II)I"⟩
abbrev cX0_isWhole : ByteArray := prog_2_method_3_code
def yX0_isWhole : MethodName := ⟨RX0, "isWhole", "()Z"⟩
abbrev cX0_allows : ByteArray := prog_2_method_4_code
def yX0_allows : MethodName := ⟨RX0, "allows", "(II)Z"⟩
abbrev cX0_take : ByteArray := prog_2_method_5_code
def yX0_take : MethodName := ⟨RX0, "take", "(I)Z"⟩
abbrev cX0_takeLetter : ByteArray := prog_2_method_6_code
def yX0_takeLetter : MethodName := ⟨RX0, "takeLetter", "(I)Z"⟩
abbrev cX0_takeSign : ByteArray := prog_2_method_7_code
def yX0_takeSign : MethodName := ⟨RX0, "takeSign", "(I)Z"⟩
abbrev cX0_takeMinus : ByteArray := prog_2_method_8_code
def yX0_takeMinus : MethodName := ⟨RX0, "takeMinus", "(I)Z"⟩
abbrev cX0_takeDigit : ByteArray := prog_2_method_9_code
def yX0_takeDigit : MethodName := ⟨RX0, "takeDigit", "(I)Z"⟩
abbrev cX0_mayGrow : ByteArray := prog_2_method_10_code
def yX0_mayGrow : MethodName := ⟨RX0, "mayGrow", "()Z"⟩
abbrev cX0_takeAnd : ByteArray := prog_2_method_11_code
def yX0_takeAnd : MethodName := ⟨RX0, "takeAnd", "(I)Z"⟩
def RX1 : String := "SharedColumns$State"
def TX1 : u_T := fun k => match k with
  | 0 => ("SharedColumns$State", "tenants", "[LSharedColumns$Tenant;", true)
  | 1 => ("SharedColumns$State", "owners", "[I", true)
  | 2 => ("SharedColumns$State", "values", "[I", true)
  | _ => ("SharedColumns$State", "rows", "I", false)
def tyX1 : Nat → FieldType := fun k => match k with
  | 0 => .array (.object "SharedColumns$Tenant")
  | 1 => .array .int
  | 2 => .array .int
  | _ => .int
abbrev wsX10 : List Cond := u_ws RX1 TX1 4
theorem nmX1 : ∀ a, a < 4 → ∀ b, b < 4 → a ≠ b → (TX1 a).2.1 ≠ (TX1 b).2.1 := by decide +kernel
theorem tyX1_ok : ∀ k, k < 4 → parseFieldDescriptor (TX1 k).2.2.1 = some (tyX1 k) := by decide +kernel
abbrev cX1_init : ByteArray := prog_3_method_1_code
def yX1_init : MethodName := ⟨RX1, "<init>", "()V"⟩
abbrev cX1_copyFrom : ByteArray := prog_3_method_2_code
def yX1_copyFrom : MethodName := ⟨RX1, "copyFrom", "(LSharedColumns$State;)V"⟩
abbrev cX1_ownerOf : ByteArray := prog_3_method_3_code
def yX1_ownerOf : MethodName := ⟨RX1, "ownerOf", "(I)LSharedColumns$Tenant;"⟩
abbrev cX1_valueAt : ByteArray := prog_3_method_4_code
def yX1_valueAt : MethodName := ⟨RX1, "valueAt", "(II)I"⟩
abbrev cX1_setValue : ByteArray := prog_3_method_5_code
def yX1_setValue : MethodName := ⟨RX1, "setValue", "(III)V"⟩
abbrev cX1_shiftValues : ByteArray := prog_3_method_6_code
def yX1_shiftValues : MethodName := ⟨RX1, "shiftValues", "(III)V"⟩
abbrev cX1_insertRow : ByteArray := prog_3_method_7_code
def yX1_insertRow : MethodName := ⟨RX1, "insertRow", "(I)I"⟩
abbrev cX1_removeRows : ByteArray := prog_3_method_8_code
def yX1_removeRows : MethodName := ⟨RX1, "removeRows", "([II)V"⟩
abbrev cX1_orderRowsOf : ByteArray := prog_3_method_9_code
def yX1_orderRowsOf : MethodName := ⟨RX1, "orderRowsOf", "(LSharedColumns$State;)V"⟩
abbrev cX1_copyRow : ByteArray := prog_3_method_10_code
def yX1_copyRow : MethodName := ⟨RX1, "copyRow", "(LSharedColumns$State;II)V"⟩
abbrev cX1_tableOf : ByteArray := prog_3_method_11_code
def yX1_tableOf : MethodName := ⟨RX1, "tableOf", "(I)I"⟩
abbrev cX1_tableRows : ByteArray := prog_3_method_12_code
def yX1_tableRows : MethodName := ⟨RX1, "tableRows", "()I"⟩
abbrev cX1_tableValues : ByteArray := prog_3_method_13_code
def yX1_tableValues : MethodName := ⟨RX1, "tableValues", "()I"⟩
abbrev cX1_valuesIn : ByteArray := prog_3_method_14_code
def yX1_valuesIn : MethodName := ⟨RX1, "valuesIn", "(I)I"⟩
abbrev cX1_rowsOf : ByteArray := prog_3_method_15_code
def yX1_rowsOf : MethodName := ⟨RX1, "rowsOf", "(I)I"⟩
abbrev cX1_rowsWithValue : ByteArray := prog_3_method_16_code
def yX1_rowsWithValue : MethodName := ⟨RX1, "rowsWithValue", "(II)I"⟩
abbrev cX1_rowsWith : ByteArray := prog_3_method_17_code
def yX1_rowsWith : MethodName := ⟨RX1, "rowsWith", "(III)I"⟩
abbrev cX1_sumOf : ByteArray := prog_3_method_18_code
def yX1_sumOf : MethodName := ⟨RX1, "sumOf", "(II)I"⟩
abbrev cX1_unlikeValues : ByteArray := prog_3_method_19_code
def yX1_unlikeValues : MethodName := ⟨RX1, "unlikeValues", "(II)I"⟩
abbrev cX1_standsAhead : ByteArray := prog_3_method_20_code
def yX1_standsAhead : MethodName := ⟨RX1, "standsAhead", "(III)Z"⟩
abbrev cX1_columnsWithMeanings : ByteArray := prog_3_method_21_code
def yX1_columnsWithMeanings : MethodName := ⟨RX1, "columnsWithMeanings", "(II)I"⟩
abbrev cX1_indexes : ByteArray := prog_3_method_22_code
def yX1_indexes : MethodName := ⟨RX1, "indexes", "()I"⟩
abbrev cX1_movedTenants : ByteArray := prog_3_method_23_code
def yX1_movedTenants : MethodName := ⟨RX1, "movedTenants", "()I"⟩
def RX2 : String := "SharedColumns$Tenant"
def TX2 : u_T := fun k => match k with
  | 0 => ("SharedColumns$Tenant", "letters", "[I", true)
  | 1 => ("SharedColumns$Tenant", "kinds", "[I", true)
  | 2 => ("SharedColumns$Tenant", "indexed", "[Z", true)
  | 3 => ("SharedColumns$Tenant", "rowLimit", "I", false)
  | 4 => ("SharedColumns$Tenant", "columnLimit", "I", false)
  | 5 => ("SharedColumns$Tenant", "moved", "Z", false)
  | 6 => ("SharedColumns$Tenant", "questions", "I", false)
  | 7 => ("SharedColumns$Tenant", "rowsLooked", "I", false)
  | 8 => ("SharedColumns$Tenant", "answers", "I", false)
  | _ => ("SharedColumns$Tenant", "refusals", "I", false)
def tyX2 : Nat → FieldType := fun k => match k with
  | 0 => .array .int
  | 1 => .array .int
  | 2 => .array .boolean
  | 3 => .int
  | 4 => .int
  | 5 => .boolean
  | 6 => .int
  | 7 => .int
  | 8 => .int
  | _ => .int
abbrev wsX20 : List Cond := u_ws RX2 TX2 10
theorem nmX2 : ∀ a, a < 10 → ∀ b, b < 10 → a ≠ b → (TX2 a).2.1 ≠ (TX2 b).2.1 := by decide +kernel
theorem tyX2_ok : ∀ k, k < 10 → parseFieldDescriptor (TX2 k).2.2.1 = some (tyX2 k) := by decide +kernel
abbrev cX2_init : ByteArray := prog_4_method_1_code
def yX2_init : MethodName := ⟨RX2, "<init>", "()V"⟩
abbrev cX2_copyFrom : ByteArray := prog_4_method_2_code
def yX2_copyFrom : MethodName := ⟨RX2, "copyFrom", "(LSharedColumns$Tenant;)V"⟩
abbrev cX2_columnOf : ByteArray := prog_4_method_3_code
def yX2_columnOf : MethodName := ⟨RX2, "columnOf", "(I)I"⟩
abbrev cX2_meanings : ByteArray := prog_4_method_4_code
def yX2_meanings : MethodName := ⟨RX2, "meanings", "()I"⟩
abbrev cX2_define : ByteArray := prog_4_method_5_code
def yX2_define : MethodName := ⟨RX2, "define", "(IIIZ)V"⟩
abbrev cX2_makeSpare : ByteArray := prog_4_method_6_code
def yX2_makeSpare : MethodName := ⟨RX2, "makeSpare", "(I)V"⟩
abbrev cX2_refuse : ByteArray := prog_4_method_7_code
def yX2_refuse : MethodName := ⟨RX2, "refuse", "(I)I"⟩
def RX3 : String := "SharedColumns"
def TX3 : u_T := fun k => match k with
  | 0 => ("SharedColumns", "saved", "[LSharedColumns$State;", true)
  | 1 => ("SharedColumns", "buffer", "[I", true)
  | 2 => ("SharedColumns", "question", "LSharedColumns$Question;", true)
  | 3 => ("SharedColumns", "found", "[I", true)
  | 4 => ("SharedColumns", "state", "LSharedColumns$State;", false)
  | 5 => ("SharedColumns", "savedCount", "I", false)
  | _ => ("SharedColumns", "length", "I", false)
def tyX3 : Nat → FieldType := fun k => match k with
  | 0 => .array (.object "SharedColumns$State")
  | 1 => .array .int
  | 2 => .object "SharedColumns$Question"
  | 3 => .array .int
  | 4 => .object "SharedColumns$State"
  | 5 => .int
  | _ => .int
abbrev wsX30 : List Cond := u_ws RX3 TX3 7
theorem nmX3 : ∀ a, a < 7 → ∀ b, b < 7 → a ≠ b → (TX3 a).2.1 ≠ (TX3 b).2.1 := by decide +kernel
theorem tyX3_ok : ∀ k, k < 7 → parseFieldDescriptor (TX3 k).2.2.1 = some (tyX3 k) := by decide +kernel
abbrev cX3_init : ByteArray := prog_1_method_1_code
def yX3_init : MethodName := ⟨RX3, "<init>", "()V"⟩
abbrev cX3_mean : ByteArray := prog_1_method_2_code
def yX3_mean : MethodName := ⟨RX3, "mean", "(III)I"⟩
abbrev cX3_forget : ByteArray := prog_1_method_3_code
def yX3_forget : MethodName := ⟨RX3, "forget", "(II)I"⟩
abbrev cX3_pack : ByteArray := prog_1_method_4_code
def yX3_pack : MethodName := ⟨RX3, "pack", "(I)I"⟩
abbrev cX3_index : ByteArray := prog_1_method_5_code
def yX3_index : MethodName := ⟨RX3, "index", "(II)I"⟩
abbrev cX3_row : ByteArray := prog_1_method_6_code
def yX3_row : MethodName := ⟨RX3, "row", "(I)I"⟩
abbrev cX3_put : ByteArray := prog_1_method_7_code
def yX3_put : MethodName := ⟨RX3, "put", "(III)I"⟩
abbrev cX3_remove : ByteArray := prog_1_method_8_code
def yX3_remove : MethodName := ⟨RX3, "remove", "(I)I"⟩
abbrev cX3_move : ByteArray := prog_1_method_9_code
def yX3_move : MethodName := ⟨RX3, "move", "(I)I"⟩
abbrev cX3_limit : ByteArray := prog_1_method_10_code
def yX3_limit : MethodName := ⟨RX3, "limit", "(IZI)I"⟩
abbrev cX3_append : ByteArray := prog_1_method_11_code
def yX3_append : MethodName := ⟨RX3, "append", "(I)I"⟩
abbrev cX3_clearBuffer : ByteArray := prog_1_method_12_code
def yX3_clearBuffer : MethodName := ⟨RX3, "clearBuffer", "()I"⟩
abbrev cX3_ask : ByteArray := prog_1_method_14_code
def yX3_ask : MethodName := ⟨RX3, "ask", "(I)I"⟩
abbrev cX3_undo : ByteArray := prog_1_method_16_code
def yX3_undo : MethodName := ⟨RX3, "undo", "()I"⟩
abbrev cX3_rowOf : ByteArray := prog_1_method_17_code
def yX3_rowOf : MethodName := ⟨RX3, "rowOf", "(II)I"⟩
abbrev cX3_column : ByteArray := prog_1_method_18_code
def yX3_column : MethodName := ⟨RX3, "column", "(III)I"⟩
abbrev cX3_tenant : ByteArray := prog_1_method_19_code
def yX3_tenant : MethodName := ⟨RX3, "tenant", "(II)I"⟩
abbrev cX3_answer : ByteArray := prog_1_method_20_code
def yX3_answer : MethodName := ⟨RX3, "answer", "(III)I"⟩
abbrev cX3_count : ByteArray := prog_1_method_21_code
def yX3_count : MethodName := ⟨RX3, "count", "(I)I"⟩
abbrev cX3_looked : ByteArray := prog_1_method_22_code
def yX3_looked : MethodName := ⟨RX3, "looked", "(IZ)I"⟩
abbrev cX3_bestIndex : ByteArray := prog_1_method_23_code
def yX3_bestIndex : MethodName := ⟨RX3, "bestIndex", "(I)I"⟩
abbrev cX3_fullness : ByteArray := prog_1_method_24_code
def yX3_fullness : MethodName := ⟨RX3, "fullness", "()D"⟩
abbrev cX3_require : ByteArray := prog_1_method_30_code
def yX3_require : MethodName := ⟨RX3, "require", "(Z)V"⟩
abbrev cX3_requireRow : ByteArray := prog_1_method_31_code
def yX3_requireRow : MethodName := ⟨RX3, "requireRow", "(I)V"⟩
abbrev cX3_isTenant : ByteArray := prog_1_method_32_code
def yX3_isTenant : MethodName := ⟨RX3, "isTenant", "(I)Z"⟩
abbrev cX3_isLetter : ByteArray := prog_1_method_33_code
def yX3_isLetter : MethodName := ⟨RX3, "isLetter", "(I)Z"⟩
abbrev cX3_fits : ByteArray := prog_1_method_34_code
def yX3_fits : MethodName := ⟨RX3, "fits", "(II)Z"⟩
abbrev cX3_asNumber : ByteArray := prog_1_method_35_code
def yX3_asNumber : MethodName := ⟨RX3, "asNumber", "(Z)I"⟩
abbrev cX3_save : ByteArray := prog_1_method_36_code
def yX3_save : MethodName := ⟨RX3, "save", "()LSharedColumns$State;"⟩
abbrev cX3_readQuestion : ByteArray := prog_1_method_37_code
def yX3_readQuestion : MethodName := ⟨RX3, "readQuestion", "()Z"⟩
abbrev cX3_collectAnswers : ByteArray := prog_1_method_38_code
def yX3_collectAnswers : MethodName := ⟨RX3, "collectAnswers", "(I)I"⟩
abbrev cX3_isAnswer : ByteArray := prog_1_method_39_code
def yX3_isAnswer : MethodName := ⟨RX3, "isAnswer", "(ILSharedColumns$Tenant;)Z"⟩
abbrev cX3_sortAnswers : ByteArray := prog_1_method_40_code
def yX3_sortAnswers : MethodName := ⟨RX3, "sortAnswers", "(II)V"⟩
abbrev cX3_comesBefore : ByteArray := prog_1_method_41_code
def yX3_comesBefore : MethodName := ⟨RX3, "comesBefore", "(III)Z"⟩
abbrev cX3_answerAt : ByteArray := prog_1_method_42_code
def yX3_answerAt : MethodName := ⟨RX3, "answerAt", "(II)I"⟩
abbrev cX3_rowsToLookAt : ByteArray := prog_1_method_43_code
def yX3_rowsToLookAt : MethodName := ⟨RX3, "rowsToLookAt", "(IZI)I"⟩
abbrev cX3_bestLetter : ByteArray := prog_1_method_44_code
def yX3_bestLetter : MethodName := ⟨RX3, "bestLetter", "(I)I"⟩
def RX4 : String := "SharedColumnsModel"
def TX4 : u_T := fun k => match k with
  | _ => ("", "", "", false)
def tyX4 : Nat → FieldType := fun k => match k with
  | _ => .int
abbrev wsX40 : List Cond := u_ws RX4 TX4 0
theorem nmX4 : ∀ a, a < 0 → ∀ b, b < 0 → a ≠ b → (TX4 a).2.1 ≠ (TX4 b).2.1 := by decide +kernel
theorem tyX4_ok : ∀ k, k < 0 → parseFieldDescriptor (TX4 k).2.2.1 = some (tyX4 k) := by decide +kernel
def RJ9 : String := "java/lang/Math"
def TJ9 : u_T := fun k => match k with
  | _ => ("", "", "", false)
def tyJ9 : Nat → FieldType := fun k => match k with
  | _ => .int
abbrev wsJ90 : List Cond := u_ws RJ9 TJ9 0
theorem nmJ9 : ∀ a, a < 0 → ∀ b, b < 0 → a ≠ b → (TJ9 a).2.1 ≠ (TJ9 b).2.1 := by decide +kernel
theorem tyJ9_ok : ∀ k, k < 0 → parseFieldDescriptor (TJ9 k).2.2.1 = some (tyJ9 k) := by decide +kernel
abbrev cJ9_abs_0f7a4 : ByteArray := prog_11_method_59_code
def yJ9_abs_0f7a4 : MethodName := ⟨RJ9, "abs", "(I)I"⟩
abbrev cJ9_min_7cf53 : ByteArray := prog_11_method_69_code
def yJ9_min_7cf53 : MethodName := ⟨RJ9, "min", "(II)I"⟩
def RJ0 : String := "java/lang/String"
def TJ0 : u_T := fun k => match k with
  | _ => ("", "", "", false)
def tyJ0 : Nat → FieldType := fun k => match k with
  | _ => .int
abbrev wsJ00 : List Cond := u_ws RJ0 TJ0 0
theorem nmJ0 : ∀ a, a < 0 → ∀ b, b < 0 → a ≠ b → (TJ0 a).2.1 ≠ (TJ0 b).2.1 := by decide +kernel
theorem tyJ0_ok : ∀ k, k < 0 → parseFieldDescriptor (TJ0 k).2.2.1 = some (tyJ0 k) := by decide +kernel
def RJ10 : String := "java/lang/System"
def TJ10 : u_T := fun k => match k with
  | _ => ("", "", "", false)
def tyJ10 : Nat → FieldType := fun k => match k with
  | _ => .int
abbrev wsJ100 : List Cond := u_ws RJ10 TJ10 0
theorem nmJ10 : ∀ a, a < 0 → ∀ b, b < 0 → a ≠ b → (TJ10 a).2.1 ≠ (TJ10 b).2.1 := by decide +kernel
theorem tyJ10_ok : ∀ k, k < 0 → parseFieldDescriptor (TJ10 k).2.2.1 = some (tyJ10 k) := by decide +kernel
def RL : String := "SharedColumnsLaw"
abbrev cL_low : ByteArray := method_2_code
def yL_low : MethodName := ⟨RL, "low", "(II)I"⟩
abbrev cL_cell : ByteArray := method_3_code
def yL_cell : MethodName := ⟨RL, "cell", "([II)I"⟩
abbrev cL_undo : ByteArray := method_4_code
def yL_undo : MethodName := ⟨RL, "undo", "(LSharedColumns;)I"⟩
abbrev cL_table : ByteArray := method_5_code
def yL_table : MethodName := ⟨RL, "table", "(LSharedColumns;)Z"⟩
abbrev cL_asks : ByteArray := method_6_code
def yL_asks : MethodName := ⟨RL, "asks", "(LSharedColumns;III)Z"⟩
abbrev cL_act : ByteArray := method_7_code
def yL_act : MethodName := ⟨RL, "act", "(LSharedColumns;[II)I"⟩
abbrev cL_law : ByteArray := code
def yL_law : MethodName := ⟨RL, "law", "([I)Z"⟩
abbrev vwCl : List vw_C := [(RX0, TX0, 6), (RX1, TX1, 4), (RX2, TX2, 10), (RX3, TX3, 7)]
end
section
theorem dtab {b : ByteArray} {tb : List (Nat × Instr × Nat)} (h : tb.all (fun q => decide (decode b q.1 = .ok q.2)) = true) : ∀ (i : Nat) (q : Nat × Instr × Nat), tb[i]? = some q → decode b q.1 = .ok q.2 := fun i q hq => of_decide_eq_true (List.all_eq_true.mp h q (List.mem_of_getElem? hq))
def tbX0_init_0 : List (Nat × Instr × Nat) := [(0, .aload_n 0, 1), (1, .invokespecial 3, 3), (4, .aload_n 0, 1), (5, .bipush 10, 2), (7, .newarray .int, 2), (9, .putfield 9, 3), (12, .aload_n 0, 1), (13, .bipush 10, 2), (15, .newarray .int, 2), (17, .putfield 15, 3), (20, .aload_n 0, 1), (21, .bipush 10, 2), (23, .newarray .int, 2), (25, .putfield 18, 3), (28, .return_, 1)]
theorem dtX0_init_0 : ∀ (i : Nat) (q : Nat × Instr × Nat), tbX0_init_0[i]? = some q → decode cX0_init q.1 = .ok q.2 := dtab (by decide +kernel)
def tbX0_read_0 : List (Nat × Instr × Nat) := [(0, .aload_n 0, 1), (1, .iconst 0, 1), (2, .putfield 21, 3), (5, .aload_n 0, 1), (6, .iconst 0, 1), (7, .putfield 25, 3), (10, .iconst 0, 1), (11, .istore_n 3, 1), (12, .iload_n 3, 1), (13, .iload_n 2, 1), (14, .if_icmp .ge 32, 3), (17, .iload_n 3, 1), (18, .aload_n 1, 1), (19, .arraylength, 1), (20, .if_icmp .ge 26, 3), (23, .aload_n 0, 1), (24, .aload_n 1, 1), (25, .iload_n 3, 1), (26, .iaload, 1), (27, .invokevirtual 28, 3), (30, .ifCond .ne 10, 3), (33, .aload_n 0, 1), (34, .iconst 5, 1), (35, .putfield 25, 3), (38, .iload_n 3, 1), (39, .ireturn, 1), (40, .iinc 3 1, 3), (43, .goto (-31), 3), (46, .iload_n 2, 1), (47, .ireturn, 1)]
theorem dtX0_read_0 : ∀ (i : Nat) (q : Nat × Instr × Nat), tbX0_read_0[i]? = some q → decode cX0_read q.1 = .ok q.2 := dtab (by decide +kernel)
def tbX0_isWhole_0 : List (Nat × Instr × Nat) := [(0, .aload_n 0, 1), (1, .getfield 25, 3), (4, .iconst 4, 1), (5, .if_icmp .ne 7, 3), (8, .iconst 1, 1), (9, .goto 4, 3), (12, .iconst 0, 1), (13, .ireturn, 1)]
theorem dtX0_isWhole_0 : ∀ (i : Nat) (q : Nat × Instr × Nat), tbX0_isWhole_0[i]? = some q → decode cX0_isWhole q.1 = .ok q.2 := dtab (by decide +kernel)
def tbX0_allows_0 : List (Nat × Instr × Nat) := [(0, .aload_n 0, 1), (1, .getfield 15, 3), (4, .iload_n 1, 1), (5, .iaload, 1), (6, .lookupswitch 58 #[(60, 42), (61, 26)], 26), (32, .iload_n 2, 1), (33, .aload_n 0, 1), (34, .getfield 18, 3), (37, .iload_n 1, 1), (38, .iaload, 1), (39, .if_icmp .ne 7, 3), (42, .iconst 1, 1), (43, .goto 4, 3), (46, .iconst 0, 1), (47, .ireturn, 1), (48, .iload_n 2, 1), (49, .aload_n 0, 1), (50, .getfield 18, 3), (53, .iload_n 1, 1), (54, .iaload, 1), (55, .if_icmp .ge 7, 3), (58, .iconst 1, 1), (59, .goto 4, 3), (62, .iconst 0, 1), (63, .ireturn, 1), (64, .iload_n 2, 1), (65, .aload_n 0, 1), (66, .getfield 18, 3), (69, .iload_n 1, 1), (70, .iaload, 1), (71, .if_icmp .le 7, 3), (74, .iconst 1, 1), (75, .goto 4, 3), (78, .iconst 0, 1), (79, .ireturn, 1)]
theorem dtX0_allows_0 : ∀ (i : Nat) (q : Nat × Instr × Nat), tbX0_allows_0[i]? = some q → decode cX0_allows q.1 = .ok q.2 := dtab (by decide +kernel)
def tbX0_take_0 : List (Nat × Instr × Nat) := [(0, .aload_n 0, 1), (1, .getfield 25, 3), (4, .tableswitch 105 0 4 #[36, 42, 48, 70, 76], 36), (40, .aload_n 0, 1), (41, .iload_n 1, 1), (42, .invokevirtual 32, 3), (45, .ireturn, 1), (46, .aload_n 0, 1), (47, .iload_n 1, 1), (48, .invokevirtual 35, 3), (51, .ireturn, 1), (52, .aload_n 0, 1), (53, .iload_n 1, 1), (54, .invokevirtual 38, 3), (57, .ifCond .ne 11, 3), (60, .aload_n 0, 1), (61, .iload_n 1, 1), (62, .invokevirtual 41, 3), (65, .ifCond .eq 7, 3), (68, .iconst 1, 1), (69, .goto 4, 3), (72, .iconst 0, 1), (73, .ireturn, 1), (74, .aload_n 0, 1), (75, .iload_n 1, 1), (76, .invokevirtual 41, 3), (79, .ireturn, 1), (80, .aload_n 0, 1), (81, .iload_n 1, 1), (82, .invokevirtual 44, 3), (85, .ifCond .ne 18, 3), (88, .aload_n 0, 1), (89, .invokevirtual 47, 3), (92, .ifCond .eq 15, 3), (95, .aload_n 0, 1), (96, .iload_n 1, 1), (97, .invokevirtual 41, 3), (100, .ifCond .eq 7, 3), (103, .iconst 1, 1), (104, .goto 4, 3), (107, .iconst 0, 1), (108, .ireturn, 1), (109, .iconst 0, 1), (110, .ireturn, 1)]
theorem dtX0_take_0 : ∀ (i : Nat) (q : Nat × Instr × Nat), tbX0_take_0[i]? = some q → decode cX0_take q.1 = .ok q.2 := dtab (by decide +kernel)
def tbX0_takeLetter_0 : List (Nat × Instr × Nat) := [(0, .iload_n 1, 1), (1, .bipush 97, 2), (3, .if_icmp .lt 18, 3), (6, .iload_n 1, 1), (7, .bipush 104, 2), (9, .if_icmp .gt 12, 3), (12, .aload_n 0, 1), (13, .getfield 21, 3), (16, .bipush 10, 2), (18, .if_icmp .lt 5, 3), (21, .iconst 0, 1), (22, .ireturn, 1), (23, .aload_n 0, 1), (24, .getfield 9, 3), (27, .aload_n 0, 1), (28, .getfield 21, 3), (31, .iload_n 1, 1), (32, .bipush 97, 2), (34, .isub, 1), (35, .iastore, 1), (36, .aload_n 0, 1), (37, .getfield 15, 3), (40, .aload_n 0, 1), (41, .getfield 21, 3), (44, .iconst 0, 1), (45, .iastore, 1), (46, .aload_n 0, 1), (47, .getfield 18, 3), (50, .aload_n 0, 1), (51, .getfield 21, 3), (54, .iconst 0, 1), (55, .iastore, 1), (56, .aload_n 0, 1), (57, .iconst 0, 1), (58, .putfield 51, 3), (61, .aload_n 0, 1), (62, .dup, 1), (63, .getfield 21, 3), (66, .iconst 1, 1), (67, .iadd, 1), (68, .putfield 21, 3), (71, .aload_n 0, 1), (72, .iconst 1, 1), (73, .putfield 25, 3), (76, .iconst 1, 1), (77, .ireturn, 1)]
theorem dtX0_takeLetter_0 : ∀ (i : Nat) (q : Nat × Instr × Nat), tbX0_takeLetter_0[i]? = some q → decode cX0_takeLetter q.1 = .ok q.2 := dtab (by decide +kernel)
def tbX0_takeSign_0 : List (Nat × Instr × Nat) := [(0, .aload_n 0, 1), (1, .getfield 21, 3), (4, .ifCond .le 21, 3), (7, .iload_n 1, 1), (8, .bipush 61, 2), (10, .if_icmp .eq 17, 3), (13, .iload_n 1, 1), (14, .bipush 60, 2), (16, .if_icmp .eq 11, 3), (19, .iload_n 1, 1), (20, .bipush 62, 2), (22, .if_icmp .eq 5, 3), (25, .iconst 0, 1), (26, .ireturn, 1), (27, .aload_n 0, 1), (28, .getfield 15, 3), (31, .aload_n 0, 1), (32, .getfield 21, 3), (35, .iconst 1, 1), (36, .isub, 1), (37, .iload_n 1, 1), (38, .iastore, 1), (39, .aload_n 0, 1), (40, .iconst 2, 1), (41, .putfield 25, 3), (44, .iconst 1, 1), (45, .ireturn, 1)]
theorem dtX0_takeSign_0 : ∀ (i : Nat) (q : Nat × Instr × Nat), tbX0_takeSign_0[i]? = some q → decode cX0_takeSign q.1 = .ok q.2 := dtab (by decide +kernel)
def tbX0_takeMinus_0 : List (Nat × Instr × Nat) := [(0, .iload_n 1, 1), (1, .bipush 45, 2), (3, .if_icmp .eq 5, 3), (6, .iconst 0, 1), (7, .ireturn, 1), (8, .aload_n 0, 1), (9, .iconst 1, 1), (10, .putfield 51, 3), (13, .aload_n 0, 1), (14, .iconst 3, 1), (15, .putfield 25, 3), (18, .iconst 1, 1), (19, .ireturn, 1)]
theorem dtX0_takeMinus_0 : ∀ (i : Nat) (q : Nat × Instr × Nat), tbX0_takeMinus_0[i]? = some q → decode cX0_takeMinus q.1 = .ok q.2 := dtab (by decide +kernel)
def tbX0_takeDigit_0 : List (Nat × Instr × Nat) := [(0, .aload_n 0, 1), (1, .getfield 21, 3), (4, .ifCond .le 15, 3), (7, .iload_n 1, 1), (8, .bipush 48, 2), (10, .if_icmp .lt 9, 3), (13, .iload_n 1, 1), (14, .bipush 57, 2), (16, .if_icmp .le 5, 3), (19, .iconst 0, 1), (20, .ireturn, 1), (21, .iload_n 1, 1), (22, .bipush 48, 2), (24, .isub, 1), (25, .istore_n 2, 1), (26, .aload_n 0, 1), (27, .getfield 18, 3), (30, .aload_n 0, 1), (31, .getfield 21, 3), (34, .iconst 1, 1), (35, .isub, 1), (36, .aload_n 0, 1), (37, .getfield 18, 3), (40, .aload_n 0, 1), (41, .getfield 21, 3), (44, .iconst 1, 1), (45, .isub, 1), (46, .iaload, 1), (47, .bipush 10, 2), (49, .imul, 1), (50, .aload_n 0, 1), (51, .getfield 51, 3), (54, .ifCond .eq 8, 3), (57, .iload_n 2, 1), (58, .ineg, 1), (59, .goto 4, 3), (62, .iload_n 2, 1), (63, .iadd, 1), (64, .iastore, 1), (65, .aload_n 0, 1), (66, .iconst 4, 1), (67, .putfield 25, 3), (70, .iconst 1, 1), (71, .ireturn, 1)]
theorem dtX0_takeDigit_0 : ∀ (i : Nat) (q : Nat × Instr × Nat), tbX0_takeDigit_0[i]? = some q → decode cX0_takeDigit q.1 = .ok q.2 := dtab (by decide +kernel)
def tbX0_mayGrow_0 : List (Nat × Instr × Nat) := [(0, .aload_n 0, 1), (1, .getfield 21, 3), (4, .ifCond .gt 7, 3), (7, .iconst 0, 1), (8, .goto 17, 3), (11, .aload_n 0, 1), (12, .getfield 18, 3), (15, .aload_n 0, 1), (16, .getfield 21, 3), (19, .iconst 1, 1), (20, .isub, 1), (21, .iaload, 1), (22, .invokestatic 55, 3), (25, .istore_n 1, 1), (26, .iload_n 1, 1), (27, .ifCond .le 14, 3), (30, .iload_n 1, 1), (31, .sipush 1000, 3), (34, .if_icmp .ge 7, 3), (37, .iconst 1, 1), (38, .goto 4, 3), (41, .iconst 0, 1), (42, .ireturn, 1)]
theorem dtX0_mayGrow_0 : ∀ (i : Nat) (q : Nat × Instr × Nat), tbX0_mayGrow_0[i]? = some q → decode cX0_mayGrow q.1 = .ok q.2 := dtab (by decide +kernel)
def tbX0_takeAnd_0 : List (Nat × Instr × Nat) := [(0, .iload_n 1, 1), (1, .bipush 38, 2), (3, .if_icmp .eq 5, 3), (6, .iconst 0, 1), (7, .ireturn, 1), (8, .aload_n 0, 1), (9, .iconst 0, 1), (10, .putfield 25, 3), (13, .iconst 1, 1), (14, .ireturn, 1)]
theorem dtX0_takeAnd_0 : ∀ (i : Nat) (q : Nat × Instr × Nat), tbX0_takeAnd_0[i]? = some q → decode cX0_takeAnd q.1 = .ok q.2 := dtab (by decide +kernel)
def tbX1_init_0 : List (Nat × Instr × Nat) := [(0, .aload_n 0, 1), (1, .invokespecial 3, 3), (4, .aload_n 0, 1), (5, .iconst 3, 1), (6, .anewarray 9, 3), (9, .putfield 11, 3), (12, .aload_n 0, 1), (13, .bipush 120, 2), (15, .newarray .int, 2), (17, .putfield 17, 3), (20, .aload_n 0, 1), (21, .sipush 960, 3), (24, .newarray .int, 2), (26, .putfield 21, 3), (29, .iconst 0, 1), (30, .istore_n 1, 1), (31, .iload_n 1, 1), (32, .iconst 3, 1), (33, .if_icmp .ge 22, 3), (36, .aload_n 0, 1), (37, .getfield 11, 3), (40, .iload_n 1, 1), (41, .new 9, 3), (44, .dup, 1), (45, .invokespecial 24, 3), (48, .aastore, 1), (49, .iinc 1 1, 3), (52, .goto (-21), 3), (55, .return_, 1)]
theorem dtX1_init_0 : ∀ (i : Nat) (q : Nat × Instr × Nat), tbX1_init_0[i]? = some q → decode cX1_init q.1 = .ok q.2 := dtab (by decide +kernel)
def tbX1_copyFrom_0 : List (Nat × Instr × Nat) := [(0, .iconst 0, 1), (1, .istore_n 2, 1), (2, .iload_n 2, 1), (3, .iconst 3, 1), (4, .if_icmp .ge 24, 3), (7, .aload_n 0, 1), (8, .getfield 11, 3), (11, .iload_n 2, 1), (12, .aaload, 1), (13, .aload_n 1, 1), (14, .getfield 11, 3), (17, .iload_n 2, 1), (18, .aaload, 1), (19, .invokevirtual 25, 3), (22, .iinc 2 1, 3), (25, .goto (-23), 3), (28, .aload_n 0, 1), (29, .aload_n 1, 1), (30, .getfield 29, 3), (33, .putfield 29, 3), (36, .aload_n 1, 1), (37, .getfield 17, 3), (40, .iconst 0, 1), (41, .aload_n 0, 1), (42, .getfield 17, 3), (45, .iconst 0, 1), (46, .aload_n 0, 1), (47, .getfield 29, 3), (50, .invokestatic 33, 3), (53, .aload_n 1, 1), (54, .getfield 21, 3), (57, .iconst 0, 1), (58, .aload_n 0, 1), (59, .getfield 21, 3), (62, .iconst 0, 1), (63, .aload_n 0, 1), (64, .getfield 29, 3), (67, .bipush 8, 2), (69, .imul, 1), (70, .invokestatic 33, 3), (73, .return_, 1)]
theorem dtX1_copyFrom_0 : ∀ (i : Nat) (q : Nat × Instr × Nat), tbX1_copyFrom_0[i]? = some q → decode cX1_copyFrom q.1 = .ok q.2 := dtab (by decide +kernel)
def tbX1_ownerOf_0 : List (Nat × Instr × Nat) := [(0, .aload_n 0, 1), (1, .getfield 11, 3), (4, .aload_n 0, 1), (5, .getfield 17, 3), (8, .iload_n 1, 1), (9, .iaload, 1), (10, .aaload, 1), (11, .areturn, 1)]
theorem dtX1_ownerOf_0 : ∀ (i : Nat) (q : Nat × Instr × Nat), tbX1_ownerOf_0[i]? = some q → decode cX1_ownerOf q.1 = .ok q.2 := dtab (by decide +kernel)
def tbX1_valueAt_0 : List (Nat × Instr × Nat) := [(0, .iload_n 1, 1), (1, .ifCond .lt 21, 3), (4, .iload_n 1, 1), (5, .aload_n 0, 1), (6, .getfield 29, 3), (9, .if_icmp .ge 13, 3), (12, .iload_n 2, 1), (13, .ifCond .lt 9, 3), (16, .iload_n 2, 1), (17, .bipush 8, 2), (19, .if_icmp .lt 6, 3), (22, .ldc 39, 2), (24, .ireturn, 1), (25, .aload_n 0, 1), (26, .getfield 21, 3), (29, .iload_n 1, 1), (30, .bipush 8, 2), (32, .imul, 1), (33, .iload_n 2, 1), (34, .iadd, 1), (35, .iaload, 1), (36, .ireturn, 1)]
theorem dtX1_valueAt_0 : ∀ (i : Nat) (q : Nat × Instr × Nat), tbX1_valueAt_0[i]? = some q → decode cX1_valueAt q.1 = .ok q.2 := dtab (by decide +kernel)
def tbX1_setValue_0 : List (Nat × Instr × Nat) := [(0, .iload_n 1, 1), (1, .ifCond .lt 33, 3), (4, .iload_n 1, 1), (5, .aload_n 0, 1), (6, .getfield 29, 3), (9, .if_icmp .ge 25, 3), (12, .iload_n 2, 1), (13, .ifCond .lt 21, 3), (16, .iload_n 2, 1), (17, .bipush 8, 2), (19, .if_icmp .ge 15, 3), (22, .aload_n 0, 1), (23, .getfield 21, 3), (26, .iload_n 1, 1), (27, .bipush 8, 2), (29, .imul, 1), (30, .iload_n 2, 1), (31, .iadd, 1), (32, .iload_n 3, 1), (33, .iastore, 1), (34, .return_, 1)]
theorem dtX1_setValue_0 : ∀ (i : Nat) (q : Nat × Instr × Nat), tbX1_setValue_0[i]? = some q → decode cX1_setValue q.1 = .ok q.2 := dtab (by decide +kernel)
def tbX1_shiftValues_0 : List (Nat × Instr × Nat) := [(0, .iconst 0, 1), (1, .istore 4, 2), (3, .iload 4, 2), (5, .aload_n 0, 1), (6, .getfield 29, 3), (9, .if_icmp .ge 43, 3), (12, .aload_n 0, 1), (13, .getfield 17, 3), (16, .iload 4, 2), (18, .iaload, 1), (19, .iload_n 1, 1), (20, .if_icmp .ne 26, 3), (23, .aload_n 0, 1), (24, .iload 4, 2), (26, .iload_n 3, 1), (27, .aload_n 0, 1), (28, .iload 4, 2), (30, .iload_n 2, 1), (31, .invokevirtual 40, 3), (34, .invokevirtual 44, 3), (37, .aload_n 0, 1), (38, .iload 4, 2), (40, .iload_n 2, 1), (41, .ldc 39, 2), (43, .invokevirtual 44, 3), (46, .iinc 4 1, 3), (49, .goto (-46), 3), (52, .return_, 1)]
theorem dtX1_shiftValues_0 : ∀ (i : Nat) (q : Nat × Instr × Nat), tbX1_shiftValues_0[i]? = some q → decode cX1_shiftValues q.1 = .ok q.2 := dtab (by decide +kernel)
def tbX1_insertRow_0 : List (Nat × Instr × Nat) := [(0, .aload_n 0, 1), (1, .getfield 29, 3), (4, .bipush 120, 2), (6, .if_icmp .lt 5, 3), (9, .iconst (-1), 1), (10, .ireturn, 1), (11, .iconst 0, 1), (12, .istore_n 2, 1), (13, .iload_n 2, 1), (14, .aload_n 0, 1), (15, .getfield 29, 3), (18, .if_icmp .ge 27, 3), (21, .aload_n 0, 1), (22, .aload_n 0, 1), (23, .getfield 17, 3), (26, .iload_n 2, 1), (27, .iaload, 1), (28, .invokevirtual 48, 3), (31, .aload_n 0, 1), (32, .iload_n 1, 1), (33, .invokevirtual 48, 3), (36, .if_icmp .gt 9, 3), (39, .iinc 2 1, 3), (42, .goto (-29), 3), (45, .aload_n 0, 1), (46, .getfield 17, 3), (49, .iload_n 2, 1), (50, .aload_n 0, 1), (51, .getfield 17, 3), (54, .iload_n 2, 1), (55, .iconst 1, 1), (56, .iadd, 1), (57, .aload_n 0, 1), (58, .getfield 29, 3), (61, .iload_n 2, 1), (62, .isub, 1), (63, .invokestatic 33, 3), (66, .aload_n 0, 1), (67, .getfield 21, 3), (70, .iload_n 2, 1), (71, .bipush 8, 2), (73, .imul, 1), (74, .aload_n 0, 1), (75, .getfield 21, 3), (78, .iload_n 2, 1), (79, .iconst 1, 1), (80, .iadd, 1), (81, .bipush 8, 2), (83, .imul, 1), (84, .aload_n 0, 1), (85, .getfield 29, 3), (88, .iload_n 2, 1), (89, .isub, 1), (90, .bipush 8, 2), (92, .imul, 1), (93, .invokestatic 33, 3), (96, .aload_n 0, 1), (97, .dup, 1), (98, .getfield 29, 3), (101, .iconst 1, 1), (102, .iadd, 1), (103, .putfield 29, 3), (106, .aload_n 0, 1), (107, .getfield 17, 3)]
theorem dtX1_insertRow_0 : ∀ (i : Nat) (q : Nat × Instr × Nat), tbX1_insertRow_0[i]? = some q → decode cX1_insertRow q.1 = .ok q.2 := dtab (by decide +kernel)
def tbX1_insertRow_1 : List (Nat × Instr × Nat) := [(110, .iload_n 2, 1), (111, .iload_n 1, 1), (112, .iastore, 1), (113, .iconst 0, 1), (114, .istore_n 3, 1), (115, .iload_n 3, 1), (116, .bipush 8, 2), (118, .if_icmp .ge 17, 3), (121, .aload_n 0, 1), (122, .iload_n 2, 1), (123, .iload_n 3, 1), (124, .ldc 39, 2), (126, .invokevirtual 44, 3), (129, .iinc 3 1, 3), (132, .goto (-17), 3), (135, .iload_n 2, 1), (136, .ireturn, 1)]
theorem dtX1_insertRow_1 : ∀ (i : Nat) (q : Nat × Instr × Nat), tbX1_insertRow_1[i]? = some q → decode cX1_insertRow q.1 = .ok q.2 := dtab (by decide +kernel)
def tbX1_removeRows_0 : List (Nat × Instr × Nat) := [(0, .iconst 0, 1), (1, .istore_n 3, 1), (2, .iconst 0, 1), (3, .istore 4, 2), (5, .iconst 0, 1), (6, .istore 5, 2), (8, .iload 5, 2), (10, .aload_n 0, 1), (11, .getfield 29, 3), (14, .if_icmp .ge 48, 3), (17, .iload 4, 2), (19, .iload_n 2, 1), (20, .if_icmp .ge 25, 3), (23, .iload 4, 2), (25, .aload_n 1, 1), (26, .arraylength, 1), (27, .if_icmp .ge 18, 3), (30, .aload_n 1, 1), (31, .iload 4, 2), (33, .iaload, 1), (34, .iload 5, 2), (36, .if_icmp .ne 9, 3), (39, .iinc 4 1, 3), (42, .goto 14, 3), (45, .aload_n 0, 1), (46, .aload_n 0, 1), (47, .iload 5, 2), (49, .iload_n 3, 1), (50, .invokevirtual 52, 3), (53, .iinc 3 1, 3), (56, .iinc 5 1, 3), (59, .goto (-51), 3), (62, .aload_n 0, 1), (63, .iload_n 3, 1), (64, .putfield 29, 3), (67, .return_, 1)]
theorem dtX1_removeRows_0 : ∀ (i : Nat) (q : Nat × Instr × Nat), tbX1_removeRows_0[i]? = some q → decode cX1_removeRows q.1 = .ok q.2 := dtab (by decide +kernel)
def tbX1_orderRowsOf_0 : List (Nat × Instr × Nat) := [(0, .aload_n 0, 1), (1, .iconst 0, 1), (2, .putfield 29, 3), (5, .iconst 0, 1), (6, .istore_n 2, 1), (7, .iload_n 2, 1), (8, .iconst 3, 1), (9, .if_icmp .gt 59, 3), (12, .iconst 0, 1), (13, .istore_n 3, 1), (14, .iload_n 3, 1), (15, .aload_n 1, 1), (16, .getfield 29, 3), (19, .if_icmp .ge 43, 3), (22, .aload_n 0, 1), (23, .aload_n 1, 1), (24, .getfield 17, 3), (27, .iload_n 3, 1), (28, .iaload, 1), (29, .invokevirtual 48, 3), (32, .iload_n 2, 1), (33, .if_icmp .ne 23, 3), (36, .aload_n 0, 1), (37, .aload_n 1, 1), (38, .iload_n 3, 1), (39, .aload_n 0, 1), (40, .getfield 29, 3), (43, .invokevirtual 52, 3), (46, .aload_n 0, 1), (47, .dup, 1), (48, .getfield 29, 3), (51, .iconst 1, 1), (52, .iadd, 1), (53, .putfield 29, 3), (56, .iinc 3 1, 3), (59, .goto (-45), 3), (62, .iinc 2 1, 3), (65, .goto (-58), 3), (68, .return_, 1)]
theorem dtX1_orderRowsOf_0 : ∀ (i : Nat) (q : Nat × Instr × Nat), tbX1_orderRowsOf_0[i]? = some q → decode cX1_orderRowsOf q.1 = .ok q.2 := dtab (by decide +kernel)
def tbX1_copyRow_0 : List (Nat × Instr × Nat) := [(0, .aload_n 0, 1), (1, .getfield 17, 3), (4, .iload_n 3, 1), (5, .aload_n 1, 1), (6, .getfield 17, 3), (9, .iload_n 2, 1), (10, .iaload, 1), (11, .iastore, 1), (12, .aload_n 1, 1), (13, .getfield 21, 3), (16, .iload_n 2, 1), (17, .bipush 8, 2), (19, .imul, 1), (20, .aload_n 0, 1), (21, .getfield 21, 3), (24, .iload_n 3, 1), (25, .bipush 8, 2), (27, .imul, 1), (28, .bipush 8, 2), (30, .invokestatic 33, 3), (33, .return_, 1)]
theorem dtX1_copyRow_0 : ∀ (i : Nat) (q : Nat × Instr × Nat), tbX1_copyRow_0[i]? = some q → decode cX1_copyRow q.1 = .ok q.2 := dtab (by decide +kernel)
def tbX1_tableOf_0 : List (Nat × Instr × Nat) := [(0, .aload_n 0, 1), (1, .getfield 11, 3), (4, .iload_n 1, 1), (5, .aaload, 1), (6, .getfield 56, 3), (9, .ifCond .eq 9, 3), (12, .iload_n 1, 1), (13, .iconst 1, 1), (14, .iadd, 1), (15, .goto 4, 3), (18, .iconst 0, 1), (19, .ireturn, 1)]
theorem dtX1_tableOf_0 : ∀ (i : Nat) (q : Nat × Instr × Nat), tbX1_tableOf_0[i]? = some q → decode cX1_tableOf q.1 = .ok q.2 := dtab (by decide +kernel)
def tbX1_tableRows_0 : List (Nat × Instr × Nat) := [(0, .iconst 0, 1), (1, .istore_n 1, 1), (2, .iconst 0, 1), (3, .istore_n 2, 1), (4, .iload_n 2, 1), (5, .aload_n 0, 1), (6, .getfield 29, 3), (9, .if_icmp .ge 31, 3), (12, .iload_n 1, 1), (13, .aload_n 0, 1), (14, .iload_n 2, 1), (15, .invokevirtual 60, 3), (18, .getfield 56, 3), (21, .ifCond .ne 7, 3), (24, .iconst 1, 1), (25, .goto 4, 3), (28, .iconst 0, 1), (29, .invokestatic 64, 3), (32, .iadd, 1), (33, .istore_n 1, 1), (34, .iinc 2 1, 3), (37, .goto (-33), 3), (40, .iload_n 1, 1), (41, .ireturn, 1)]
theorem dtX1_tableRows_0 : ∀ (i : Nat) (q : Nat × Instr × Nat), tbX1_tableRows_0[i]? = some q → decode cX1_tableRows q.1 = .ok q.2 := dtab (by decide +kernel)
def tbX1_tableValues_0 : List (Nat × Instr × Nat) := [(0, .iconst 0, 1), (1, .istore_n 1, 1), (2, .iconst 0, 1), (3, .istore_n 2, 1), (4, .iload_n 2, 1), (5, .aload_n 0, 1), (6, .getfield 29, 3), (9, .if_icmp .ge 32, 3), (12, .iload_n 1, 1), (13, .aload_n 0, 1), (14, .iload_n 2, 1), (15, .invokevirtual 60, 3), (18, .getfield 56, 3), (21, .ifCond .eq 7, 3), (24, .iconst 0, 1), (25, .goto 8, 3), (28, .aload_n 0, 1), (29, .iload_n 2, 1), (30, .invokevirtual 68, 3), (33, .iadd, 1), (34, .istore_n 1, 1), (35, .iinc 2 1, 3), (38, .goto (-34), 3), (41, .iload_n 1, 1), (42, .ireturn, 1)]
theorem dtX1_tableValues_0 : ∀ (i : Nat) (q : Nat × Instr × Nat), tbX1_tableValues_0[i]? = some q → decode cX1_tableValues q.1 = .ok q.2 := dtab (by decide +kernel)
def tbX1_valuesIn_0 : List (Nat × Instr × Nat) := [(0, .iconst 0, 1), (1, .istore_n 2, 1), (2, .iconst 0, 1), (3, .istore_n 3, 1), (4, .iload_n 3, 1), (5, .bipush 8, 2), (7, .if_icmp .ge 31, 3), (10, .iload_n 2, 1), (11, .aload_n 0, 1), (12, .iload_n 1, 1), (13, .iload_n 3, 1), (14, .invokevirtual 40, 3), (17, .ldc 39, 2), (19, .if_icmp .eq 7, 3), (22, .iconst 1, 1), (23, .goto 4, 3), (26, .iconst 0, 1), (27, .invokestatic 64, 3), (30, .iadd, 1), (31, .istore_n 2, 1), (32, .iinc 3 1, 3), (35, .goto (-31), 3), (38, .iload_n 2, 1), (39, .ireturn, 1)]
theorem dtX1_valuesIn_0 : ∀ (i : Nat) (q : Nat × Instr × Nat), tbX1_valuesIn_0[i]? = some q → decode cX1_valuesIn q.1 = .ok q.2 := dtab (by decide +kernel)
def tbX1_rowsOf_0 : List (Nat × Instr × Nat) := [(0, .iconst 0, 1), (1, .istore_n 2, 1), (2, .iconst 0, 1), (3, .istore_n 3, 1), (4, .iload_n 3, 1), (5, .aload_n 0, 1), (6, .getfield 29, 3), (9, .if_icmp .ge 30, 3), (12, .iload_n 2, 1), (13, .aload_n 0, 1), (14, .getfield 17, 3), (17, .iload_n 3, 1), (18, .iaload, 1), (19, .iload_n 1, 1), (20, .if_icmp .ne 7, 3), (23, .iconst 1, 1), (24, .goto 4, 3), (27, .iconst 0, 1), (28, .invokestatic 64, 3), (31, .iadd, 1), (32, .istore_n 2, 1), (33, .iinc 3 1, 3), (36, .goto (-32), 3), (39, .iload_n 2, 1), (40, .ireturn, 1)]
theorem dtX1_rowsOf_0 : ∀ (i : Nat) (q : Nat × Instr × Nat), tbX1_rowsOf_0[i]? = some q → decode cX1_rowsOf q.1 = .ok q.2 := dtab (by decide +kernel)
def tbX1_rowsWithValue_0 : List (Nat × Instr × Nat) := [(0, .aload_n 0, 1), (1, .iload_n 1, 1), (2, .invokevirtual 71, 3), (5, .aload_n 0, 1), (6, .iload_n 1, 1), (7, .iload_n 2, 1), (8, .ldc 39, 2), (10, .invokevirtual 74, 3), (13, .isub, 1), (14, .ireturn, 1)]
theorem dtX1_rowsWithValue_0 : ∀ (i : Nat) (q : Nat × Instr × Nat), tbX1_rowsWithValue_0[i]? = some q → decode cX1_rowsWithValue q.1 = .ok q.2 := dtab (by decide +kernel)
def tbX1_rowsWith_0 : List (Nat × Instr × Nat) := [(0, .iconst 0, 1), (1, .istore 4, 2), (3, .iconst 0, 1), (4, .istore 5, 2), (6, .iload 5, 2), (8, .aload_n 0, 1), (9, .getfield 29, 3), (12, .if_icmp .ge 44, 3), (15, .iload 4, 2), (17, .aload_n 0, 1), (18, .getfield 17, 3), (21, .iload 5, 2), (23, .iaload, 1), (24, .iload_n 1, 1), (25, .if_icmp .ne 18, 3), (28, .aload_n 0, 1), (29, .iload 5, 2), (31, .iload_n 2, 1), (32, .invokevirtual 40, 3), (35, .iload_n 3, 1), (36, .if_icmp .ne 7, 3), (39, .iconst 1, 1), (40, .goto 4, 3), (43, .iconst 0, 1), (44, .invokestatic 64, 3), (47, .iadd, 1), (48, .istore 4, 2), (50, .iinc 5 1, 3), (53, .goto (-47), 3), (56, .iload 4, 2), (58, .ireturn, 1)]
theorem dtX1_rowsWith_0 : ∀ (i : Nat) (q : Nat × Instr × Nat), tbX1_rowsWith_0[i]? = some q → decode cX1_rowsWith q.1 = .ok q.2 := dtab (by decide +kernel)
def tbX1_sumOf_0 : List (Nat × Instr × Nat) := [(0, .iconst 0, 1), (1, .istore_n 3, 1), (2, .iconst 0, 1), (3, .istore 4, 2), (5, .iload 4, 2), (7, .aload_n 0, 1), (8, .getfield 29, 3), (11, .if_icmp .ge 45, 3), (14, .aload_n 0, 1), (15, .iload 4, 2), (17, .iload_n 2, 1), (18, .invokevirtual 40, 3), (21, .istore 5, 2), (23, .iload_n 3, 1), (24, .aload_n 0, 1), (25, .getfield 17, 3), (28, .iload 4, 2), (30, .iaload, 1), (31, .iload_n 1, 1), (32, .if_icmp .ne 15, 3), (35, .iload 5, 2), (37, .ldc 39, 2), (39, .if_icmp .eq 8, 3), (42, .iload 5, 2), (44, .goto 4, 3), (47, .iconst 0, 1), (48, .iadd, 1), (49, .istore_n 3, 1), (50, .iinc 4 1, 3), (53, .goto (-48), 3), (56, .iload_n 3, 1), (57, .ireturn, 1)]
theorem dtX1_sumOf_0 : ∀ (i : Nat) (q : Nat × Instr × Nat), tbX1_sumOf_0[i]? = some q → decode cX1_sumOf q.1 = .ok q.2 := dtab (by decide +kernel)
def tbX1_unlikeValues_0 : List (Nat × Instr × Nat) := [(0, .iconst 0, 1), (1, .istore_n 3, 1), (2, .iconst 0, 1), (3, .istore 4, 2), (5, .iload 4, 2), (7, .aload_n 0, 1), (8, .getfield 29, 3), (11, .if_icmp .ge 54, 3), (14, .aload_n 0, 1), (15, .getfield 17, 3), (18, .iload 4, 2), (20, .iaload, 1), (21, .iload_n 1, 1), (22, .if_icmp .ne 37, 3), (25, .aload_n 0, 1), (26, .iload 4, 2), (28, .iload_n 2, 1), (29, .invokevirtual 40, 3), (32, .ldc 39, 2), (34, .if_icmp .eq 25, 3), (37, .iload_n 3, 1), (38, .aload_n 0, 1), (39, .iload_n 1, 1), (40, .iload_n 2, 1), (41, .iload 4, 2), (43, .invokevirtual 78, 3), (46, .ifCond .ne 7, 3), (49, .iconst 1, 1), (50, .goto 4, 3), (53, .iconst 0, 1), (54, .invokestatic 64, 3), (57, .iadd, 1), (58, .istore_n 3, 1), (59, .iinc 4 1, 3), (62, .goto (-57), 3), (65, .iload_n 3, 1), (66, .ireturn, 1)]
theorem dtX1_unlikeValues_0 : ∀ (i : Nat) (q : Nat × Instr × Nat), tbX1_unlikeValues_0[i]? = some q → decode cX1_unlikeValues q.1 = .ok q.2 := dtab (by decide +kernel)
def tbX1_standsAhead_0 : List (Nat × Instr × Nat) := [(0, .aload_n 0, 1), (1, .iload_n 3, 1), (2, .iload_n 2, 1), (3, .invokevirtual 40, 3), (6, .istore 4, 2), (8, .iconst 0, 1), (9, .istore 5, 2), (11, .iload 5, 2), (13, .iload_n 3, 1), (14, .if_icmp .ge 34, 3), (17, .aload_n 0, 1), (18, .getfield 17, 3), (21, .iload 5, 2), (23, .iaload, 1), (24, .iload_n 1, 1), (25, .if_icmp .ne 17, 3), (28, .aload_n 0, 1), (29, .iload 5, 2), (31, .iload_n 2, 1), (32, .invokevirtual 40, 3), (35, .iload 4, 2), (37, .if_icmp .ne 5, 3), (40, .iconst 1, 1), (41, .ireturn, 1), (42, .iinc 5 1, 3), (45, .goto (-34), 3), (48, .iconst 0, 1), (49, .ireturn, 1)]
theorem dtX1_standsAhead_0 : ∀ (i : Nat) (q : Nat × Instr × Nat), tbX1_standsAhead_0[i]? = some q → decode cX1_standsAhead q.1 = .ok q.2 := dtab (by decide +kernel)
def tbX1_columnsWithMeanings_0 : List (Nat × Instr × Nat) := [(0, .iconst 0, 1), (1, .istore_n 3, 1), (2, .iconst 0, 1), (3, .istore 4, 2), (5, .iload 4, 2), (7, .bipush 8, 2), (9, .if_icmp .ge 80, 3), (12, .iconst 0, 1), (13, .istore 5, 2), (15, .iconst 0, 1), (16, .istore 6, 2), (18, .iload 6, 2), (20, .iconst 3, 1), (21, .if_icmp .ge 39, 3), (24, .iload 5, 2), (26, .aload_n 0, 1), (27, .getfield 11, 3), (30, .iload 6, 2), (32, .aaload, 1), (33, .getfield 82, 3), (36, .iload 4, 2), (38, .iaload, 1), (39, .iconst (-1), 1), (40, .if_icmp .eq 7, 3), (43, .iconst 1, 1), (44, .goto 4, 3), (47, .iconst 0, 1), (48, .invokestatic 64, 3), (51, .iadd, 1), (52, .istore 5, 2), (54, .iinc 6 1, 3), (57, .goto (-39), 3), (60, .iload_n 3, 1), (61, .iload 5, 2), (63, .iload_n 1, 1), (64, .if_icmp .lt 13, 3), (67, .iload 5, 2), (69, .iload_n 2, 1), (70, .if_icmp .gt 7, 3), (73, .iconst 1, 1), (74, .goto 4, 3), (77, .iconst 0, 1), (78, .invokestatic 64, 3), (81, .iadd, 1), (82, .istore_n 3, 1), (83, .iinc 4 1, 3), (86, .goto (-81), 3), (89, .iload_n 3, 1), (90, .ireturn, 1)]
theorem dtX1_columnsWithMeanings_0 : ∀ (i : Nat) (q : Nat × Instr × Nat), tbX1_columnsWithMeanings_0[i]? = some q → decode cX1_columnsWithMeanings q.1 = .ok q.2 := dtab (by decide +kernel)
def tbX1_indexes_0 : List (Nat × Instr × Nat) := [(0, .iconst 0, 1), (1, .istore_n 1, 1), (2, .iconst 0, 1), (3, .istore_n 2, 1), (4, .iload_n 2, 1), (5, .iconst 3, 1), (6, .if_icmp .ge 40, 3), (9, .iconst 0, 1), (10, .istore_n 3, 1), (11, .iload_n 3, 1), (12, .bipush 8, 2), (14, .if_icmp .ge 26, 3), (17, .iload_n 1, 1), (18, .aload_n 0, 1), (19, .getfield 11, 3), (22, .iload_n 2, 1), (23, .aaload, 1), (24, .getfield 85, 3), (27, .iload_n 3, 1), (28, .baload, 1), (29, .invokestatic 64, 3), (32, .iadd, 1), (33, .istore_n 1, 1), (34, .iinc 3 1, 3), (37, .goto (-26), 3), (40, .iinc 2 1, 3), (43, .goto (-39), 3), (46, .iload_n 1, 1), (47, .ireturn, 1)]
theorem dtX1_indexes_0 : ∀ (i : Nat) (q : Nat × Instr × Nat), tbX1_indexes_0[i]? = some q → decode cX1_indexes q.1 = .ok q.2 := dtab (by decide +kernel)
def tbX1_movedTenants_0 : List (Nat × Instr × Nat) := [(0, .iconst 0, 1), (1, .istore_n 1, 1), (2, .iconst 0, 1), (3, .istore_n 2, 1), (4, .iload_n 2, 1), (5, .iconst 3, 1), (6, .if_icmp .ge 24, 3), (9, .iload_n 1, 1), (10, .aload_n 0, 1), (11, .getfield 11, 3), (14, .iload_n 2, 1), (15, .aaload, 1), (16, .getfield 56, 3), (19, .invokestatic 64, 3), (22, .iadd, 1), (23, .istore_n 1, 1), (24, .iinc 2 1, 3), (27, .goto (-23), 3), (30, .iload_n 1, 1), (31, .ireturn, 1)]
theorem dtX1_movedTenants_0 : ∀ (i : Nat) (q : Nat × Instr × Nat), tbX1_movedTenants_0[i]? = some q → decode cX1_movedTenants q.1 = .ok q.2 := dtab (by decide +kernel)
def tbX2_init_0 : List (Nat × Instr × Nat) := [(0, .aload_n 0, 1), (1, .invokespecial 3, 3), (4, .aload_n 0, 1), (5, .bipush 8, 2), (7, .newarray .int, 2), (9, .putfield 9, 3), (12, .aload_n 0, 1), (13, .bipush 8, 2), (15, .newarray .int, 2), (17, .putfield 15, 3), (20, .aload_n 0, 1), (21, .bipush 8, 2), (23, .newarray .boolean, 2), (25, .putfield 18, 3), (28, .aload_n 0, 1), (29, .bipush 20, 2), (31, .putfield 22, 3), (34, .aload_n 0, 1), (35, .iconst 5, 1), (36, .putfield 26, 3), (39, .iconst 0, 1), (40, .istore_n 1, 1), (41, .iload_n 1, 1), (42, .bipush 8, 2), (44, .if_icmp .ge 16, 3), (47, .aload_n 0, 1), (48, .getfield 9, 3), (51, .iload_n 1, 1), (52, .iconst (-1), 1), (53, .iastore, 1), (54, .iinc 1 1, 3), (57, .goto (-16), 3), (60, .return_, 1)]
theorem dtX2_init_0 : ∀ (i : Nat) (q : Nat × Instr × Nat), tbX2_init_0[i]? = some q → decode cX2_init q.1 = .ok q.2 := dtab (by decide +kernel)
def tbX2_copyFrom_0 : List (Nat × Instr × Nat) := [(0, .iconst 0, 1), (1, .istore_n 2, 1), (2, .iload_n 2, 1), (3, .bipush 8, 2), (5, .if_icmp .ge 32, 3), (8, .aload_n 0, 1), (9, .iload_n 2, 1), (10, .aload_n 1, 1), (11, .getfield 9, 3), (14, .iload_n 2, 1), (15, .iaload, 1), (16, .aload_n 1, 1), (17, .getfield 15, 3), (20, .iload_n 2, 1), (21, .iaload, 1), (22, .aload_n 1, 1), (23, .getfield 18, 3), (26, .iload_n 2, 1), (27, .baload, 1), (28, .invokevirtual 29, 3), (31, .iinc 2 1, 3), (34, .goto (-32), 3), (37, .aload_n 0, 1), (38, .aload_n 1, 1), (39, .getfield 22, 3), (42, .putfield 22, 3), (45, .aload_n 0, 1), (46, .aload_n 1, 1), (47, .getfield 26, 3), (50, .putfield 26, 3), (53, .aload_n 0, 1), (54, .aload_n 1, 1), (55, .getfield 33, 3), (58, .putfield 33, 3), (61, .aload_n 0, 1), (62, .aload_n 1, 1), (63, .getfield 37, 3), (66, .putfield 37, 3), (69, .aload_n 0, 1), (70, .aload_n 1, 1), (71, .getfield 40, 3), (74, .putfield 40, 3), (77, .aload_n 0, 1), (78, .aload_n 1, 1), (79, .getfield 43, 3), (82, .putfield 43, 3), (85, .aload_n 0, 1), (86, .aload_n 1, 1), (87, .getfield 46, 3), (90, .putfield 46, 3), (93, .return_, 1)]
theorem dtX2_copyFrom_0 : ∀ (i : Nat) (q : Nat × Instr × Nat), tbX2_copyFrom_0[i]? = some q → decode cX2_copyFrom q.1 = .ok q.2 := dtab (by decide +kernel)
def tbX2_columnOf_0 : List (Nat × Instr × Nat) := [(0, .iconst 0, 1), (1, .istore_n 2, 1), (2, .iload_n 2, 1), (3, .bipush 8, 2), (5, .if_icmp .ge 21, 3), (8, .aload_n 0, 1), (9, .getfield 9, 3), (12, .iload_n 2, 1), (13, .iaload, 1), (14, .iload_n 1, 1), (15, .if_icmp .ne 5, 3), (18, .iload_n 2, 1), (19, .ireturn, 1), (20, .iinc 2 1, 3), (23, .goto (-21), 3), (26, .iconst (-1), 1), (27, .ireturn, 1)]
theorem dtX2_columnOf_0 : ∀ (i : Nat) (q : Nat × Instr × Nat), tbX2_columnOf_0[i]? = some q → decode cX2_columnOf q.1 = .ok q.2 := dtab (by decide +kernel)
def tbX2_meanings_0 : List (Nat × Instr × Nat) := [(0, .iconst 0, 1), (1, .istore_n 1, 1), (2, .iconst 0, 1), (3, .istore_n 2, 1), (4, .iload_n 2, 1), (5, .bipush 8, 2), (7, .if_icmp .ge 30, 3), (10, .iload_n 1, 1), (11, .aload_n 0, 1), (12, .getfield 9, 3), (15, .iload_n 2, 1), (16, .iaload, 1), (17, .iconst (-1), 1), (18, .if_icmp .eq 7, 3), (21, .iconst 1, 1), (22, .goto 4, 3), (25, .iconst 0, 1), (26, .invokestatic 49, 3), (29, .iadd, 1), (30, .istore_n 1, 1), (31, .iinc 2 1, 3), (34, .goto (-30), 3), (37, .iload_n 1, 1), (38, .ireturn, 1)]
theorem dtX2_meanings_0 : ∀ (i : Nat) (q : Nat × Instr × Nat), tbX2_meanings_0[i]? = some q → decode cX2_meanings q.1 = .ok q.2 := dtab (by decide +kernel)
def tbX2_define_0 : List (Nat × Instr × Nat) := [(0, .iload_n 1, 1), (1, .ifCond .lt 31, 3), (4, .iload_n 1, 1), (5, .bipush 8, 2), (7, .if_icmp .ge 25, 3), (10, .aload_n 0, 1), (11, .getfield 9, 3), (14, .iload_n 1, 1), (15, .iload_n 2, 1), (16, .iastore, 1), (17, .aload_n 0, 1), (18, .getfield 15, 3), (21, .iload_n 1, 1), (22, .iload_n 3, 1), (23, .iastore, 1), (24, .aload_n 0, 1), (25, .getfield 18, 3), (28, .iload_n 1, 1), (29, .iload 4, 2), (31, .bastore, 1), (32, .return_, 1)]
theorem dtX2_define_0 : ∀ (i : Nat) (q : Nat × Instr × Nat), tbX2_define_0[i]? = some q → decode cX2_define q.1 = .ok q.2 := dtab (by decide +kernel)
def tbX2_makeSpare_0 : List (Nat × Instr × Nat) := [(0, .aload_n 0, 1), (1, .iload_n 1, 1), (2, .iconst (-1), 1), (3, .iconst 0, 1), (4, .iconst 0, 1), (5, .invokevirtual 29, 3), (8, .return_, 1)]
theorem dtX2_makeSpare_0 : ∀ (i : Nat) (q : Nat × Instr × Nat), tbX2_makeSpare_0[i]? = some q → decode cX2_makeSpare q.1 = .ok q.2 := dtab (by decide +kernel)
def tbX2_refuse_0 : List (Nat × Instr × Nat) := [(0, .aload_n 0, 1), (1, .dup, 1), (2, .getfield 46, 3), (5, .iconst 1, 1), (6, .iadd, 1), (7, .putfield 46, 3), (10, .iload_n 1, 1), (11, .ineg, 1), (12, .iconst 1, 1), (13, .isub, 1), (14, .ireturn, 1)]
theorem dtX2_refuse_0 : ∀ (i : Nat) (q : Nat × Instr × Nat), tbX2_refuse_0[i]? = some q → decode cX2_refuse q.1 = .ok q.2 := dtab (by decide +kernel)
def tbX3_init_0 : List (Nat × Instr × Nat) := [(0, .aload_n 0, 1), (1, .invokespecial 3, 3), (4, .aload_n 0, 1), (5, .bipush 6, 2), (7, .anewarray 9, 3), (10, .putfield 11, 3), (13, .aload_n 0, 1), (14, .bipush 40, 2), (16, .newarray .int, 2), (18, .putfield 15, 3), (21, .aload_n 0, 1), (22, .new 19, 3), (25, .dup, 1), (26, .invokespecial 21, 3), (29, .putfield 22, 3), (32, .aload_n 0, 1), (33, .bipush 120, 2), (35, .newarray .int, 2), (37, .putfield 26, 3), (40, .aload_n 0, 1), (41, .new 9, 3), (44, .dup, 1), (45, .invokespecial 29, 3), (48, .putfield 30, 3), (51, .iconst 0, 1), (52, .istore_n 1, 1), (53, .iload_n 1, 1), (54, .bipush 6, 2), (56, .if_icmp .ge 22, 3), (59, .aload_n 0, 1), (60, .getfield 11, 3), (63, .iload_n 1, 1), (64, .new 9, 3), (67, .dup, 1), (68, .invokespecial 29, 3), (71, .aastore, 1), (72, .iinc 1 1, 3), (75, .goto (-22), 3), (78, .return_, 1)]
theorem dtX3_init_0 : ∀ (i : Nat) (q : Nat × Instr × Nat), tbX3_init_0[i]? = some q → decode cX3_init q.1 = .ok q.2 := dtab (by decide +kernel)
def tbX3_mean_0 : List (Nat × Instr × Nat) := [(0, .iload_n 1, 1), (1, .invokestatic 34, 3), (4, .ifCond .eq 23, 3), (7, .iload_n 2, 1), (8, .invokestatic 38, 3), (11, .ifCond .eq 16, 3), (14, .iload_n 3, 1), (15, .ifCond .lt 12, 3), (18, .iload_n 3, 1), (19, .iconst 2, 1), (20, .if_icmp .gt 7, 3), (23, .iconst 1, 1), (24, .goto 4, 3), (27, .iconst 0, 1), (28, .invokestatic 41, 3), (31, .aload_n 0, 1), (32, .invokevirtual 45, 3), (35, .pop, 1), (36, .aload_n 0, 1), (37, .getfield 30, 3), (40, .getfield 49, 3), (43, .iload_n 1, 1), (44, .aaload, 1), (45, .astore 4, 2), (47, .aload 4, 2), (49, .invokevirtual 53, 3), (52, .aload 4, 2), (54, .getfield 59, 3), (57, .if_icmp .lt 10, 3), (60, .aload 4, 2), (62, .iconst 1, 1), (63, .invokevirtual 63, 3), (66, .ireturn, 1), (67, .aload 4, 2), (69, .iload_n 2, 1), (70, .invokevirtual 67, 3), (73, .iconst (-1), 1), (74, .if_icmp .eq 10, 3), (77, .aload 4, 2), (79, .iconst 3, 1), (80, .invokevirtual 63, 3), (83, .ireturn, 1), (84, .aload 4, 2), (86, .iconst (-1), 1), (87, .invokevirtual 67, 3), (90, .istore 5, 2), (92, .iload 5, 2), (94, .iconst (-1), 1), (95, .if_icmp .ne 10, 3), (98, .aload 4, 2), (100, .iconst 4, 1), (101, .invokevirtual 63, 3), (104, .ireturn, 1), (105, .aload 4, 2), (107, .iload 5, 2), (109, .iload_n 2, 1), (110, .iload_n 3, 1), (111, .iconst 0, 1), (112, .invokevirtual 70, 3), (115, .iload 5, 2), (117, .ireturn, 1)]
theorem dtX3_mean_0 : ∀ (i : Nat) (q : Nat × Instr × Nat), tbX3_mean_0[i]? = some q → decode cX3_mean q.1 = .ok q.2 := dtab (by decide +kernel)
def tbX3_forget_0 : List (Nat × Instr × Nat) := [(0, .iload_n 1, 1), (1, .invokestatic 34, 3), (4, .ifCond .eq 14, 3), (7, .iload_n 2, 1), (8, .invokestatic 38, 3), (11, .ifCond .eq 7, 3), (14, .iconst 1, 1), (15, .goto 4, 3), (18, .iconst 0, 1), (19, .invokestatic 41, 3), (22, .aload_n 0, 1), (23, .invokevirtual 45, 3), (26, .pop, 1), (27, .aload_n 0, 1), (28, .getfield 30, 3), (31, .getfield 49, 3), (34, .iload_n 1, 1), (35, .aaload, 1), (36, .astore_n 3, 1), (37, .aload_n 3, 1), (38, .iload_n 2, 1), (39, .invokevirtual 67, 3), (42, .istore 4, 2), (44, .iload 4, 2), (46, .iconst (-1), 1), (47, .if_icmp .ne 9, 3), (50, .aload_n 3, 1), (51, .iconst 5, 1), (52, .invokevirtual 63, 3), (55, .ireturn, 1), (56, .aload_n 0, 1), (57, .getfield 30, 3), (60, .iload_n 1, 1), (61, .iload 4, 2), (63, .invokevirtual 74, 3), (66, .istore 5, 2), (68, .aload_n 0, 1), (69, .getfield 30, 3), (72, .iload_n 1, 1), (73, .iload 4, 2), (75, .iconst (-1), 1), (76, .invokevirtual 78, 3), (79, .aload_n 3, 1), (80, .iload 4, 2), (82, .invokevirtual 82, 3), (85, .iload 5, 2), (87, .ireturn, 1)]
theorem dtX3_forget_0 : ∀ (i : Nat) (q : Nat × Instr × Nat), tbX3_forget_0[i]? = some q → decode cX3_forget q.1 = .ok q.2 := dtab (by decide +kernel)
def tbX3_pack_0 : List (Nat × Instr × Nat) := [(0, .iload_n 1, 1), (1, .invokestatic 34, 3), (4, .invokestatic 41, 3), (7, .aload_n 0, 1), (8, .invokevirtual 45, 3), (11, .pop, 1), (12, .aload_n 0, 1), (13, .getfield 30, 3), (16, .getfield 49, 3), (19, .iload_n 1, 1), (20, .aaload, 1), (21, .astore_n 2, 1), (22, .iconst 0, 1), (23, .istore_n 3, 1), (24, .iconst 0, 1), (25, .istore 4, 2), (27, .iconst 0, 1), (28, .istore 5, 2), (30, .iload 5, 2), (32, .bipush 8, 2), (34, .if_icmp .ge 75, 3), (37, .aload_n 2, 1), (38, .getfield 86, 3), (41, .iload 5, 2), (43, .iaload, 1), (44, .iconst (-1), 1), (45, .if_icmp .eq 58, 3), (48, .iload_n 3, 1), (49, .iload 5, 2), (51, .if_icmp .ge 49, 3), (54, .aload_n 2, 1), (55, .iload_n 3, 1), (56, .aload_n 2, 1), (57, .getfield 86, 3), (60, .iload 5, 2), (62, .iaload, 1), (63, .aload_n 2, 1), (64, .getfield 89, 3), (67, .iload 5, 2), (69, .iaload, 1), (70, .aload_n 2, 1), (71, .getfield 92, 3), (74, .iload 5, 2), (76, .baload, 1), (77, .invokevirtual 70, 3), (80, .aload_n 2, 1), (81, .iload 5, 2), (83, .invokevirtual 82, 3), (86, .aload_n 0, 1), (87, .getfield 30, 3), (90, .iload_n 1, 1), (91, .iload 5, 2), (93, .iload_n 3, 1), (94, .invokevirtual 78, 3), (97, .iinc 4 1, 3), (100, .iinc 3 1, 3), (103, .iinc 5 1, 3), (106, .goto (-76), 3), (109, .iload 4, 2), (111, .ireturn, 1)]
theorem dtX3_pack_0 : ∀ (i : Nat) (q : Nat × Instr × Nat), tbX3_pack_0[i]? = some q → decode cX3_pack q.1 = .ok q.2 := dtab (by decide +kernel)
def tbX3_index_0 : List (Nat × Instr × Nat) := [(0, .iload_n 1, 1), (1, .invokestatic 34, 3), (4, .ifCond .eq 14, 3), (7, .iload_n 2, 1), (8, .invokestatic 38, 3), (11, .ifCond .eq 7, 3), (14, .iconst 1, 1), (15, .goto 4, 3), (18, .iconst 0, 1), (19, .invokestatic 41, 3), (22, .aload_n 0, 1), (23, .invokevirtual 45, 3), (26, .pop, 1), (27, .aload_n 0, 1), (28, .getfield 30, 3), (31, .getfield 49, 3), (34, .iload_n 1, 1), (35, .aaload, 1), (36, .astore_n 3, 1), (37, .aload_n 3, 1), (38, .iload_n 2, 1), (39, .invokevirtual 67, 3), (42, .istore 4, 2), (44, .iload 4, 2), (46, .iconst (-1), 1), (47, .if_icmp .ne 9, 3), (50, .aload_n 3, 1), (51, .iconst 5, 1), (52, .invokevirtual 63, 3), (55, .ireturn, 1), (56, .aload_n 3, 1), (57, .getfield 92, 3), (60, .iload 4, 2), (62, .aload_n 3, 1), (63, .getfield 92, 3), (66, .iload 4, 2), (68, .baload, 1), (69, .ifCond .ne 7, 3), (72, .iconst 1, 1), (73, .goto 4, 3), (76, .iconst 0, 1), (77, .bastore, 1), (78, .aload_n 3, 1), (79, .getfield 92, 3), (82, .iload 4, 2), (84, .baload, 1), (85, .invokestatic 96, 3), (88, .ireturn, 1)]
theorem dtX3_index_0 : ∀ (i : Nat) (q : Nat × Instr × Nat), tbX3_index_0[i]? = some q → decode cX3_index q.1 = .ok q.2 := dtab (by decide +kernel)
def tbX3_row_0 : List (Nat × Instr × Nat) := [(0, .iload_n 1, 1), (1, .invokestatic 34, 3), (4, .invokestatic 41, 3), (7, .aload_n 0, 1), (8, .invokevirtual 45, 3), (11, .pop, 1), (12, .aload_n 0, 1), (13, .getfield 30, 3), (16, .getfield 49, 3), (19, .iload_n 1, 1), (20, .aaload, 1), (21, .astore_n 2, 1), (22, .aload_n 0, 1), (23, .getfield 30, 3), (26, .iload_n 1, 1), (27, .invokevirtual 100, 3), (30, .aload_n 2, 1), (31, .getfield 103, 3), (34, .if_icmp .lt 9, 3), (37, .aload_n 2, 1), (38, .iconst 1, 1), (39, .invokevirtual 63, 3), (42, .ireturn, 1), (43, .aload_n 2, 1), (44, .getfield 106, 3), (47, .ifCond .ne 21, 3), (50, .aload_n 0, 1), (51, .getfield 30, 3), (54, .invokevirtual 110, 3), (57, .bipush 40, 2), (59, .if_icmp .lt 9, 3), (62, .aload_n 2, 1), (63, .iconst 2, 1), (64, .invokevirtual 63, 3), (67, .ireturn, 1), (68, .aload_n 0, 1), (69, .getfield 30, 3), (72, .iload_n 1, 1), (73, .invokevirtual 113, 3), (76, .ireturn, 1)]
theorem dtX3_row_0 : ∀ (i : Nat) (q : Nat × Instr × Nat), tbX3_row_0[i]? = some q → decode cX3_row q.1 = .ok q.2 := dtab (by decide +kernel)
def tbX3_put_0 : List (Nat × Instr × Nat) := [(0, .aload_n 0, 1), (1, .iload_n 1, 1), (2, .invokevirtual 116, 3), (5, .iload_n 2, 1), (6, .invokestatic 38, 3), (9, .ifCond .eq 21, 3), (12, .iload_n 3, 1), (13, .sipush (-9999), 3), (16, .if_icmp .lt 14, 3), (19, .iload_n 3, 1), (20, .sipush 9999, 3), (23, .if_icmp .gt 7, 3), (26, .iconst 1, 1), (27, .goto 4, 3), (30, .iconst 0, 1), (31, .invokestatic 41, 3), (34, .aload_n 0, 1), (35, .invokevirtual 45, 3), (38, .pop, 1), (39, .aload_n 0, 1), (40, .getfield 30, 3), (43, .iload_n 1, 1), (44, .invokevirtual 119, 3), (47, .astore 4, 2), (49, .aload 4, 2), (51, .iload_n 2, 1), (52, .invokevirtual 67, 3), (55, .istore 5, 2), (57, .iload 5, 2), (59, .iconst (-1), 1), (60, .if_icmp .ne 10, 3), (63, .aload 4, 2), (65, .iconst 5, 1), (66, .invokevirtual 63, 3), (69, .ireturn, 1), (70, .aload 4, 2), (72, .getfield 89, 3), (75, .iload 5, 2), (77, .iaload, 1), (78, .iload_n 3, 1), (79, .invokestatic 123, 3), (82, .ifCond .ne 11, 3), (85, .aload 4, 2), (87, .bipush 6, 2), (89, .invokevirtual 63, 3), (92, .ireturn, 1), (93, .aload_n 0, 1), (94, .getfield 30, 3), (97, .iload_n 1, 1), (98, .iload 5, 2), (100, .invokevirtual 127, 3), (103, .ldc 130, 2), (105, .if_icmp .eq 7, 3), (108, .iconst 1, 1), (109, .goto 4, 3), (112, .iconst 0, 1), (113, .istore 6, 2), (115, .aload_n 0, 1), (116, .getfield 30, 3), (119, .iload_n 1, 1), (120, .iload 5, 2), (122, .iload_n 3, 1), (123, .invokevirtual 131, 3), (126, .iload 6, 2)]
theorem dtX3_put_0 : ∀ (i : Nat) (q : Nat × Instr × Nat), tbX3_put_0[i]? = some q → decode cX3_put q.1 = .ok q.2 := dtab (by decide +kernel)
def tbX3_put_1 : List (Nat × Instr × Nat) := [(128, .invokestatic 96, 3), (131, .ireturn, 1)]
theorem dtX3_put_1 : ∀ (i : Nat) (q : Nat × Instr × Nat), tbX3_put_1[i]? = some q → decode cX3_put q.1 = .ok q.2 := dtab (by decide +kernel)
def tbX3_remove_0 : List (Nat × Instr × Nat) := [(0, .aload_n 0, 1), (1, .iload_n 1, 1), (2, .invokevirtual 116, 3), (5, .aload_n 0, 1), (6, .invokevirtual 45, 3), (9, .pop, 1), (10, .aload_n 0, 1), (11, .getfield 30, 3), (14, .getfield 134, 3), (17, .iload_n 1, 1), (18, .iaload, 1), (19, .istore_n 2, 1), (20, .aload_n 0, 1), (21, .getfield 26, 3), (24, .iconst 0, 1), (25, .iload_n 1, 1), (26, .iastore, 1), (27, .aload_n 0, 1), (28, .getfield 30, 3), (31, .aload_n 0, 1), (32, .getfield 26, 3), (35, .iconst 1, 1), (36, .invokevirtual 137, 3), (39, .iload_n 2, 1), (40, .ireturn, 1)]
theorem dtX3_remove_0 : ∀ (i : Nat) (q : Nat × Instr × Nat), tbX3_remove_0[i]? = some q → decode cX3_remove q.1 = .ok q.2 := dtab (by decide +kernel)
def tbX3_move_0 : List (Nat × Instr × Nat) := [(0, .iload_n 1, 1), (1, .invokestatic 34, 3), (4, .invokestatic 41, 3), (7, .aload_n 0, 1), (8, .invokevirtual 45, 3), (11, .astore_n 2, 1), (12, .aload_n 0, 1), (13, .getfield 30, 3), (16, .getfield 49, 3), (19, .iload_n 1, 1), (20, .aaload, 1), (21, .astore_n 3, 1), (22, .aload_n 3, 1), (23, .getfield 106, 3), (26, .ifCond .eq 30, 3), (29, .aload_n 0, 1), (30, .getfield 30, 3), (33, .invokevirtual 110, 3), (36, .aload_n 0, 1), (37, .getfield 30, 3), (40, .iload_n 1, 1), (41, .invokevirtual 100, 3), (44, .iadd, 1), (45, .bipush 40, 2), (47, .if_icmp .le 9, 3), (50, .aload_n 3, 1), (51, .iconst 2, 1), (52, .invokevirtual 63, 3), (55, .ireturn, 1), (56, .aload_n 3, 1), (57, .aload_n 3, 1), (58, .getfield 106, 3), (61, .ifCond .ne 7, 3), (64, .iconst 1, 1), (65, .goto 4, 3), (68, .iconst 0, 1), (69, .putfield 106, 3), (72, .aload_n 0, 1), (73, .getfield 30, 3), (76, .aload_n 2, 1), (77, .invokevirtual 141, 3), (80, .aload_n 3, 1), (81, .getfield 106, 3), (84, .invokestatic 96, 3), (87, .ireturn, 1)]
theorem dtX3_move_0 : ∀ (i : Nat) (q : Nat × Instr × Nat), tbX3_move_0[i]? = some q → decode cX3_move q.1 = .ok q.2 := dtab (by decide +kernel)
def tbX3_limit_0 : List (Nat × Instr × Nat) := [(0, .iload_n 1, 1), (1, .invokestatic 34, 3), (4, .ifCond .eq 26, 3), (7, .iload_n 3, 1), (8, .ifCond .lt 22, 3), (11, .iload_n 3, 1), (12, .iload_n 2, 1), (13, .ifCond .eq 8, 3), (16, .bipush 8, 2), (18, .goto 5, 3), (21, .bipush 40, 2), (23, .if_icmp .gt 7, 3), (26, .iconst 1, 1), (27, .goto 4, 3), (30, .iconst 0, 1), (31, .invokestatic 41, 3), (34, .aload_n 0, 1), (35, .invokevirtual 45, 3), (38, .pop, 1), (39, .aload_n 0, 1), (40, .getfield 30, 3), (43, .getfield 49, 3), (46, .iload_n 1, 1), (47, .aaload, 1), (48, .astore 4, 2), (50, .iload_n 2, 1), (51, .ifCond .eq 11, 3), (54, .aload 4, 2), (56, .getfield 59, 3), (59, .goto 8, 3), (62, .aload 4, 2), (64, .getfield 103, 3), (67, .istore 5, 2), (69, .iload_n 2, 1), (70, .ifCond .eq 12, 3), (73, .aload 4, 2), (75, .iload_n 3, 1), (76, .putfield 59, 3), (79, .goto 9, 3), (82, .aload 4, 2), (84, .iload_n 3, 1), (85, .putfield 103, 3), (88, .iload 5, 2), (90, .ireturn, 1)]
theorem dtX3_limit_0 : ∀ (i : Nat) (q : Nat × Instr × Nat), tbX3_limit_0[i]? = some q → decode cX3_limit q.1 = .ok q.2 := dtab (by decide +kernel)
def tbX3_append_0 : List (Nat × Instr × Nat) := [(0, .iload_n 1, 1), (1, .bipush 33, 2), (3, .if_icmp .lt 13, 3), (6, .iload_n 1, 1), (7, .bipush 126, 2), (9, .if_icmp .gt 7, 3), (12, .iconst 1, 1), (13, .goto 4, 3), (16, .iconst 0, 1), (17, .invokestatic 41, 3), (20, .aload_n 0, 1), (21, .getfield 145, 3), (24, .bipush 40, 2), (26, .if_icmp .lt 13, 3), (29, .new 148, 3), (32, .dup, 1), (33, .ldc 150, 2), (35, .invokespecial 152, 3), (38, .athrow, 1), (39, .aload_n 0, 1), (40, .getfield 15, 3), (43, .aload_n 0, 1), (44, .getfield 145, 3), (47, .iload_n 1, 1), (48, .iastore, 1), (49, .aload_n 0, 1), (50, .dup, 1), (51, .getfield 145, 3), (54, .iconst 1, 1), (55, .iadd, 1), (56, .putfield 145, 3), (59, .aload_n 0, 1), (60, .getfield 145, 3), (63, .ireturn, 1)]
theorem dtX3_append_0 : ∀ (i : Nat) (q : Nat × Instr × Nat), tbX3_append_0[i]? = some q → decode cX3_append q.1 = .ok q.2 := dtab (by decide +kernel)
def tbX3_clearBuffer_0 : List (Nat × Instr × Nat) := [(0, .aload_n 0, 1), (1, .getfield 145, 3), (4, .istore_n 1, 1), (5, .aload_n 0, 1), (6, .iconst 0, 1), (7, .putfield 145, 3), (10, .iload_n 1, 1), (11, .ireturn, 1)]
theorem dtX3_clearBuffer_0 : ∀ (i : Nat) (q : Nat × Instr × Nat), tbX3_clearBuffer_0[i]? = some q → decode cX3_clearBuffer q.1 = .ok q.2 := dtab (by decide +kernel)
def tbX3_ask_0 : List (Nat × Instr × Nat) := [(0, .iload_n 1, 1), (1, .invokestatic 34, 3), (4, .ifCond .eq 14, 3), (7, .aload_n 0, 1), (8, .invokevirtual 159, 3), (11, .ifCond .eq 7, 3), (14, .iconst 1, 1), (15, .goto 4, 3), (18, .iconst 0, 1), (19, .invokestatic 41, 3), (22, .aload_n 0, 1), (23, .invokevirtual 45, 3), (26, .pop, 1), (27, .aload_n 0, 1), (28, .getfield 30, 3), (31, .getfield 49, 3), (34, .iload_n 1, 1), (35, .aaload, 1), (36, .astore_n 2, 1), (37, .aload_n 0, 1), (38, .iload_n 1, 1), (39, .invokevirtual 163, 3), (42, .istore_n 3, 1), (43, .aload_n 2, 1), (44, .dup, 1), (45, .getfield 166, 3), (48, .iconst 1, 1), (49, .iadd, 1), (50, .putfield 166, 3), (53, .aload_n 2, 1), (54, .dup, 1), (55, .getfield 169, 3), (58, .aload_n 0, 1), (59, .iload_n 1, 1), (60, .aload_n 2, 1), (61, .getfield 106, 3), (64, .iconst (-1), 1), (65, .invokevirtual 172, 3), (68, .iadd, 1), (69, .putfield 169, 3), (72, .aload_n 2, 1), (73, .dup, 1), (74, .getfield 176, 3), (77, .iload_n 3, 1), (78, .iadd, 1), (79, .putfield 176, 3), (82, .iload_n 3, 1), (83, .ireturn, 1)]
theorem dtX3_ask_0 : ∀ (i : Nat) (q : Nat × Instr × Nat), tbX3_ask_0[i]? = some q → decode cX3_ask q.1 = .ok q.2 := dtab (by decide +kernel)
def tbX3_undo_0 : List (Nat × Instr × Nat) := [(0, .aload_n 0, 1), (1, .getfield 179, 3), (4, .ifCond .gt 13, 3), (7, .new 148, 3), (10, .dup, 1), (11, .ldc 182, 2), (13, .invokespecial 152, 3), (16, .athrow, 1), (17, .aload_n 0, 1), (18, .dup, 1), (19, .getfield 179, 3), (22, .iconst 1, 1), (23, .isub, 1), (24, .putfield 179, 3), (27, .aload_n 0, 1), (28, .getfield 11, 3), (31, .aload_n 0, 1), (32, .getfield 179, 3), (35, .aaload, 1), (36, .astore_n 1, 1), (37, .aload_n 0, 1), (38, .getfield 11, 3), (41, .aload_n 0, 1), (42, .getfield 179, 3), (45, .aload_n 0, 1), (46, .getfield 30, 3), (49, .aastore, 1), (50, .aload_n 0, 1), (51, .aload_n 1, 1), (52, .putfield 30, 3), (55, .aload_n 0, 1), (56, .getfield 179, 3), (59, .ireturn, 1)]
theorem dtX3_undo_0 : ∀ (i : Nat) (q : Nat × Instr × Nat), tbX3_undo_0[i]? = some q → decode cX3_undo q.1 = .ok q.2 := dtab (by decide +kernel)
def tbX3_rowOf_0 : List (Nat × Instr × Nat) := [(0, .aload_n 0, 1), (1, .iload_n 1, 1), (2, .invokevirtual 116, 3), (5, .iload_n 2, 1), (6, .ifCond .lt 13, 3), (9, .iload_n 2, 1), (10, .bipush 9, 2), (12, .if_icmp .gt 7, 3), (15, .iconst 1, 1), (16, .goto 4, 3), (19, .iconst 0, 1), (20, .invokestatic 41, 3), (23, .iload_n 2, 1), (24, .ifCond .ne 13, 3), (27, .aload_n 0, 1), (28, .getfield 30, 3), (31, .getfield 134, 3), (34, .iload_n 1, 1), (35, .iaload, 1), (36, .ireturn, 1), (37, .iload_n 2, 1), (38, .bipush 9, 2), (40, .if_icmp .ne 12, 3), (43, .aload_n 0, 1), (44, .getfield 30, 3), (47, .iload_n 1, 1), (48, .invokevirtual 184, 3), (51, .ireturn, 1), (52, .aload_n 0, 1), (53, .getfield 30, 3), (56, .iload_n 1, 1), (57, .iload_n 2, 1), (58, .iconst 1, 1), (59, .isub, 1), (60, .invokevirtual 127, 3), (63, .istore_n 3, 1), (64, .iload_n 3, 1), (65, .ldc 130, 2), (67, .if_icmp .ne 7, 3), (70, .iconst (-1), 1), (71, .goto 8, 3), (74, .iload_n 3, 1), (75, .sipush 10000, 3), (78, .iadd, 1), (79, .ireturn, 1)]
theorem dtX3_rowOf_0 : ∀ (i : Nat) (q : Nat × Instr × Nat), tbX3_rowOf_0[i]? = some q → decode cX3_rowOf q.1 = .ok q.2 := dtab (by decide +kernel)
def tbX3_column_0 : List (Nat × Instr × Nat) := [(0, .iload_n 1, 1), (1, .invokestatic 34, 3), (4, .ifCond .eq 26, 3), (7, .iload_n 2, 1), (8, .ifCond .lt 22, 3), (11, .iload_n 2, 1), (12, .bipush 8, 2), (14, .if_icmp .ge 16, 3), (17, .iload_n 3, 1), (18, .ifCond .lt 12, 3), (21, .iload_n 3, 1), (22, .iconst 5, 1), (23, .if_icmp .gt 7, 3), (26, .iconst 1, 1), (27, .goto 4, 3), (30, .iconst 0, 1), (31, .invokestatic 41, 3), (34, .aload_n 0, 1), (35, .getfield 30, 3), (38, .getfield 49, 3), (41, .iload_n 1, 1), (42, .aaload, 1), (43, .astore 4, 2), (45, .aload 4, 2), (47, .getfield 86, 3), (50, .iload_n 2, 1), (51, .iaload, 1), (52, .iconst (-1), 1), (53, .if_icmp .ne 5, 3), (56, .iconst (-1), 1), (57, .ireturn, 1), (58, .iload_n 3, 1), (59, .tableswitch 83 0 4 #[33, 41, 49, 60, 70], 33), (92, .aload 4, 2), (94, .getfield 86, 3), (97, .iload_n 2, 1), (98, .iaload, 1), (99, .ireturn, 1), (100, .aload 4, 2), (102, .getfield 89, 3), (105, .iload_n 2, 1), (106, .iaload, 1), (107, .ireturn, 1), (108, .aload 4, 2), (110, .getfield 92, 3), (113, .iload_n 2, 1), (114, .baload, 1), (115, .invokestatic 96, 3), (118, .ireturn, 1), (119, .aload_n 0, 1), (120, .getfield 30, 3), (123, .iload_n 1, 1), (124, .iload_n 2, 1), (125, .invokevirtual 74, 3), (128, .ireturn, 1), (129, .aload_n 0, 1), (130, .getfield 30, 3), (133, .iload_n 1, 1), (134, .iload_n 2, 1), (135, .invokevirtual 187, 3), (138, .ldc 190, 2), (140, .iadd, 1), (141, .ireturn, 1), (142, .aload_n 0, 1)]
theorem dtX3_column_0 : ∀ (i : Nat) (q : Nat × Instr × Nat), tbX3_column_0[i]? = some q → decode cX3_column q.1 = .ok q.2 := dtab (by decide +kernel)
def tbX3_column_1 : List (Nat × Instr × Nat) := [(143, .getfield 30, 3), (146, .iload_n 1, 1), (147, .iload_n 2, 1), (148, .invokevirtual 191, 3), (151, .ireturn, 1)]
theorem dtX3_column_1 : ∀ (i : Nat) (q : Nat × Instr × Nat), tbX3_column_1[i]? = some q → decode cX3_column q.1 = .ok q.2 := dtab (by decide +kernel)
def tbX3_tenant_0 : List (Nat × Instr × Nat) := [(0, .iload_n 1, 1), (1, .invokestatic 34, 3), (4, .ifCond .eq 17, 3), (7, .iload_n 2, 1), (8, .ifCond .lt 13, 3), (11, .iload_n 2, 1), (12, .bipush 8, 2), (14, .if_icmp .gt 7, 3), (17, .iconst 1, 1), (18, .goto 4, 3), (21, .iconst 0, 1), (22, .invokestatic 41, 3), (25, .aload_n 0, 1), (26, .getfield 30, 3), (29, .getfield 49, 3), (32, .iload_n 1, 1), (33, .aaload, 1), (34, .astore_n 3, 1), (35, .iload_n 2, 1), (36, .tableswitch 95 0 7 #[48, 57, 62, 67, 72, 80, 85, 90], 48), (84, .aload_n 0, 1), (85, .getfield 30, 3), (88, .iload_n 1, 1), (89, .invokevirtual 100, 3), (92, .ireturn, 1), (93, .aload_n 3, 1), (94, .invokevirtual 53, 3), (97, .ireturn, 1), (98, .aload_n 3, 1), (99, .getfield 103, 3), (102, .ireturn, 1), (103, .aload_n 3, 1), (104, .getfield 59, 3), (107, .ireturn, 1), (108, .aload_n 3, 1), (109, .getfield 106, 3), (112, .invokestatic 96, 3), (115, .ireturn, 1), (116, .aload_n 3, 1), (117, .getfield 166, 3), (120, .ireturn, 1), (121, .aload_n 3, 1), (122, .getfield 169, 3), (125, .ireturn, 1), (126, .aload_n 3, 1), (127, .getfield 176, 3), (130, .ireturn, 1), (131, .aload_n 3, 1), (132, .getfield 194, 3), (135, .ireturn, 1)]
theorem dtX3_tenant_0 : ∀ (i : Nat) (q : Nat × Instr × Nat), tbX3_tenant_0[i]? = some q → decode cX3_tenant q.1 = .ok q.2 := dtab (by decide +kernel)
def tbX3_answer_0 : List (Nat × Instr × Nat) := [(0, .iload_n 1, 1), (1, .invokestatic 34, 3), (4, .ifCond .eq 23, 3), (7, .iload_n 2, 1), (8, .iconst (-1), 1), (9, .if_icmp .eq 10, 3), (12, .iload_n 2, 1), (13, .invokestatic 38, 3), (16, .ifCond .eq 11, 3), (19, .iload_n 3, 1), (20, .ifCond .lt 7, 3), (23, .iconst 1, 1), (24, .goto 4, 3), (27, .iconst 0, 1), (28, .invokestatic 41, 3), (31, .aload_n 0, 1), (32, .invokevirtual 159, 3), (35, .ifCond .ne 5, 3), (38, .iconst (-1), 1), (39, .ireturn, 1), (40, .aload_n 0, 1), (41, .iload_n 1, 1), (42, .invokevirtual 163, 3), (45, .istore 4, 2), (47, .iload_n 2, 1), (48, .iconst (-1), 1), (49, .if_icmp .eq 22, 3), (52, .aload_n 0, 1), (53, .iload 4, 2), (55, .aload_n 0, 1), (56, .getfield 30, 3), (59, .getfield 49, 3), (62, .iload_n 1, 1), (63, .aaload, 1), (64, .iload_n 2, 1), (65, .invokevirtual 67, 3), (68, .invokevirtual 197, 3), (71, .aload_n 0, 1), (72, .iload_n 3, 1), (73, .iload 4, 2), (75, .invokevirtual 201, 3), (78, .ireturn, 1)]
theorem dtX3_answer_0 : ∀ (i : Nat) (q : Nat × Instr × Nat), tbX3_answer_0[i]? = some q → decode cX3_answer q.1 = .ok q.2 := dtab (by decide +kernel)
def tbX3_count_0 : List (Nat × Instr × Nat) := [(0, .iload_n 1, 1), (1, .ifCond .lt 13, 3), (4, .iload_n 1, 1), (5, .bipush 7, 2), (7, .if_icmp .gt 7, 3), (10, .iconst 1, 1), (11, .goto 4, 3), (14, .iconst 0, 1), (15, .invokestatic 41, 3), (18, .iload_n 1, 1), (19, .tableswitch 101 0 6 #[41, 49, 57, 65, 75, 85, 93], 41), (60, .aload_n 0, 1), (61, .getfield 30, 3), (64, .invokevirtual 110, 3), (67, .ireturn, 1), (68, .aload_n 0, 1), (69, .getfield 30, 3), (72, .getfield 204, 3), (75, .ireturn, 1), (76, .aload_n 0, 1), (77, .getfield 30, 3), (80, .invokevirtual 207, 3), (83, .ireturn, 1), (84, .aload_n 0, 1), (85, .getfield 30, 3), (88, .iconst 2, 1), (89, .iconst 3, 1), (90, .invokevirtual 210, 3), (93, .ireturn, 1), (94, .aload_n 0, 1), (95, .getfield 30, 3), (98, .iconst 0, 1), (99, .iconst 0, 1), (100, .invokevirtual 210, 3), (103, .ireturn, 1), (104, .aload_n 0, 1), (105, .getfield 30, 3), (108, .invokevirtual 213, 3), (111, .ireturn, 1), (112, .aload_n 0, 1), (113, .getfield 30, 3), (116, .invokevirtual 216, 3), (119, .ireturn, 1), (120, .aload_n 0, 1), (121, .getfield 179, 3), (124, .ireturn, 1)]
theorem dtX3_count_0 : ∀ (i : Nat) (q : Nat × Instr × Nat), tbX3_count_0[i]? = some q → decode cX3_count q.1 = .ok q.2 := dtab (by decide +kernel)
def tbX3_looked_0 : List (Nat × Instr × Nat) := [(0, .iload_n 1, 1), (1, .invokestatic 34, 3), (4, .invokestatic 41, 3), (7, .aload_n 0, 1), (8, .invokevirtual 159, 3), (11, .ifCond .ne 5, 3), (14, .iconst (-1), 1), (15, .ireturn, 1), (16, .aload_n 0, 1), (17, .iload_n 1, 1), (18, .iload_n 2, 1), (19, .ifCond .ne 18, 3), (22, .aload_n 0, 1), (23, .getfield 30, 3), (26, .getfield 49, 3), (29, .iload_n 1, 1), (30, .aaload, 1), (31, .getfield 106, 3), (34, .ifCond .eq 7, 3), (37, .iconst 1, 1), (38, .goto 4, 3), (41, .iconst 0, 1), (42, .iconst (-1), 1), (43, .invokevirtual 172, 3), (46, .ireturn, 1)]
theorem dtX3_looked_0 : ∀ (i : Nat) (q : Nat × Instr × Nat), tbX3_looked_0[i]? = some q → decode cX3_looked q.1 = .ok q.2 := dtab (by decide +kernel)
def tbX3_bestIndex_0 : List (Nat × Instr × Nat) := [(0, .iload_n 1, 1), (1, .invokestatic 34, 3), (4, .invokestatic 41, 3), (7, .aload_n 0, 1), (8, .invokevirtual 159, 3), (11, .ifCond .eq 11, 3), (14, .aload_n 0, 1), (15, .iload_n 1, 1), (16, .invokevirtual 219, 3), (19, .goto 4, 3), (22, .iconst (-1), 1), (23, .ireturn, 1)]
theorem dtX3_bestIndex_0 : ∀ (i : Nat) (q : Nat × Instr × Nat), tbX3_bestIndex_0[i]? = some q → decode cX3_bestIndex q.1 = .ok q.2 := dtab (by decide +kernel)
def tbX3_fullness_0 : List (Nat × Instr × Nat) := [(0, .bipush 8, 2), (2, .aload_n 0, 1), (3, .getfield 30, 3), (6, .invokevirtual 110, 3), (9, .imul, 1), (10, .istore_n 1, 1), (11, .iload_n 1, 1), (12, .ifCond .gt 7, 3), (15, .dconst 0, 1), (16, .goto 14, 3), (19, .aload_n 0, 1), (20, .getfield 30, 3), (23, .invokevirtual 207, 3), (26, .i2d, 1), (27, .iload_n 1, 1), (28, .i2d, 1), (29, .ddiv, 1), (30, .dreturn, 1)]
theorem dtX3_fullness_0 : ∀ (i : Nat) (q : Nat × Instr × Nat), tbX3_fullness_0[i]? = some q → decode cX3_fullness q.1 = .ok q.2 := dtab (by decide +kernel)
def tbX3_require_0 : List (Nat × Instr × Nat) := [(0, .iload_n 0, 1), (1, .ifCond .ne 14, 3), (4, .new 267, 3), (7, .dup, 1), (8, .ldc_w 269, 3), (11, .invokespecial 271, 3), (14, .athrow, 1), (15, .return_, 1)]
theorem dtX3_require_0 : ∀ (i : Nat) (q : Nat × Instr × Nat), tbX3_require_0[i]? = some q → decode cX3_require q.1 = .ok q.2 := dtab (by decide +kernel)
def tbX3_requireRow_0 : List (Nat × Instr × Nat) := [(0, .iload_n 1, 1), (1, .ifCond .lt 14, 3), (4, .iload_n 1, 1), (5, .aload_n 0, 1), (6, .getfield 30, 3), (9, .getfield 204, 3), (12, .if_icmp .lt 14, 3), (15, .new 272, 3), (18, .dup, 1), (19, .ldc_w 274, 3), (22, .invokespecial 276, 3), (25, .athrow, 1), (26, .return_, 1)]
theorem dtX3_requireRow_0 : ∀ (i : Nat) (q : Nat × Instr × Nat), tbX3_requireRow_0[i]? = some q → decode cX3_requireRow q.1 = .ok q.2 := dtab (by decide +kernel)
def tbX3_isTenant_0 : List (Nat × Instr × Nat) := [(0, .iload_n 0, 1), (1, .ifCond .lt 12, 3), (4, .iload_n 0, 1), (5, .iconst 3, 1), (6, .if_icmp .ge 7, 3), (9, .iconst 1, 1), (10, .goto 4, 3), (13, .iconst 0, 1), (14, .ireturn, 1)]
theorem dtX3_isTenant_0 : ∀ (i : Nat) (q : Nat × Instr × Nat), tbX3_isTenant_0[i]? = some q → decode cX3_isTenant q.1 = .ok q.2 := dtab (by decide +kernel)
def tbX3_isLetter_0 : List (Nat × Instr × Nat) := [(0, .iload_n 0, 1), (1, .ifCond .lt 13, 3), (4, .iload_n 0, 1), (5, .bipush 8, 2), (7, .if_icmp .ge 7, 3), (10, .iconst 1, 1), (11, .goto 4, 3), (14, .iconst 0, 1), (15, .ireturn, 1)]
theorem dtX3_isLetter_0 : ∀ (i : Nat) (q : Nat × Instr × Nat), tbX3_isLetter_0[i]? = some q → decode cX3_isLetter q.1 = .ok q.2 := dtab (by decide +kernel)
def tbX3_fits_0 : List (Nat × Instr × Nat) := [(0, .iload_n 0, 1), (1, .lookupswitch 62 #[(0, 27), (1, 47)], 27), (28, .iload_n 1, 1), (29, .sipush (-999), 3), (32, .if_icmp .lt 14, 3), (35, .iload_n 1, 1), (36, .sipush 999, 3), (39, .if_icmp .gt 7, 3), (42, .iconst 1, 1), (43, .goto 4, 3), (46, .iconst 0, 1), (47, .ireturn, 1), (48, .iload_n 1, 1), (49, .ifCond .eq 8, 3), (52, .iload_n 1, 1), (53, .iconst 1, 1), (54, .if_icmp .ne 7, 3), (57, .iconst 1, 1), (58, .goto 4, 3), (61, .iconst 0, 1), (62, .ireturn, 1), (63, .iload_n 1, 1), (64, .ifCond .lt 14, 3), (67, .iload_n 1, 1), (68, .sipush 3650, 3), (71, .if_icmp .gt 7, 3), (74, .iconst 1, 1), (75, .goto 4, 3), (78, .iconst 0, 1), (79, .ireturn, 1)]
theorem dtX3_fits_0 : ∀ (i : Nat) (q : Nat × Instr × Nat), tbX3_fits_0[i]? = some q → decode cX3_fits q.1 = .ok q.2 := dtab (by decide +kernel)
def tbX3_asNumber_0 : List (Nat × Instr × Nat) := [(0, .iload_n 0, 1), (1, .ifCond .eq 7, 3), (4, .iconst 1, 1), (5, .goto 4, 3), (8, .iconst 0, 1), (9, .ireturn, 1)]
theorem dtX3_asNumber_0 : ∀ (i : Nat) (q : Nat × Instr × Nat), tbX3_asNumber_0[i]? = some q → decode cX3_asNumber q.1 = .ok q.2 := dtab (by decide +kernel)
def tbX3_save_0 : List (Nat × Instr × Nat) := [(0, .aload_n 0, 1), (1, .getfield 179, 3), (4, .bipush 6, 2), (6, .if_icmp .lt 50, 3), (9, .aload_n 0, 1), (10, .getfield 11, 3), (13, .iconst 0, 1), (14, .aaload, 1), (15, .astore_n 1, 1), (16, .iconst 1, 1), (17, .istore_n 2, 1), (18, .iload_n 2, 1), (19, .bipush 6, 2), (21, .if_icmp .ge 23, 3), (24, .aload_n 0, 1), (25, .getfield 11, 3), (28, .iload_n 2, 1), (29, .iconst 1, 1), (30, .isub, 1), (31, .aload_n 0, 1), (32, .getfield 11, 3), (35, .iload_n 2, 1), (36, .aaload, 1), (37, .aastore, 1), (38, .iinc 2 1, 3), (41, .goto (-23), 3), (44, .aload_n 0, 1), (45, .getfield 11, 3), (48, .iconst 5, 1), (49, .aload_n 1, 1), (50, .aastore, 1), (51, .aload_n 0, 1), (52, .iconst 5, 1), (53, .putfield 179, 3), (56, .aload_n 0, 1), (57, .getfield 11, 3), (60, .aload_n 0, 1), (61, .getfield 179, 3), (64, .aaload, 1), (65, .astore_n 1, 1), (66, .aload_n 1, 1), (67, .aload_n 0, 1), (68, .getfield 30, 3), (71, .invokevirtual 277, 3), (74, .aload_n 0, 1), (75, .dup, 1), (76, .getfield 179, 3), (79, .iconst 1, 1), (80, .iadd, 1), (81, .putfield 179, 3), (84, .aload_n 1, 1), (85, .areturn, 1)]
theorem dtX3_save_0 : ∀ (i : Nat) (q : Nat × Instr × Nat), tbX3_save_0[i]? = some q → decode cX3_save q.1 = .ok q.2 := dtab (by decide +kernel)
def tbX3_readQuestion_0 : List (Nat × Instr × Nat) := [(0, .aload_n 0, 1), (1, .getfield 22, 3), (4, .aload_n 0, 1), (5, .getfield 15, 3), (8, .aload_n 0, 1), (9, .getfield 145, 3), (12, .invokevirtual 155, 3), (15, .pop, 1), (16, .aload_n 0, 1), (17, .getfield 22, 3), (20, .invokevirtual 280, 3), (23, .ireturn, 1)]
theorem dtX3_readQuestion_0 : ∀ (i : Nat) (q : Nat × Instr × Nat), tbX3_readQuestion_0[i]? = some q → decode cX3_readQuestion q.1 = .ok q.2 := dtab (by decide +kernel)
def tbX3_collectAnswers_0 : List (Nat × Instr × Nat) := [(0, .iconst 0, 1), (1, .istore_n 2, 1), (2, .iconst 0, 1), (3, .istore_n 3, 1), (4, .iload_n 3, 1), (5, .aload_n 0, 1), (6, .getfield 30, 3), (9, .getfield 204, 3), (12, .if_icmp .ge 55, 3), (15, .iload_n 3, 1), (16, .bipush 120, 2), (18, .if_icmp .ge 49, 3), (21, .aload_n 0, 1), (22, .getfield 30, 3), (25, .getfield 134, 3), (28, .iload_n 3, 1), (29, .iaload, 1), (30, .iload_n 1, 1), (31, .if_icmp .ne 30, 3), (34, .aload_n 0, 1), (35, .iload_n 3, 1), (36, .aload_n 0, 1), (37, .getfield 30, 3), (40, .getfield 49, 3), (43, .iload_n 1, 1), (44, .aaload, 1), (45, .invokevirtual 283, 3), (48, .ifCond .eq 13, 3), (51, .aload_n 0, 1), (52, .getfield 26, 3), (55, .iload_n 2, 1), (56, .iload_n 3, 1), (57, .iastore, 1), (58, .iinc 2 1, 3), (61, .iinc 3 1, 3), (64, .goto (-60), 3), (67, .iload_n 2, 1), (68, .ireturn, 1)]
theorem dtX3_collectAnswers_0 : ∀ (i : Nat) (q : Nat × Instr × Nat), tbX3_collectAnswers_0[i]? = some q → decode cX3_collectAnswers q.1 = .ok q.2 := dtab (by decide +kernel)
def tbX3_isAnswer_0 : List (Nat × Instr × Nat) := [(0, .iconst 0, 1), (1, .istore_n 3, 1), (2, .iload_n 3, 1), (3, .aload_n 0, 1), (4, .getfield 22, 3), (7, .getfield 287, 3), (10, .if_icmp .ge 54, 3), (13, .aload_n 0, 1), (14, .getfield 30, 3), (17, .iload_n 1, 1), (18, .aload_n 2, 1), (19, .aload_n 0, 1), (20, .getfield 22, 3), (23, .getfield 290, 3), (26, .iload_n 3, 1), (27, .iaload, 1), (28, .invokevirtual 67, 3), (31, .invokevirtual 127, 3), (34, .istore 4, 2), (36, .iload 4, 2), (38, .ldc 130, 2), (40, .if_icmp .eq 16, 3), (43, .aload_n 0, 1), (44, .getfield 22, 3), (47, .iload_n 3, 1), (48, .iload 4, 2), (50, .invokevirtual 291, 3), (53, .ifCond .ne 5, 3), (56, .iconst 0, 1), (57, .ireturn, 1), (58, .iinc 3 1, 3), (61, .goto (-59), 3), (64, .iconst 1, 1), (65, .ireturn, 1)]
theorem dtX3_isAnswer_0 : ∀ (i : Nat) (q : Nat × Instr × Nat), tbX3_isAnswer_0[i]? = some q → decode cX3_isAnswer q.1 = .ok q.2 := dtab (by decide +kernel)
def tbX3_sortAnswers_0 : List (Nat × Instr × Nat) := [(0, .iconst 1, 1), (1, .istore_n 3, 1), (2, .iload_n 3, 1), (3, .iload_n 1, 1), (4, .if_icmp .ge 75, 3), (7, .aload_n 0, 1), (8, .getfield 26, 3), (11, .iload_n 3, 1), (12, .iaload, 1), (13, .istore 4, 2), (15, .iload_n 3, 1), (16, .istore 5, 2), (18, .iload 5, 2), (20, .ifCond .le 44, 3), (23, .aload_n 0, 1), (24, .iload 4, 2), (26, .aload_n 0, 1), (27, .getfield 26, 3), (30, .iload 5, 2), (32, .iconst 1, 1), (33, .isub, 1), (34, .iaload, 1), (35, .iload_n 2, 1), (36, .invokevirtual 294, 3), (39, .ifCond .eq 25, 3), (42, .aload_n 0, 1), (43, .getfield 26, 3), (46, .iload 5, 2), (48, .aload_n 0, 1), (49, .getfield 26, 3), (52, .iload 5, 2), (54, .iconst 1, 1), (55, .isub, 1), (56, .iaload, 1), (57, .iastore, 1), (58, .iinc 5 (-1), 3), (61, .goto (-43), 3), (64, .aload_n 0, 1), (65, .getfield 26, 3), (68, .iload 5, 2), (70, .iload 4, 2), (72, .iastore, 1), (73, .iinc 3 1, 3), (76, .goto (-74), 3), (79, .return_, 1)]
theorem dtX3_sortAnswers_0 : ∀ (i : Nat) (q : Nat × Instr × Nat), tbX3_sortAnswers_0[i]? = some q → decode cX3_sortAnswers q.1 = .ok q.2 := dtab (by decide +kernel)
def tbX3_comesBefore_0 : List (Nat × Instr × Nat) := [(0, .aload_n 0, 1), (1, .getfield 30, 3), (4, .iload_n 1, 1), (5, .iload_n 3, 1), (6, .invokevirtual 127, 3), (9, .istore 4, 2), (11, .aload_n 0, 1), (12, .getfield 30, 3), (15, .iload_n 2, 1), (16, .iload_n 3, 1), (17, .invokevirtual 127, 3), (20, .istore 5, 2), (22, .iload 4, 2), (24, .ldc 130, 2), (26, .if_icmp .ne 5, 3), (29, .iconst 0, 1), (30, .ireturn, 1), (31, .iload 5, 2), (33, .ldc 130, 2), (35, .if_icmp .eq 10, 3), (38, .iload 4, 2), (40, .iload 5, 2), (42, .if_icmp .ge 7, 3), (45, .iconst 1, 1), (46, .goto 4, 3), (49, .iconst 0, 1), (50, .ireturn, 1)]
theorem dtX3_comesBefore_0 : ∀ (i : Nat) (q : Nat × Instr × Nat), tbX3_comesBefore_0[i]? = some q → decode cX3_comesBefore q.1 = .ok q.2 := dtab (by decide +kernel)
def tbX3_answerAt_0 : List (Nat × Instr × Nat) := [(0, .iload_n 1, 1), (1, .ifCond .lt 23, 3), (4, .iload_n 1, 1), (5, .iload_n 2, 1), (6, .if_icmp .ge 18, 3), (9, .iload_n 1, 1), (10, .bipush 120, 2), (12, .if_icmp .ge 12, 3), (15, .aload_n 0, 1), (16, .getfield 26, 3), (19, .iload_n 1, 1), (20, .iaload, 1), (21, .goto 4, 3), (24, .iconst (-1), 1), (25, .ireturn, 1)]
theorem dtX3_answerAt_0 : ∀ (i : Nat) (q : Nat × Instr × Nat), tbX3_answerAt_0[i]? = some q → decode cX3_answerAt q.1 = .ok q.2 := dtab (by decide +kernel)
def tbX3_rowsToLookAt_0 : List (Nat × Instr × Nat) := [(0, .iload_n 2, 1), (1, .ifCond .eq 12, 3), (4, .aload_n 0, 1), (5, .getfield 30, 3), (8, .iload_n 1, 1), (9, .invokevirtual 100, 3), (12, .ireturn, 1), (13, .aload_n 0, 1), (14, .getfield 30, 3), (17, .getfield 49, 3), (20, .iload_n 1, 1), (21, .aaload, 1), (22, .astore 4, 2), (24, .aload_n 0, 1), (25, .getfield 30, 3), (28, .invokevirtual 110, 3), (31, .istore 5, 2), (33, .iconst 0, 1), (34, .istore 6, 2), (36, .iload 6, 2), (38, .aload_n 0, 1), (39, .getfield 22, 3), (42, .getfield 287, 3), (45, .if_icmp .ge 95, 3), (48, .aload_n 0, 1), (49, .getfield 22, 3), (52, .getfield 290, 3), (55, .iload 6, 2), (57, .iaload, 1), (58, .istore 7, 2), (60, .aload 4, 2), (62, .iload 7, 2), (64, .invokevirtual 67, 3), (67, .istore 8, 2), (69, .aload_n 0, 1), (70, .getfield 22, 3), (73, .getfield 298, 3), (76, .iload 6, 2), (78, .iaload, 1), (79, .bipush 61, 2), (81, .if_icmp .ne 53, 3), (84, .iload 8, 2), (86, .iconst (-1), 1), (87, .if_icmp .eq 47, 3), (90, .aload 4, 2), (92, .getfield 92, 3), (95, .iload 8, 2), (97, .baload, 1), (98, .ifCond .ne 9, 3), (101, .iload 7, 2), (103, .iload_n 3, 1), (104, .if_icmp .ne 30, 3), (107, .iload 5, 2), (109, .aload_n 0, 1), (110, .getfield 30, 3), (113, .iload_n 1, 1), (114, .iload 8, 2), (116, .aload_n 0, 1), (117, .getfield 22, 3), (120, .getfield 301, 3), (123, .iload 6, 2), (125, .iaload, 1), (126, .invokevirtual 304, 3), (129, .invokestatic 307, 3)]
theorem dtX3_rowsToLookAt_0 : ∀ (i : Nat) (q : Nat × Instr × Nat), tbX3_rowsToLookAt_0[i]? = some q → decode cX3_rowsToLookAt q.1 = .ok q.2 := dtab (by decide +kernel)
def tbX3_rowsToLookAt_1 : List (Nat × Instr × Nat) := [(132, .istore 5, 2), (134, .iinc 6 1, 3), (137, .goto (-101), 3), (140, .iload 5, 2), (142, .ireturn, 1)]
theorem dtX3_rowsToLookAt_1 : ∀ (i : Nat) (q : Nat × Instr × Nat), tbX3_rowsToLookAt_1[i]? = some q → decode cX3_rowsToLookAt q.1 = .ok q.2 := dtab (by decide +kernel)
def tbX3_bestLetter_0 : List (Nat × Instr × Nat) := [(0, .aload_n 0, 1), (1, .getfield 30, 3), (4, .getfield 49, 3), (7, .iload_n 1, 1), (8, .aaload, 1), (9, .astore_n 2, 1), (10, .iconst (-1), 1), (11, .istore_n 3, 1), (12, .aload_n 0, 1), (13, .iload_n 1, 1), (14, .aload_n 2, 1), (15, .getfield 106, 3), (18, .iconst (-1), 1), (19, .invokevirtual 172, 3), (22, .istore 4, 2), (24, .iconst 0, 1), (25, .istore 5, 2), (27, .iload 5, 2), (29, .aload_n 0, 1), (30, .getfield 22, 3), (33, .getfield 287, 3), (36, .if_icmp .ge 87, 3), (39, .aload_n 0, 1), (40, .getfield 22, 3), (43, .getfield 290, 3), (46, .iload 5, 2), (48, .iaload, 1), (49, .istore 6, 2), (51, .aload_n 2, 1), (52, .iload 6, 2), (54, .invokevirtual 67, 3), (57, .istore 7, 2), (59, .aload_n 0, 1), (60, .getfield 22, 3), (63, .getfield 298, 3), (66, .iload 5, 2), (68, .iaload, 1), (69, .bipush 61, 2), (71, .if_icmp .ne 46, 3), (74, .iload 7, 2), (76, .iconst (-1), 1), (77, .if_icmp .eq 40, 3), (80, .aload_n 2, 1), (81, .getfield 92, 3), (84, .iload 7, 2), (86, .baload, 1), (87, .ifCond .ne 30, 3), (90, .aload_n 0, 1), (91, .iload_n 1, 1), (92, .aload_n 2, 1), (93, .getfield 106, 3), (96, .iload 6, 2), (98, .invokevirtual 172, 3), (101, .istore 8, 2), (103, .iload 8, 2), (105, .iload 4, 2), (107, .if_icmp .ge 10, 3), (110, .iload 8, 2), (112, .istore 4, 2), (114, .iload 6, 2), (116, .istore_n 3, 1), (117, .iinc 5 1, 3), (120, .goto (-93), 3), (123, .iload_n 3, 1)]
theorem dtX3_bestLetter_0 : ∀ (i : Nat) (q : Nat × Instr × Nat), tbX3_bestLetter_0[i]? = some q → decode cX3_bestLetter q.1 = .ok q.2 := dtab (by decide +kernel)
def tbX3_bestLetter_1 : List (Nat × Instr × Nat) := [(124, .ireturn, 1)]
theorem dtX3_bestLetter_1 : ∀ (i : Nat) (q : Nat × Instr × Nat), tbX3_bestLetter_1[i]? = some q → decode cX3_bestLetter q.1 = .ok q.2 := dtab (by decide +kernel)
def tbJ9_abs_0f7a4_0 : List (Nat × Instr × Nat) := [(0, .iload_n 0, 1), (1, .ifCond .ge 8, 3), (4, .iload_n 0, 1), (5, .ineg, 1), (6, .goto 4, 3), (9, .iload_n 0, 1), (10, .ireturn, 1)]
theorem dtJ9_abs_0f7a4_0 : ∀ (i : Nat) (q : Nat × Instr × Nat), tbJ9_abs_0f7a4_0[i]? = some q → decode cJ9_abs_0f7a4 q.1 = .ok q.2 := dtab (by decide +kernel)
def tbJ9_min_7cf53_0 : List (Nat × Instr × Nat) := [(0, .iload_n 0, 1), (1, .iload_n 1, 1), (2, .if_icmp .gt 7, 3), (5, .iload_n 0, 1), (6, .goto 4, 3), (9, .iload_n 1, 1), (10, .ireturn, 1)]
theorem dtJ9_min_7cf53_0 : ∀ (i : Nat) (q : Nat × Instr × Nat), tbJ9_min_7cf53_0[i]? = some q → decode cJ9_min_7cf53 q.1 = .ok q.2 := dtab (by decide +kernel)
def tbL_low_0 : List (Nat × Instr × Nat) := [(0, .iload_n 0, 1), (1, .ldc 7, 2), (3, .iand, 1), (4, .iload_n 1, 1), (5, .irem, 1), (6, .ireturn, 1)]
theorem dtL_low_0 : ∀ (i : Nat) (q : Nat × Instr × Nat), tbL_low_0[i]? = some q → decode cL_low q.1 = .ok q.2 := dtab (by decide +kernel)
def tbL_cell_0 : List (Nat × Instr × Nat) := [(0, .iload_n 1, 1), (1, .aload_n 0, 1), (2, .arraylength, 1), (3, .if_icmp .ge 9, 3), (6, .aload_n 0, 1), (7, .iload_n 1, 1), (8, .iaload, 1), (9, .goto 11, 3), (12, .ldc 8, 2), (14, .iload_n 1, 1), (15, .imul, 1), (16, .sipush 977, 3), (19, .iadd, 1), (20, .ireturn, 1)]
theorem dtL_cell_0 : ∀ (i : Nat) (q : Nat × Instr × Nat), tbL_cell_0[i]? = some q → decode cL_cell q.1 = .ok q.2 := dtab (by decide +kernel)
def tbL_undo_0 : List (Nat × Instr × Nat) := [(0, .aload_n 0, 1), (1, .invokevirtual 9, 3), (4, .ireturn, 1), (5, .astore_n 1, 1), (6, .bipush (-30), 2), (8, .ireturn, 1)]
theorem dtL_undo_0 : ∀ (i : Nat) (q : Nat × Instr × Nat), tbL_undo_0[i]? = some q → decode cL_undo q.1 = .ok q.2 := dtab (by decide +kernel)
def tbL_table_0 : List (Nat × Instr × Nat) := [(0, .iconst 0, 1), (1, .istore_n 1, 1), (2, .iconst 0, 1), (3, .istore_n 2, 1), (4, .iconst 0, 1), (5, .istore_n 3, 1), (6, .aload_n 0, 1), (7, .iconst 0, 1), (8, .invokevirtual 17, 3), (11, .bipush 40, 2), (13, .if_icmp .gt 23, 3), (16, .aload_n 0, 1), (17, .iconst 3, 1), (18, .invokevirtual 17, 3), (21, .aload_n 0, 1), (22, .iconst 4, 1), (23, .invokevirtual 17, 3), (26, .iadd, 1), (27, .bipush 8, 2), (29, .if_icmp .gt 7, 3), (32, .iconst 1, 1), (33, .goto 4, 3), (36, .iconst 0, 1), (37, .istore 4, 2), (39, .iconst (-1), 1), (40, .istore 5, 2), (42, .iconst 0, 1), (43, .istore 6, 2), (45, .iload 6, 2), (47, .aload_n 0, 1), (48, .iconst 1, 1), (49, .invokevirtual 17, 3), (52, .if_icmp .ge 248, 3), (55, .iload 4, 2), (57, .ifCond .eq 243, 3), (60, .aload_n 0, 1), (61, .iload 6, 2), (63, .iconst 0, 1), (64, .invokevirtual 21, 3), (67, .istore 7, 2), (69, .aload_n 0, 1), (70, .iload 7, 2), (72, .iconst 4, 1), (73, .invokevirtual 25, 3), (76, .iconst 1, 1), (77, .if_icmp .ne 8, 3), (80, .iload 7, 2), (82, .goto 4, 3), (85, .iconst (-1), 1), (86, .istore 8, 2), (88, .iconst 0, 1), (89, .istore 9, 2), (91, .iconst 0, 1), (92, .istore 10, 2), (94, .iload 10, 2), (96, .bipush 8, 2), (98, .if_icmp .ge 131, 3), (101, .iload 4, 2), (103, .ifCond .eq 126, 3), (106, .aload_n 0, 1), (107, .iload 6, 2), (109, .iconst 1, 1), (110, .iload 10, 2), (112, .iadd, 1)]
theorem dtL_table_0 : ∀ (i : Nat) (q : Nat × Instr × Nat), tbL_table_0[i]? = some q → decode cL_table q.1 = .ok q.2 := dtab (by decide +kernel)
def tbL_table_1 : List (Nat × Instr × Nat) := [(113, .invokevirtual 21, 3), (116, .istore 11, 2), (118, .aload_n 0, 1), (119, .iload 7, 2), (121, .iload 10, 2), (123, .iconst 1, 1), (124, .invokevirtual 28, 3), (127, .istore 12, 2), (129, .iload 9, 2), (131, .iload 11, 2), (133, .iconst (-1), 1), (134, .if_icmp .ne 7, 3), (137, .iconst 0, 1), (138, .goto 4, 3), (141, .iconst 1, 1), (142, .iadd, 1), (143, .istore 9, 2), (145, .iload 11, 2), (147, .iconst (-1), 1), (148, .if_icmp .eq 68, 3), (151, .iload 12, 2), (153, .ifCond .ne 19, 3), (156, .iload 11, 2), (158, .sipush 9001, 3), (161, .if_icmp .lt 11, 3), (164, .iload 11, 2), (166, .sipush 10999, 3), (169, .if_icmp .le 47, 3), (172, .iload 12, 2), (174, .iconst 1, 1), (175, .if_icmp .ne 19, 3), (178, .iload 11, 2), (180, .sipush 10000, 3), (183, .if_icmp .lt 11, 3), (186, .iload 11, 2), (188, .sipush 10001, 3), (191, .if_icmp .le 25, 3), (194, .iload 12, 2), (196, .iconst 2, 1), (197, .if_icmp .ne 23, 3), (200, .iload 11, 2), (202, .sipush 10000, 3), (205, .if_icmp .lt 15, 3), (208, .iload 11, 2), (210, .sipush 13650, 3), (213, .if_icmp .gt 7, 3), (216, .iconst 1, 1), (217, .goto 4, 3), (220, .iconst 0, 1), (221, .istore 4, 2), (223, .iinc 10 1, 3), (226, .goto (-132), 3), (229, .iload 4, 2), (231, .ifCond .eq 56, 3), (234, .aload_n 0, 1), (235, .iload 6, 2), (237, .bipush 9, 2), (239, .invokevirtual 21, 3), (242, .iload 9, 2), (244, .if_icmp .ne 43, 3), (247, .iload 8, 2), (249, .iload 5, 2), (251, .if_icmp .lt 36, 3), (254, .iload 8, 2)]
theorem dtL_table_1 : ∀ (i : Nat) (q : Nat × Instr × Nat), tbL_table_1[i]? = some q → decode cL_table q.1 = .ok q.2 := dtab (by decide +kernel)
def tbL_table_2 : List (Nat × Instr × Nat) := [(256, .iconst (-1), 1), (257, .if_icmp .ne 7, 3), (260, .iconst 1, 1), (261, .goto 4, 3), (264, .iconst 0, 1), (265, .iload 6, 2), (267, .aload_n 0, 1), (268, .iconst 0, 1), (269, .invokevirtual 17, 3), (272, .if_icmp .ge 7, 3), (275, .iconst 1, 1), (276, .goto 4, 3), (279, .iconst 0, 1), (280, .if_icmp .ne 7, 3), (283, .iconst 1, 1), (284, .goto 4, 3), (287, .iconst 0, 1), (288, .istore 4, 2), (290, .iload 8, 2), (292, .istore 5, 2), (294, .iinc 6 1, 3), (297, .goto (-252), 3), (300, .iconst 0, 1), (301, .istore 6, 2), (303, .iload 6, 2), (305, .iconst 3, 1), (306, .if_icmp .ge 219, 3), (309, .iload 4, 2), (311, .ifCond .eq 214, 3), (314, .iconst 0, 1), (315, .istore 7, 2), (317, .iconst 0, 1), (318, .istore 8, 2), (320, .iconst 0, 1), (321, .istore 9, 2), (323, .iload 9, 2), (325, .bipush 8, 2), (327, .if_icmp .ge 123, 3), (330, .iload 4, 2), (332, .ifCond .eq 118, 3), (335, .aload_n 0, 1), (336, .iload 6, 2), (338, .iload 9, 2), (340, .iconst 0, 1), (341, .invokevirtual 28, 3), (344, .istore 10, 2), (346, .iload 10, 2), (348, .iconst (-1), 1), (349, .if_icmp .eq 53, 3), (352, .iload 7, 2), (354, .iload 10, 2), (356, .ishr, 1), (357, .iconst 1, 1), (358, .iand, 1), (359, .ifCond .ne 47, 3), (362, .aload_n 0, 1), (363, .iload 6, 2), (365, .iload 9, 2), (367, .iconst 3, 1), (368, .invokevirtual 28, 3), (371, .aload_n 0, 1), (372, .iload 6, 2), (374, .iconst 0, 1), (375, .invokevirtual 25, 3)]
theorem dtL_table_2 : ∀ (i : Nat) (q : Nat × Instr × Nat), tbL_table_2[i]? = some q → decode cL_table q.1 = .ok q.2 := dtab (by decide +kernel)
def tbL_table_3 : List (Nat × Instr × Nat) := [(378, .if_icmp .gt 28, 3), (381, .aload_n 0, 1), (382, .iload 6, 2), (384, .iload 9, 2), (386, .iconst 5, 1), (387, .invokevirtual 28, 3), (390, .aload_n 0, 1), (391, .iload 6, 2), (393, .iload 9, 2), (395, .iconst 3, 1), (396, .invokevirtual 28, 3), (399, .if_icmp .gt 7, 3), (402, .iconst 1, 1), (403, .goto 4, 3), (406, .iconst 0, 1), (407, .istore 4, 2), (409, .iload 7, 2), (411, .iload 10, 2), (413, .iconst (-1), 1), (414, .if_icmp .ne 7, 3), (417, .iconst 0, 1), (418, .goto 7, 3), (421, .iconst 1, 1), (422, .iload 10, 2), (424, .ishl, 1), (425, .ior, 1), (426, .istore 7, 2), (428, .iload 8, 2), (430, .iload 10, 2), (432, .iconst (-1), 1), (433, .if_icmp .ne 7, 3), (436, .iconst 0, 1), (437, .goto 4, 3), (440, .iconst 1, 1), (441, .iadd, 1), (442, .istore 8, 2), (444, .iinc 9 1, 3), (447, .goto (-124), 3), (450, .iload_n 1, 1), (451, .aload_n 0, 1), (452, .iload 6, 2), (454, .iconst 0, 1), (455, .invokevirtual 25, 3), (458, .iadd, 1), (459, .istore_n 1, 1), (460, .iload_n 2, 1), (461, .aload_n 0, 1), (462, .iload 6, 2), (464, .iconst 4, 1), (465, .invokevirtual 25, 3), (468, .iconst 1, 1), (469, .if_icmp .ne 7, 3), (472, .iconst 0, 1), (473, .goto 10, 3), (476, .aload_n 0, 1), (477, .iload 6, 2), (479, .iconst 0, 1), (480, .invokevirtual 25, 3), (483, .iadd, 1), (484, .istore_n 2, 1), (485, .iload_n 3, 1), (486, .aload_n 0, 1), (487, .iload 6, 2), (489, .iconst 4, 1)]
theorem dtL_table_3 : ∀ (i : Nat) (q : Nat × Instr × Nat), tbL_table_3[i]? = some q → decode cL_table q.1 = .ok q.2 := dtab (by decide +kernel)
def tbL_table_4 : List (Nat × Instr × Nat) := [(490, .invokevirtual 25, 3), (493, .iadd, 1), (494, .istore_n 3, 1), (495, .iload 4, 2), (497, .ifCond .eq 19, 3), (500, .aload_n 0, 1), (501, .iload 6, 2), (503, .iconst 1, 1), (504, .invokevirtual 25, 3), (507, .iload 8, 2), (509, .if_icmp .ne 7, 3), (512, .iconst 1, 1), (513, .goto 4, 3), (516, .iconst 0, 1), (517, .istore 4, 2), (519, .iinc 6 1, 3), (522, .goto (-219), 3), (525, .iload 4, 2), (527, .ifCond .eq 53, 3), (530, .iload_n 1, 1), (531, .aload_n 0, 1), (532, .iconst 1, 1), (533, .invokevirtual 17, 3), (536, .if_icmp .ne 44, 3), (539, .iload_n 2, 1), (540, .aload_n 0, 1), (541, .iconst 0, 1), (542, .invokevirtual 17, 3), (545, .if_icmp .ne 35, 3), (548, .iload_n 3, 1), (549, .aload_n 0, 1), (550, .bipush 6, 2), (552, .invokevirtual 17, 3), (555, .if_icmp .ne 25, 3), (558, .aload_n 0, 1), (559, .invokevirtual 32, 3), (562, .dconst 0, 1), (563, .dcmp .l, 1), (564, .ifCond .lt 16, 3), (567, .aload_n 0, 1), (568, .invokevirtual 32, 3), (571, .dconst 1, 1), (572, .dcmp .g, 1), (573, .ifCond .gt 7, 3), (576, .iconst 1, 1), (577, .goto 4, 3), (580, .iconst 0, 1), (581, .ireturn, 1)]
theorem dtL_table_4 : ∀ (i : Nat) (q : Nat × Instr × Nat), tbL_table_4[i]? = some q → decode cL_table q.1 = .ok q.2 := dtab (by decide +kernel)
def tbL_asks_0 : List (Nat × Instr × Nat) := [(0, .aload_n 0, 1), (1, .bipush 97, 2), (3, .iload_n 2, 1), (4, .iadd, 1), (5, .invokevirtual 36, 3), (8, .pop, 1), (9, .aload_n 0, 1), (10, .iload_n 3, 1), (11, .iconst 3, 1), (12, .invokestatic 39, 3), (15, .ifCond .ne 8, 3), (18, .bipush 61, 2), (20, .goto 19, 3), (23, .iload_n 3, 1), (24, .iconst 3, 1), (25, .invokestatic 39, 3), (28, .iconst 1, 1), (29, .if_icmp .ne 8, 3), (32, .bipush 60, 2), (34, .goto 5, 3), (37, .bipush 62, 2), (39, .invokevirtual 36, 3), (42, .pop, 1), (43, .aload_n 0, 1), (44, .bipush 48, 2), (46, .iload_n 3, 1), (47, .iconst 4, 1), (48, .ishr, 1), (49, .iconst 3, 1), (50, .invokestatic 39, 3), (53, .iadd, 1), (54, .invokevirtual 36, 3), (57, .pop, 1), (58, .iconst 0, 1), (59, .istore 4, 2), (61, .iconst 1, 1), (62, .istore 5, 2), (64, .iload 5, 2), (66, .ifCond .eq 61, 3), (69, .aload_n 0, 1), (70, .iload_n 1, 1), (71, .iconst (-1), 1), (72, .iload 4, 2), (74, .invokevirtual 44, 3), (77, .ifCond .lt 50, 3), (80, .aload_n 0, 1), (81, .aload_n 0, 1), (82, .iload_n 1, 1), (83, .iconst (-1), 1), (84, .iload 4, 2), (86, .invokevirtual 44, 3), (89, .iconst 0, 1), (90, .invokevirtual 21, 3), (93, .iload_n 1, 1), (94, .if_icmp .ne 24, 3), (97, .aload_n 0, 1), (98, .aload_n 0, 1), (99, .iload_n 1, 1), (100, .iload_n 2, 1), (101, .iload 4, 2), (103, .invokevirtual 44, 3), (106, .iconst 0, 1), (107, .invokevirtual 21, 3), (110, .iload_n 1, 1)]
theorem dtL_asks_0 : ∀ (i : Nat) (q : Nat × Instr × Nat), tbL_asks_0[i]? = some q → decode cL_asks q.1 = .ok q.2 := dtab (by decide +kernel)
def tbL_asks_1 : List (Nat × Instr × Nat) := [(111, .if_icmp .ne 7, 3), (114, .iconst 1, 1), (115, .goto 4, 3), (118, .iconst 0, 1), (119, .istore 5, 2), (121, .iinc 4 1, 3), (124, .goto (-60), 3), (127, .aload_n 0, 1), (128, .iload_n 1, 1), (129, .iconst 0, 1), (130, .invokevirtual 47, 3), (133, .istore 6, 2), (135, .aload_n 0, 1), (136, .iload_n 1, 1), (137, .bipush 6, 2), (139, .invokevirtual 25, 3), (142, .istore 7, 2), (144, .iload 5, 2), (146, .ifCond .eq 83, 3), (149, .aload_n 0, 1), (150, .iload_n 1, 1), (151, .invokevirtual 51, 3), (154, .iload 4, 2), (156, .if_icmp .ne 73, 3), (159, .aload_n 0, 1), (160, .iload_n 1, 1), (161, .bipush 6, 2), (163, .invokevirtual 25, 3), (166, .iload 7, 2), (168, .iload 6, 2), (170, .iadd, 1), (171, .if_icmp .ne 58, 3), (174, .iload 6, 2), (176, .iload 4, 2), (178, .if_icmp .lt 51, 3), (181, .aload_n 0, 1), (182, .iload_n 1, 1), (183, .iconst 1, 1), (184, .invokevirtual 47, 3), (187, .aload_n 0, 1), (188, .iload_n 1, 1), (189, .iconst 0, 1), (190, .invokevirtual 25, 3), (193, .if_icmp .ne 36, 3), (196, .aload_n 0, 1), (197, .iload_n 1, 1), (198, .iconst 4, 1), (199, .invokevirtual 25, 3), (202, .ifCond .eq 23, 3), (205, .aload_n 0, 1), (206, .iload_n 1, 1), (207, .invokevirtual 54, 3), (210, .iconst (-1), 1), (211, .if_icmp .ne 18, 3), (214, .iload 6, 2), (216, .aload_n 0, 1), (217, .iload_n 1, 1), (218, .iconst 0, 1), (219, .invokevirtual 25, 3), (222, .if_icmp .ne 7, 3), (225, .iconst 1, 1), (226, .goto 4, 3), (229, .iconst 0, 1), (230, .istore 5, 2)]
theorem dtL_asks_1 : ∀ (i : Nat) (q : Nat × Instr × Nat), tbL_asks_1[i]? = some q → decode cL_asks q.1 = .ok q.2 := dtab (by decide +kernel)
def tbL_asks_2 : List (Nat × Instr × Nat) := [(232, .aload_n 0, 1), (233, .invokevirtual 57, 3), (236, .pop, 1), (237, .iload 5, 2), (239, .ireturn, 1)]
theorem dtL_asks_2 : ∀ (i : Nat) (q : Nat × Instr × Nat), tbL_asks_2[i]? = some q → decode cL_asks q.1 = .ok q.2 := dtab (by decide +kernel)
def tbL_act_0 : List (Nat × Instr × Nat) := [(0, .aload_n 1, 1), (1, .iload_n 2, 1), (2, .iconst 1, 1), (3, .iadd, 1), (4, .invokestatic 60, 3), (7, .istore_n 3, 1), (8, .aload_n 1, 1), (9, .iload_n 2, 1), (10, .iconst 2, 1), (11, .iadd, 1), (12, .invokestatic 60, 3), (15, .istore 4, 2), (17, .iload_n 3, 1), (18, .iconst 3, 1), (19, .invokestatic 39, 3), (22, .istore 5, 2), (24, .iload_n 3, 1), (25, .iconst 2, 1), (26, .ishr, 1), (27, .bipush 8, 2), (29, .invokestatic 39, 3), (32, .istore 6, 2), (34, .aload_n 0, 1), (35, .iconst 1, 1), (36, .invokevirtual 17, 3), (39, .istore 7, 2), (41, .aload_n 1, 1), (42, .iload_n 2, 1), (43, .invokestatic 60, 3), (46, .bipush 24, 2), (48, .invokestatic 39, 3), (51, .tableswitch 267 0 21 #[101, 101, 101, 101, 101, 116, 125, 132, 141, 141, 141, 141, 141, 148, 148, 148, 148, 148, 208, 230, 230, 237], 101), (152, .aload_n 0, 1), (153, .iload 5, 2), (155, .iload 6, 2), (157, .iload 4, 2), (159, .iconst 3, 1), (160, .invokestatic 39, 3), (163, .invokevirtual 64, 3), (166, .ireturn, 1), (167, .aload_n 0, 1), (168, .iload 5, 2), (170, .iload 6, 2), (172, .invokevirtual 67, 3), (175, .ireturn, 1), (176, .aload_n 0, 1), (177, .iload 5, 2), (179, .invokevirtual 70, 3), (182, .ireturn, 1), (183, .aload_n 0, 1), (184, .iload 5, 2), (186, .iload 6, 2), (188, .invokevirtual 73, 3), (191, .ireturn, 1), (192, .aload_n 0, 1), (193, .iload 5, 2), (195, .invokevirtual 76, 3), (198, .ireturn, 1), (199, .iload 7, 2), (201, .ifCond .ne 8, 3), (204, .bipush (-30), 2), (206, .goto 52, 3), (209, .aload_n 0, 1), (210, .iload 4, 2)]
theorem dtL_act_0 : ∀ (i : Nat) (q : Nat × Instr × Nat), tbL_act_0[i]? = some q → decode cL_act q.1 = .ok q.2 := dtab (by decide +kernel)
def tbL_act_1 : List (Nat × Instr × Nat) := [(212, .iconst 4, 1), (213, .ishr, 1), (214, .iload 7, 2), (216, .invokestatic 39, 3), (219, .iload 6, 2), (221, .iload 4, 2), (223, .iconst 3, 1), (224, .invokestatic 39, 3), (227, .ifCond .ne 14, 3), (230, .iload 4, 2), (232, .iconst 2, 1), (233, .ishr, 1), (234, .iconst 4, 1), (235, .invokestatic 39, 3), (238, .goto 17, 3), (241, .iload 4, 2), (243, .iconst 2, 1), (244, .ishr, 1), (245, .sipush 4000, 3), (248, .invokestatic 39, 3), (251, .sipush 200, 3), (254, .isub, 1), (255, .invokevirtual 79, 3), (258, .ireturn, 1), (259, .iload 7, 2), (261, .ifCond .ne 8, 3), (264, .bipush (-30), 2), (266, .goto 14, 3), (269, .aload_n 0, 1), (270, .iload 4, 2), (272, .iload 7, 2), (274, .invokestatic 39, 3), (277, .invokevirtual 82, 3), (280, .ireturn, 1), (281, .aload_n 0, 1), (282, .iload 5, 2), (284, .invokevirtual 85, 3), (287, .ireturn, 1), (288, .aload_n 0, 1), (289, .iload 5, 2), (291, .iload 4, 2), (293, .iconst 2, 1), (294, .invokestatic 39, 3), (297, .ifCond .ne 7, 3), (300, .iconst 1, 1), (301, .goto 4, 3), (304, .iconst 0, 1), (305, .iload 4, 2), (307, .iconst 3, 1), (308, .ishr, 1), (309, .bipush 9, 2), (311, .invokestatic 39, 3), (314, .invokevirtual 88, 3), (317, .ireturn, 1), (318, .aload_n 0, 1), (319, .invokestatic 92, 3), (322, .ireturn, 1)]
theorem dtL_act_1 : ∀ (i : Nat) (q : Nat × Instr × Nat), tbL_act_1[i]? = some q → decode cL_act q.1 = .ok q.2 := dtab (by decide +kernel)
def tbL_law_0 : List (Nat × Instr × Nat) := [(0, .new 10, 3), (3, .dup, 1), (4, .invokespecial 95, 3), (7, .astore_n 1, 1), (8, .iconst 1, 1), (9, .istore_n 2, 1), (10, .aload_n 0, 1), (11, .arraylength, 1), (12, .iconst 3, 1), (13, .idiv, 1), (14, .bipush 44, 2), (16, .if_icmp .le 8, 3), (19, .bipush 44, 2), (21, .goto 7, 3), (24, .aload_n 0, 1), (25, .arraylength, 1), (26, .iconst 3, 1), (27, .idiv, 1), (28, .istore_n 3, 1), (29, .iconst 0, 1), (30, .istore 4, 2), (32, .iload 4, 2), (34, .iload_n 3, 1), (35, .if_icmp .ge 318, 3), (38, .iload_n 2, 1), (39, .ifCond .eq 314, 3), (42, .aload_n 1, 1), (43, .bipush 7, 2), (45, .invokevirtual 17, 3), (48, .istore 5, 2), (50, .aload_n 1, 1), (51, .iconst 1, 1), (52, .invokevirtual 17, 3), (55, .istore 6, 2), (57, .aload_n 1, 1), (58, .iconst 0, 1), (59, .bipush 8, 2), (61, .invokevirtual 25, 3), (64, .aload_n 1, 1), (65, .iconst 1, 1), (66, .bipush 8, 2), (68, .invokevirtual 25, 3), (71, .iadd, 1), (72, .aload_n 1, 1), (73, .iconst 2, 1), (74, .bipush 8, 2), (76, .invokevirtual 25, 3), (79, .iadd, 1), (80, .istore 7, 2), (82, .aload_n 0, 1), (83, .iconst 3, 1), (84, .iload 4, 2), (86, .imul, 1), (87, .invokestatic 60, 3), (90, .bipush 24, 2), (92, .invokestatic 39, 3), (95, .istore 8, 2), (97, .aload_n 0, 1), (98, .iconst 3, 1), (99, .iload 4, 2), (101, .imul, 1), (102, .iconst 1, 1), (103, .iadd, 1), (104, .invokestatic 60, 3)]
theorem dtL_law_0 : ∀ (i : Nat) (q : Nat × Instr × Nat), tbL_law_0[i]? = some q → decode cL_law q.1 = .ok q.2 := dtab (by decide +kernel)
def tbL_law_1 : List (Nat × Instr × Nat) := [(107, .istore 9, 2), (109, .aload_n 1, 1), (110, .aload_n 0, 1), (111, .iconst 3, 1), (112, .iload 4, 2), (114, .imul, 1), (115, .invokestatic 96, 3), (118, .istore 10, 2), (120, .aload_n 1, 1), (121, .iconst 0, 1), (122, .bipush 8, 2), (124, .invokevirtual 25, 3), (127, .aload_n 1, 1), (128, .iconst 1, 1), (129, .bipush 8, 2), (131, .invokevirtual 25, 3), (134, .iadd, 1), (135, .aload_n 1, 1), (136, .iconst 2, 1), (137, .bipush 8, 2), (139, .invokevirtual 25, 3), (142, .iadd, 1), (143, .istore 11, 2), (145, .iload 8, 2), (147, .bipush 21, 2), (149, .if_icmp .gt 29, 3), (152, .iload 11, 2), (154, .iload 7, 2), (156, .iload 10, 2), (158, .iconst (-1), 1), (159, .if_icmp .ge 14, 3), (162, .iload 10, 2), (164, .bipush (-30), 2), (166, .if_icmp .le 7, 3), (169, .iconst 1, 1), (170, .goto 4, 3), (173, .iconst 0, 1), (174, .iadd, 1), (175, .if_icmp .ne 7, 3), (178, .iconst 1, 1), (179, .goto 4, 3), (182, .iconst 0, 1), (183, .istore_n 2, 1), (184, .iload_n 2, 1), (185, .ifCond .eq 160, 3), (188, .iload 10, 2), (190, .bipush (-30), 2), (192, .if_icmp .ne 17, 3), (195, .aload_n 1, 1), (196, .bipush 7, 2), (198, .invokevirtual 17, 3), (201, .iload 5, 2), (203, .if_icmp .ne 142, 3), (206, .goto 35, 3), (209, .iload 8, 2), (211, .bipush 21, 2), (213, .if_icmp .gt 28, 3), (216, .aload_n 1, 1), (217, .bipush 7, 2), (219, .invokevirtual 17, 3), (222, .iload 5, 2), (224, .bipush 6, 2), (226, .if_icmp .ge 10, 3), (229, .iload 5, 2)]
theorem dtL_law_1 : ∀ (i : Nat) (q : Nat × Instr × Nat), tbL_law_1[i]? = some q → decode cL_law q.1 = .ok q.2 := dtab (by decide +kernel)
def tbL_law_2 : List (Nat × Instr × Nat) := [(231, .iconst 1, 1), (232, .iadd, 1), (233, .goto 5, 3), (236, .bipush 6, 2), (238, .if_icmp .ne 107, 3), (241, .iload 8, 2), (243, .bipush 8, 2), (245, .if_icmp .lt 31, 3), (248, .iload 8, 2), (250, .bipush 12, 2), (252, .if_icmp .gt 24, 3), (255, .aload_n 1, 1), (256, .iconst 1, 1), (257, .invokevirtual 17, 3), (260, .iload 6, 2), (262, .iload 10, 2), (264, .ifCond .ge 7, 3), (267, .iconst 0, 1), (268, .goto 4, 3), (271, .iconst 1, 1), (272, .iadd, 1), (273, .if_icmp .ne 72, 3), (276, .iload 8, 2), (278, .bipush 18, 2), (280, .if_icmp .ne 22, 3), (283, .iload 10, 2), (285, .bipush (-30), 2), (287, .if_icmp .eq 15, 3), (290, .aload_n 1, 1), (291, .iconst 1, 1), (292, .invokevirtual 17, 3), (295, .iload 6, 2), (297, .iconst 1, 1), (298, .isub, 1), (299, .if_icmp .ne 46, 3), (302, .aload_n 1, 1), (303, .invokestatic 100, 3), (306, .ifCond .eq 39, 3), (309, .aload_n 1, 1), (310, .iload 9, 2), (312, .iconst 3, 1), (313, .invokestatic 39, 3), (316, .iload 9, 2), (318, .iconst 2, 1), (319, .ishr, 1), (320, .bipush 8, 2), (322, .invokestatic 39, 3), (325, .aload_n 0, 1), (326, .iconst 3, 1), (327, .iload 4, 2), (329, .imul, 1), (330, .iconst 2, 1), (331, .iadd, 1), (332, .invokestatic 60, 3), (335, .invokestatic 104, 3), (338, .ifCond .eq 7, 3), (341, .iconst 1, 1), (342, .goto 4, 3), (345, .iconst 0, 1), (346, .istore_n 2, 1), (347, .iinc 4 1, 3), (350, .goto (-318), 3), (353, .iload_n 2, 1), (354, .ireturn, 1)]
theorem dtL_law_2 : ∀ (i : Nat) (q : Nat × Instr × Nat), tbL_law_2[i]? = some q → decode cL_law q.1 = .ok q.2 := dtab (by decide +kernel)
end
section
/-! the world of the law: labels, memory, cells; words that stay; one judgement G for a frame at a pc -/
-- words that stay
def isNest : Cond → Bool
  | .fieldLinkNest .. => true
  | .methodLinkNest .. => true
  | _ => false
def okw (w : Cond) : Bool := isNest w || (goodWord w || (w.faceAtom && w.onTables))
theorem okw_at {args a' : Array Value} {s U : State} {w : Cond} (hW : s.WarmedH U.vm) (hg : okw w = true) (h : w.before args s = true) : w.before a' U = true := by
  unfold okw at hg
  rw [Bool.or_eq_true, Bool.or_eq_true, Bool.and_eq_true] at hg
  rcases hg with hg | hg | ⟨h1, h2⟩
  · cases w <;> first
      | (simp [isNest] at hg; done)
      | exact va_tabs rfl (rfl : (s.setVm U.vm).vm = U.vm) (Cond.fieldLinkNest_warmed (args := args) hW h)
      | exact va_tabs rfl (rfl : (s.setVm U.vm).vm = U.vm) (Cond.methodLinkNest_warmed (args := args) hW h)
  · exact word_at hW (good_of_word hg) h
  · exact va_tabs h2 (rfl : (s.setVm U.vm).vm = U.vm) (Cond.faceAtom_setVm hW.alike _ h1 h)
def Wd (U : State) : Prop := ∀ w ∈ lw_tbl, okw w = true → w.before #[] U = true
theorem Wd.warm {s U : State} (hW : s.WarmedH U.vm) (h : Wd s) : Wd U := fun w h1 h2 => okw_at hW h2 (h w h1 h2)
theorem Wd.use {s : State} (h : Wd s) (args : Array Value) {w : Cond} (i : Nat) (hi : lw_tbl[i]? = some w) (h2 : okw w = true) : w.before args s = true := okw_at (State.WarmedH.refl s) h2 (h w (List.mem_of_getElem? hi) h2)
-- labels and memory
abbrev Lb : Type := Nat × Nat × Nat × Nat
abbrev Mem : Type := (Lb → Nat → Int32) × (Nat → Nat) × Int64
abbrev XW : Type := va_G × (Lb → Nat) × (ClassId × ClassId × ClassId × ClassId × ClassId) × Nat × Nat × Nat × (Nat → Int32)
abbrev xD (X : XW) : va_G := X.1
abbrev xad (X : XW) : Lb → Nat := X.2.1
abbrev xcI (X : XW) : ClassId := X.2.2.1.1
abbrev xcZ (X : XW) : ClassId := X.2.2.1.2.1
abbrev xcL (X : XW) : ClassId := X.2.2.1.2.2.1
abbrev xcS (X : XW) : ClassId := X.2.2.1.2.2.2.1
abbrev xcT (X : XW) : ClassId := X.2.2.1.2.2.2.2
abbrev xz (X : XW) : Nat := X.2.2.2.1
abbrev xb (X : XW) : Nat := X.2.2.2.2.1
abbrev xL (X : XW) : Nat := X.2.2.2.2.2.1
abbrev xs (X : XW) : Nat → Int32 := X.2.2.2.2.2.2
def xA (X : XW) : Nat → Prop := fun q => xz X ≤ q
def xtys (X : XW) : List (ClassId × FieldType) := [(xcI X, .int), (xcZ X, .boolean), (xcL X, .byte), (xcS X, .object RX1), (xcT X, .object RX2)]
def lbs : List Lb := (List.range 8).map (fun k => (0, 0, 0, k)) ++ (List.range 7).flatMap (fun i => (List.range 4).map (fun k => (1, i, 0, k)) ++ (List.range 3).flatMap (fun j => (List.range 4).map (fun k => (2, i, j, k))))
abbrev eI (X : XW) (n : Nat) (f : Nat → Int32) : va_E := .inl (xcI X, n, .inl f)
-- the objects' fields, by the pointers and the ints that they hold
def fsX3 (X : XW) (q : Nat → Nat) (f : Nat → Int32) : List Value := [.ref (xad X (0,0,0,1)), .ref (xad X (0,0,0,2)), .ref (xad X (0,0,0,3)), .ref (xad X (0,0,0,4)), .ref (xad X (1, q 6, 0, 0)), .int (f 5), .int (f 6)]
def fsX0 (X : XW) (_ : Nat → Nat) (f : Nat → Int32) : List Value := [.ref (xad X (0,0,0,5)), .ref (xad X (0,0,0,6)), .ref (xad X (0,0,0,7)), .int (f 3), .int (f 4), .int (f 5)]
def fsX1 (X : XW) (i : Nat) (_ : Nat → Nat) (f : Nat → Int32) : List Value := [.ref (xad X (1,i,0,1)), .ref (xad X (1,i,0,2)), .ref (xad X (1,i,0,3)), .int (f 3)]
def fsX2 (X : XW) (i j : Nat) (_ : Nat → Nat) (f : Nat → Int32) : List Value := [.ref (xad X (2,i,j,1)), .ref (xad X (2,i,j,2)), .ref (xad X (2,i,j,3)), .int (f 3), .int (f 4), .int (f 5), .int (f 6), .int (f 7), .int (f 8), .int (f 9)]
def svf (X : XW) (q : Nat → Nat) : Nat → Option Nat := fun k => if k < 6 then some (xad X (1, q k, 0, 0)) else none
def tnf (X : XW) (i : Nat) : Nat → Option Nat := fun j => if j < 3 then some (xad X (2, i, j, 0)) else none
/-- what the cell of a label holds -/
def ce (X : XW) (lb : Lb) (m : Mem) : va_E := match lb with
  | (0, _, _, 0) => .inr (3, fsX3 X m.2.1 (m.1 (0,0,0,0)))
  | (0, _, _, 1) => .inl (xcS X, 6, .inr (.inr (.inr (.inr (svf X m.2.1)))))
  | (0, _, _, 2) => eI X 40 (m.1 (0,0,0,2))
  | (0, _, _, 3) => .inr (0, fsX0 X m.2.1 (m.1 (0,0,0,3)))
  | (0, _, _, 4) => eI X 120 (m.1 (0,0,0,4))
  | (0, _, _, 5) => eI X 10 (m.1 (0,0,0,5))
  | (0, _, _, 6) => eI X 10 (m.1 (0,0,0,6))
  | (0, _, _, _) => eI X 10 (m.1 (0,0,0,7))
  | (1, i, _, 0) => .inr (1, fsX1 X i m.2.1 (m.1 (1,i,0,0)))
  | (1, i, _, 1) => .inl (xcT X, 3, .inr (.inr (.inr (.inr (tnf X i)))))
  | (1, i, _, 2) => eI X 120 (m.1 (1,i,0,2))
  | (1, i, _, _) => eI X 960 (m.1 (1,i,0,3))
  | (2, i, j, 0) => .inr (2, fsX2 X i j m.2.1 (m.1 (2,i,j,0)))
  | (2, i, j, 1) => eI X 8 (m.1 (2,i,j,1))
  | (2, i, j, 2) => eI X 8 (m.1 (2,i,j,2))
  | (2, i, j, _) => .inl (xcZ X, 8, .inl (m.1 (2,i,j,3)))
  | (_, _, _, _) => eI X 0 (fun _ => 0)
def cel (X : XW) (m : Mem) : va_W := lbs.map (fun lb => (xad X lb, ce X lb m))
def Hp (X : XW) (m : Mem) (H : Heap) : Prop := va_P (xD X) vwCl (cel X m) H ∧ va_D (xA X) (cel X m)
/-- what stays of a start: the tables' words, the classes, the statics of a throw, its texts, the script -/
def Old (X : XW) (U : State) : Prop := Wd U ∧ va_K (xD X) vwCl (xtys X) U ∧ vx_Zq Bundle.tN "UNASSIGNED_STACK" Bundle.steD (xA X) U U.heap ∧ vx_Zq Bundle.tN "SUPPRESSED_SENTINEL" Bundle.listD (xA X) U U.heap ∧
  (∃ a, vk_R RX3 150 "the buffer is full" a U) ∧ (∃ a, vk_R RX3 182 "no state is saved" a U) ∧ (∃ a, vk_R RX3 269 "an argument is out of range, or the buffer tells no question" a U) ∧ (∃ a, vk_R RX3 274 "there is no such row" a U) ∧
  va_X (xb X) (xL X) (xs X) U U.heap ∧ xb X < xz X ∧ xz X ≤ U.heap.size ∧ va_Nc "java/lang/IllegalArgumentException" "java/lang/IndexOutOfBoundsException" U ∧ va_Nc "java/lang/IllegalStateException" "java/lang/IllegalArgumentException" U
theorem Old.moved {X : XW} {s U : State} {locs : List Loc} (h : Old X s) (hW : s.WarmedH U.vm) (hS : va_S (xA X) s.heap U.heap locs) : Old X U := by
  obtain ⟨h1, h2, h3, h4, ⟨a1, h5⟩, ⟨a2, h6⟩, ⟨a3, h7⟩, ⟨a4, h8⟩, h9, h10, h11, h12, h13⟩ := h
  refine ⟨h1.warm hW, va_K.moved hW.alike h2, vx_Zq.moved hW.alike (h3.kept hS.2.1), vx_Zq.moved hW.alike (h4.kept hS.2.1), ⟨a1, h5.warm hW⟩, ⟨a2, h6.warm hW⟩, ⟨a3, h7.warm hW⟩, ⟨a4, h8.warm hW⟩, ?_, h10, Nat.le_trans h11 hS.1, h12.moved hW.alike, h13.moved hW.alike⟩
  exact va_X.moved hW.alike (va_X.kept h9 (hS.2.1 _ (Nat.lt_of_lt_of_le h10 h11) (Nat.not_le.mpr h10)))
theorem Old.same {X : XW} {s U : State} (h : Old X s) (hvm : U.vm = s.vm) (hh : U.heap = s.heap) : Old X U := h.moved (locs := []) (by rw [hvm]; exact State.WarmedH.refl s) (by rw [hh]; exact va_S.rf)
-- labels' places
theorem lbs_nd : lbs.Nodup := by decide +kernel
theorem in_main : ∀ k, k < 8 → ((0, 0, 0, k) : Lb) ∈ lbs := by decide +kernel
theorem in_st : ∀ i, i < 7 → ∀ k, k < 4 → ((1, i, 0, k) : Lb) ∈ lbs := by
  intro i hi k hk
  have h : ∀ i : Fin 7, ∀ k : Fin 4, ((1, i.1, 0, k.1) : Lb) ∈ lbs := by decide +kernel
  exact h ⟨i, hi⟩ ⟨k, hk⟩
theorem in_tn : ∀ i, i < 7 → ∀ j, j < 3 → ∀ k, k < 4 → ((2, i, j, k) : Lb) ∈ lbs := by
  intro i hi j hj k hk
  have h : ∀ i : Fin 7, ∀ j : Fin 3, ∀ k : Fin 4, ((2, i.1, j.1, k.1) : Lb) ∈ lbs := by decide +kernel
  exact h ⟨i, hi⟩ ⟨j, hj⟩ ⟨k, hk⟩
theorem cel_at (X : XW) (m : Mem) {lb : Lb} (h : lb ∈ lbs) : ∃ q : Nat, lbs[q]? = some lb ∧ (cel X m)[q]? = some (xad X lb, ce X lb m) := by
  obtain ⟨q, hq⟩ := List.getElem?_of_mem h
  exact ⟨q, hq, by unfold cel; rw [List.getElem?_map, hq]; rfl⟩
theorem cel_set (X : XW) {m m' : Mem} {lb : Lb} {q : Nat} (hq : lbs[q]? = some lb) (hne : ∀ lb' ∈ lbs, lb' ≠ lb → ce X lb' m' = ce X lb' m) : (cel X m).set q (xad X lb, ce X lb m') = cel X m' := by
  apply List.ext_getElem?
  intro k
  by_cases hk : q = k
  · subst hk
    have hl : q < (cel X m).length := by unfold cel; rw [List.length_map]; exact (List.getElem?_eq_some_iff.mp hq).1
    rw [List.getElem?_set_self hl]
    unfold cel
    rw [List.getElem?_map, hq]; rfl
  · rw [List.getElem?_set_ne hk]
    unfold cel
    rw [List.getElem?_map, List.getElem?_map]
    cases hk2 : lbs[k]? with
    | none => rfl
    | some lb' =>
      have hl' : lb' ≠ lb := by
        intro e
        subst e
        obtain ⟨h1, e1⟩ := List.getElem?_eq_some_iff.mp hq
        obtain ⟨h2, e2⟩ := List.getElem?_eq_some_iff.mp hk2
        have hn := List.pairwise_iff_getElem.mp lbs_nd
        rcases Nat.lt_or_gt_of_ne hk with h3 | h3
        · exact hn q k h1 h2 h3 (e1.trans e2.symm)
        · exact hn k q h2 h1 h3 (e2.trans e1.symm)
      simp only [Option.map_some]
      rw [hne lb' (List.mem_of_getElem? hk2) hl']

-- the parts of lbs, and which cell depends on what
theorem lbs_cases {lb : Lb} (h : lb ∈ lbs) : (∃ k, k < 8 ∧ lb = (0, 0, 0, k)) ∨ (∃ i k, i < 7 ∧ k < 4 ∧ lb = (1, i, 0, k)) ∨ (∃ i j k, i < 7 ∧ j < 3 ∧ k < 4 ∧ lb = (2, i, j, k)) := by
  unfold lbs at h
  simp only [List.mem_append, List.mem_flatMap, List.mem_map, List.mem_range] at h
  rcases h with ⟨k, hk, rfl⟩ | ⟨i, hi, (⟨k, hk, rfl⟩ | ⟨j, hj, k, hk, rfl⟩)⟩
  · exact Or.inl ⟨k, hk, rfl⟩
  · exact Or.inr (Or.inl ⟨i, k, hi, hk, rfl⟩)
  · exact Or.inr (Or.inr ⟨i, j, k, hi, hj, hk, rfl⟩)
theorem ce_loc (X : XW) {lb : Lb} (h : lb ∈ lbs) {m m' : Mem} (h1 : m'.1 lb = m.1 lb) (h2 : m'.2 = m.2) : ce X lb m' = ce X lb m := by
  rcases lbs_cases h with ⟨k, hk, rfl⟩ | ⟨i, k, hi, hk, rfl⟩ | ⟨i, j, k, hi, hj, hk, rfl⟩
  · rcases (show k = 0 ∨ k = 1 ∨ k = 2 ∨ k = 3 ∨ k = 4 ∨ k = 5 ∨ k = 6 ∨ k = 7 by omega) with rfl | rfl | rfl | rfl | rfl | rfl | rfl | rfl <;> simp only [ce, h1, h2]
  · rcases (show k = 0 ∨ k = 1 ∨ k = 2 ∨ k = 3 by omega) with rfl | rfl | rfl | rfl <;> simp only [ce, h1, h2]
  · rcases (show k = 0 ∨ k = 1 ∨ k = 2 ∨ k = 3 by omega) with rfl | rfl | rfl | rfl <;> simp only [ce, h1, h2]
theorem ce_ptr (X : XW) {lb : Lb} (h : lb ∈ lbs) (h0 : lb ≠ (0, 0, 0, 0)) (h3 : lb ≠ (0, 0, 0, 1)) {m m' : Mem} (h1 : m'.1 = m.1) (_h2 : m'.2.2 = m.2.2) : ce X lb m' = ce X lb m := by
  rcases lbs_cases h with ⟨k, hk, rfl⟩ | ⟨i, k, hi, hk, rfl⟩ | ⟨i, j, k, hi, hj, hk, rfl⟩
  · rcases (show k = 0 ∨ k = 1 ∨ k = 2 ∨ k = 3 ∨ k = 4 ∨ k = 5 ∨ k = 6 ∨ k = 7 by omega) with rfl | rfl | rfl | rfl | rfl | rfl | rfl | rfl <;> first | exact absurd rfl h0 | exact absurd rfl h3 | (simp only [ce, h1, fsX0])
  · rcases (show k = 0 ∨ k = 1 ∨ k = 2 ∨ k = 3 by omega) with rfl | rfl | rfl | rfl <;> simp only [ce, h1, fsX1]
  · rcases (show k = 0 ∨ k = 1 ∨ k = 2 ∨ k = 3 by omega) with rfl | rfl | rfl | rfl <;> simp only [ce, h1, fsX2]
-- writes
def wA (m : Mem) (lb : Lb) (f : Nat → Int32) : Mem := (fun b => if b = lb then f else m.1 b, m.2)
def wI (m : Mem) (lb : Lb) (k : Nat) (v : Int32) : Mem := wA m lb (upd (m.1 lb) k v)
def wP (m : Mem) (k q : Nat) : Mem := (m.1, (fun j => if j = k then q else m.2.1 j), m.2.2)
def wO (m : Mem) (v : Int64) : Mem := (m.1, m.2.1, v)
theorem wA_self (m : Mem) (lb : Lb) (f : Nat → Int32) : (wA m lb f).1 lb = f := if_pos rfl
theorem wA_ne (m : Mem) {lb b : Lb} (f : Nat → Int32) (h : b ≠ lb) : (wA m lb f).1 b = m.1 b := if_neg h
theorem ce_wA (X : XW) (m : Mem) (lb : Lb) (f : Nat → Int32) : ∀ lb' ∈ lbs, lb' ≠ lb → ce X lb' (wA m lb f) = ce X lb' m := fun lb' h hne => ce_loc X h (wA_ne m f hne) rfl
end
section
/-! the judgement of a frame at a pc over the memory, and a row an instruction (turned from the kit's rows) -/
abbrev MC : Type := Program × Launch × Env × Room × State × MethodId × Array Value × List Frame × Method × Code × Nat × Nat × Nat × (State → Prop)
abbrev kp (K : MC) : Program := K.1
abbrev kl (K : MC) : Launch := K.2.1
abbrev ke (K : MC) : Env := K.2.2.1
abbrev kR (K : MC) : Room := K.2.2.2.1
abbrev ks (K : MC) : State := K.2.2.2.2.1
abbrev km (K : MC) : MethodId := K.2.2.2.2.2.1
abbrev ka (K : MC) : Array Value := K.2.2.2.2.2.2.1
abbrev kb (K : MC) : List Frame := K.2.2.2.2.2.2.2.1
abbrev kmt (K : MC) : Method := K.2.2.2.2.2.2.2.2.1
abbrev kc (K : MC) : Code := K.2.2.2.2.2.2.2.2.2.1
abbrev kn (K : MC) : Nat := K.2.2.2.2.2.2.2.2.2.2.1
abbrev kce (K : MC) : Nat := K.2.2.2.2.2.2.2.2.2.2.2.1
abbrev ksl (K : MC) : Nat := K.2.2.2.2.2.2.2.2.2.2.2.2.1
abbrev kQ (K : MC) : State → Prop := K.2.2.2.2.2.2.2.2.2.2.2.2.2
/-- W at this frame -/
abbrev WK (K : MC) (H : Heap) (locs : List Loc) (g : JFrame) : Prop := W (kp K) (kl K) (ke K) (kR K) (ks K) (km K) (ka K) (kb K) (kmt K) (kc K) H locs (kce K) (ksl K) (kQ K) g
def G (X : XW) (K : MC) (pc : Nat) (lv : List (Nat × Value)) (st : List Value) (mm : Mem) : Prop :=
  ∀ (H : Heap) (locs : List Loc) (ls : Array Slot), Hp X mm H → va_S (xA X) (ks K).heap H locs → lv_has ls (kn K) lv → WK K H locs (F0 (km K) pc ls st)
def Ok (X : XW) (K : MC) (own : String) (cc : ByteArray) (n d : Nat) : Prop :=
  (kp K).tables.exec = Jvm.exec ∧ (kc K).code = cc ∧ (kc K).maxLocals = n ∧ kn K = n ∧ (ks K).vm.findClass own = some (km K).cls ∧ Old X (ks K) ∧ (kmt K).locks = false ∧ d ≤ (kR K).frames ∧ 36 * d ≤ (kR K).locals ∧ kce K ≤ (kR K).cells ∧ ksl K ≤ (kR K).slots ∧ (kl K).stackTraces = false
-- the words of the functions that are read off the code
def bd {α β : Type} (a : α) (f : α → β) : β := f a
def ck {α : Type} (b : Bool) (x : Option α) : Option α := match b with
  | true => x
  | false => none
def bp {α : Type} (q n : Nat) (f : Nat → Option α) : Option α := if q < n then f q else none
def ib (i : Int32) (n : Nat) : Bool := decide (0 ≤ i.toInt) && decide (i.toInt < n)
def isB (v : Int32) : Bool := v == 0 || v == 1
theorem ck_some {α : Type} {b : Bool} {x : Option α} {r : α} (h : ck b x = some r) : b = true ∧ x = some r := by
  cases b with
  | true => exact ⟨rfl, h⟩
  | false => cases h
theorem bp_some {α : Type} {q n : Nat} {f : Nat → Option α} {r : α} (h : bp q n f = some r) : q < n ∧ f q = some r := by
  unfold bp at h
  by_cases hq : q < n
  · rw [if_pos hq] at h; exact ⟨hq, h⟩
  · rw [if_neg hq] at h; cases h
theorem ib_in {i : Int32} {n : Nat} (h : ib i n = true) : vp_in i n := by
  unfold ib at h
  rw [Bool.and_eq_true, decide_eq_true_eq, decide_eq_true_eq] at h
  exact vp_in_iff.mpr h
theorem isB_or {v : Int32} (h : isB v = true) : v = 0 ∨ v = 1 := by
  unfold isB at h
  rw [Bool.or_eq_true, beq_iff_eq, beq_iff_eq] at h
  exact h
theorem isB_nar {v : Int32} (h : isB v = true) : narrow .boolean (.int v) = .int v := by
  rcases isB_or h with rfl | rfl <;> rfl
theorem isB_fit {v : Int32} (h : isB v = true) : fits .boolean (.int v) = true := by
  rcases isB_or h with rfl | rfl <;> rfl
theorem isB_vp {v : Int32} (h : isB v = true) : vp_nar .boolean v = v := by
  rcases isB_or h with rfl | rfl <;> rfl
section ROWS
variable {X : XW} {K : MC} {own : String} {cc : ByteArray} {n d pc : Nat} {lv lv' : List (Nat × Value)} {st : List Value} {mm : Mem} {α : Type} {r : α}

theorem r_iconst (hk : Ok X K own cc n d) {k : Int} {v : Int32} (hd : decode cc pc = .ok (.iconst k, 1)) (hv : Int32.ofInt k = v) (g : G X K (pc + 1) lv (.int v :: st) mm) : G X K pc lv st mm :=
  fun H locs ls hH hS hl => lv_iconst hk.1 hk.2.1 hd hv (g H locs ls hH hS hl)
theorem r_bipush (hk : Ok X K own cc n d) {k : Int} {v : Int32} (hd : decode cc pc = .ok (.bipush k, 2)) (hv : (Int8.ofInt k).toInt32 = v) (g : G X K (pc + 2) lv (.int v :: st) mm) : G X K pc lv st mm :=
  fun H locs ls hH hS hl => lv_bipush hk.1 hk.2.1 hd hv (g H locs ls hH hS hl)
theorem r_sipush (hk : Ok X K own cc n d) {k : Int} {v : Int32} (hd : decode cc pc = .ok (.sipush k, 3)) (hv : (Int16.ofInt k).toInt32 = v) (g : G X K (pc + 3) lv (.int v :: st) mm) : G X K pc lv st mm :=
  fun H locs ls hH hS hl => lv_sipush hk.1 hk.2.1 hd hv (g H locs ls hH hS hl)
theorem r_lconst (hk : Ok X K own cc n d) {k : Fin 2} {v : Int64} (hd : decode cc pc = .ok (.lconst k, 1)) (hv : Int64.ofNat (k : Nat) = v) (g : G X K (pc + 1) lv (.long v :: st) mm) : G X K pc lv st mm :=
  fun H locs ls hH hS hl => lv_lconst hk.1 hk.2.1 hd hv (g H locs ls hH hS hl)
theorem r_ldc (hk : Ok X K own cc n d) {ix : Nat} {v : Int32} (hw : ∀ (a : Array Value) (U : State), Wd U → (Cond.constant own ix v).before a U = true) (hd : decode cc pc = .ok (.ldc ix, 2)) (g : G X K (pc + 2) lv (.int v :: st) mm) : G X K pc lv st mm :=
  fun H locs ls hH hS hl => lv_ldc hk.1 hk.2.1 hk.2.2.2.2.1 (hw _ _ hk.2.2.2.2.2.1.1) hd (g H locs ls hH hS hl)
theorem r_ldcw (hk : Ok X K own cc n d) {ix : Nat} {v : Int32} (hw : ∀ (a : Array Value) (U : State), Wd U → (Cond.constant own ix v).before a U = true) (hd : decode cc pc = .ok (.ldc_w ix, 3)) (g : G X K (pc + 3) lv (.int v :: st) mm) : G X K pc lv st mm :=
  fun H locs ls hH hS hl => lv_ldcw hk.1 hk.2.1 hk.2.2.2.2.1 (hw _ _ hk.2.2.2.2.2.1.1) hd (g H locs ls hH hS hl)
theorem r_ldc2 (hk : Ok X K own cc n d) {ix : Nat} {v : Int64} (hw : ∀ (a : Array Value) (U : State), Wd U → (Cond.constantLong own ix v).before a U = true) (hd : decode cc pc = .ok (.ldc2_w ix, 3)) (g : G X K (pc + 3) lv (.long v :: st) mm) : G X K pc lv st mm :=
  fun H locs ls hH hS hl => lv_ldc2 hk.1 hk.2.1 hk.2.2.2.2.1 (hw _ _ hk.2.2.2.2.2.1.1) hd (g H locs ls hH hS hl)
theorem r_ldc2d (hk : Ok X K own cc n d) {ix : Nat} {v : UInt64} (hw : ∀ (a : Array Value) (U : State), Wd U → (Cond.constantDouble own ix v).before a U = true) (hd : decode cc pc = .ok (.ldc2_w ix, 3)) (g : G X K (pc + 3) lv (.double v :: st) mm) : G X K pc lv st mm :=
  fun H locs ls hH hS hl => lv_ldc2d hk.1 hk.2.1 hk.2.2.2.2.1 (hw _ _ hk.2.2.2.2.2.1.1) hd (g H locs ls hH hS hl)
theorem r_dconst0 (hk : Ok X K own cc n d) (hd : decode cc pc = .ok (.dconst 0, 1)) (g : G X K (pc + 1) lv (.double 0 :: st) mm) : G X K pc lv st mm :=
  fun H locs ls hH hS hl => lv_dconst0 hk.1 hk.2.1 hd (g H locs ls hH hS hl)
theorem r_dconst1 (hk : Ok X K own cc n d) (hd : decode cc pc = .ok (.dconst 1, 1)) (g : G X K (pc + 1) lv (.double 0x3ff0000000000000 :: st) mm) : G X K pc lv st mm :=
  fun H locs ls hH hS hl => lv_dconst1 hk.1 hk.2.1 hd (g H locs ls hH hS hl)
theorem r_iload_n (hk : Ok X K own cc n d) {k : Fin 4} {x : Int32} (j : Nat) (hd : decode cc pc = .ok (.iload_n k, 1)) (hj : lv[j]? = some ((k : Nat), .int x)) (g : G X K (pc + 1) lv (.int x :: st) mm) : G X K pc lv st mm :=
  fun H locs ls hH hS hl => lv_iload_n hk.1 hk.2.1 hd rfl (lv_at hl j hj) (g H locs ls hH hS hl)
theorem r_iload (hk : Ok X K own cc n d) {i : Nat} {x : Int32} (j : Nat) (hd : decode cc pc = .ok (.iload i, 2)) (hj : lv[j]? = some (i, .int x)) (g : G X K (pc + 2) lv (.int x :: st) mm) : G X K pc lv st mm :=
  fun H locs ls hH hS hl => lv_iload hk.1 hk.2.1 hd (lv_at hl j hj) (g H locs ls hH hS hl)
theorem r_lload_n (hk : Ok X K own cc n d) {k : Fin 4} {x : Int64} (j : Nat) (hd : decode cc pc = .ok (.lload_n k, 1)) (hj : lv[j]? = some ((k : Nat), .long x)) (g : G X K (pc + 1) lv (.long x :: st) mm) : G X K pc lv st mm :=
  fun H locs ls hH hS hl => lv_lload_n hk.1 hk.2.1 hd rfl (lv_at hl j hj) (g H locs ls hH hS hl)
theorem r_lload (hk : Ok X K own cc n d) {i : Nat} {x : Int64} (j : Nat) (hd : decode cc pc = .ok (.lload i, 2)) (hj : lv[j]? = some (i, .long x)) (g : G X K (pc + 2) lv (.long x :: st) mm) : G X K pc lv st mm :=
  fun H locs ls hH hS hl => lv_lload hk.1 hk.2.1 hd (lv_at hl j hj) (g H locs ls hH hS hl)
theorem r_dload_n (hk : Ok X K own cc n d) {k : Fin 4} {x : UInt64} (j : Nat) (hd : decode cc pc = .ok (.dload_n k, 1)) (hj : lv[j]? = some ((k : Nat), .double x)) (g : G X K (pc + 1) lv (.double x :: st) mm) : G X K pc lv st mm :=
  fun H locs ls hH hS hl => lv_dload_n hk.1 hk.2.1 hd rfl (lv_at hl j hj) (g H locs ls hH hS hl)
theorem r_dload (hk : Ok X K own cc n d) {i : Nat} {x : UInt64} (j : Nat) (hd : decode cc pc = .ok (.dload i, 2)) (hj : lv[j]? = some (i, .double x)) (g : G X K (pc + 2) lv (.double x :: st) mm) : G X K pc lv st mm :=
  fun H locs ls hH hS hl => lv_dload hk.1 hk.2.1 hd (lv_at hl j hj) (g H locs ls hH hS hl)
theorem r_aload_n (hk : Ok X K own cc n d) {k : Fin 4} {x : Nat} (j : Nat) (hd : decode cc pc = .ok (.aload_n k, 1)) (hj : lv[j]? = some ((k : Nat), .ref x)) (g : G X K (pc + 1) lv (.ref x :: st) mm) : G X K pc lv st mm :=
  fun H locs ls hH hS hl => lv_aload_n hk.1 hk.2.1 hd rfl (lv_at hl j hj) (g H locs ls hH hS hl)
theorem r_aload (hk : Ok X K own cc n d) {i : Nat} {x : Nat} (j : Nat) (hd : decode cc pc = .ok (.aload i, 2)) (hj : lv[j]? = some (i, .ref x)) (g : G X K (pc + 2) lv (.ref x :: st) mm) : G X K pc lv st mm :=
  fun H locs ls hH hS hl => lv_aload hk.1 hk.2.1 hd (lv_at hl j hj) (g H locs ls hH hS hl)
theorem r_istore_n (hk : Ok X K own cc n d) {k : Fin 4} {x : Int32} (lv' : List (Nat × Value)) (hd : decode cc pc = .ok (.istore_n k, 1)) (hn : (k : Nat) < n) (hl' : ((k : Nat), Value.int x) :: lv.filter (fun q => !(q.1 == (k : Nat)) && !(q.1 + 1 == (k : Nat) && q.2.category == 2)) = lv') (g : G X K (pc + 1) lv' st mm) : G X K pc lv (.int x :: st) mm :=
  fun H locs ls hH hS hl => lv_istore_n hk.1 hk.2.1 hd rfl hl (by rw [hk.2.2.2.1]; exact hn) hl' (fun ls' h => g H locs ls' hH hS h)
theorem r_istore (hk : Ok X K own cc n d) {i : Nat} {x : Int32} (lv' : List (Nat × Value)) (hd : decode cc pc = .ok (.istore i, 2)) (hn : i < n) (hl' : (i, Value.int x) :: lv.filter (fun q => !(q.1 == i) && !(q.1 + 1 == i && q.2.category == 2)) = lv') (g : G X K (pc + 2) lv' st mm) : G X K pc lv (.int x :: st) mm :=
  fun H locs ls hH hS hl => lv_istore hk.1 hk.2.1 hd hl (by rw [hk.2.2.2.1]; exact hn) hl' (fun ls' h => g H locs ls' hH hS h)
theorem r_lstore_n (hk : Ok X K own cc n d) {k : Fin 4} {x : Int64} (lv' : List (Nat × Value)) (hd : decode cc pc = .ok (.lstore_n k, 1)) (hn : (k : Nat) + 1 < n) (hl' : ((k : Nat), Value.long x) :: lv.filter (fun q => !(q.1 == (k : Nat)) && (!(q.1 == (k : Nat) + 1) && !(q.1 + 1 == (k : Nat) && q.2.category == 2))) = lv') (g : G X K (pc + 1) lv' st mm) : G X K pc lv (.long x :: st) mm :=
  fun H locs ls hH hS hl => lv_lstore_n hk.1 hk.2.1 hd rfl hl (by rw [hk.2.2.2.1]; exact hn) hl' (fun ls' h => g H locs ls' hH hS h)
theorem r_lstore (hk : Ok X K own cc n d) {i : Nat} {x : Int64} (lv' : List (Nat × Value)) (hd : decode cc pc = .ok (.lstore i, 2)) (hn : i + 1 < n) (hl' : (i, Value.long x) :: lv.filter (fun q => !(q.1 == i) && (!(q.1 == i + 1) && !(q.1 + 1 == i && q.2.category == 2))) = lv') (g : G X K (pc + 2) lv' st mm) : G X K pc lv (.long x :: st) mm :=
  fun H locs ls hH hS hl => lv_lstore hk.1 hk.2.1 hd hl (by rw [hk.2.2.2.1]; exact hn) hl' (fun ls' h => g H locs ls' hH hS h)
theorem r_dstore_n (hk : Ok X K own cc n d) {k : Fin 4} {x : UInt64} (lv' : List (Nat × Value)) (hd : decode cc pc = .ok (.dstore_n k, 1)) (hn : (k : Nat) + 1 < n) (hl' : ((k : Nat), Value.double x) :: lv.filter (fun q => !(q.1 == (k : Nat)) && (!(q.1 == (k : Nat) + 1) && !(q.1 + 1 == (k : Nat) && q.2.category == 2))) = lv') (g : G X K (pc + 1) lv' st mm) : G X K pc lv (.double x :: st) mm :=
  fun H locs ls hH hS hl => lv_dstore_n hk.1 hk.2.1 hd rfl hl (by rw [hk.2.2.2.1]; exact hn) hl' (fun ls' h => g H locs ls' hH hS h)
theorem r_dstore (hk : Ok X K own cc n d) {i : Nat} {x : UInt64} (lv' : List (Nat × Value)) (hd : decode cc pc = .ok (.dstore i, 2)) (hn : i + 1 < n) (hl' : (i, Value.double x) :: lv.filter (fun q => !(q.1 == i) && (!(q.1 == i + 1) && !(q.1 + 1 == i && q.2.category == 2))) = lv') (g : G X K (pc + 2) lv' st mm) : G X K pc lv (.double x :: st) mm :=
  fun H locs ls hH hS hl => lv_dstore hk.1 hk.2.1 hd hl (by rw [hk.2.2.2.1]; exact hn) hl' (fun ls' h => g H locs ls' hH hS h)
theorem r_astore_n (hk : Ok X K own cc n d) {k : Fin 4} {x : Nat} (lv' : List (Nat × Value)) (hd : decode cc pc = .ok (.astore_n k, 1)) (hn : (k : Nat) < n) (hl' : ((k : Nat), Value.ref x) :: lv.filter (fun q => !(q.1 == (k : Nat)) && !(q.1 + 1 == (k : Nat) && q.2.category == 2)) = lv') (g : G X K (pc + 1) lv' st mm) : G X K pc lv (.ref x :: st) mm :=
  fun H locs ls hH hS hl => lv_astore_n hk.1 hk.2.1 hd rfl hl (by rw [hk.2.2.2.1]; exact hn) hl' (fun ls' h => g H locs ls' hH hS h)
theorem r_astore (hk : Ok X K own cc n d) {i : Nat} {x : Nat} (lv' : List (Nat × Value)) (hd : decode cc pc = .ok (.astore i, 2)) (hn : i < n) (hl' : (i, Value.ref x) :: lv.filter (fun q => !(q.1 == i) && !(q.1 + 1 == i && q.2.category == 2)) = lv') (g : G X K (pc + 2) lv' st mm) : G X K pc lv (.ref x :: st) mm :=
  fun H locs ls hH hS hl => lv_astore hk.1 hk.2.1 hd hl (by rw [hk.2.2.2.1]; exact hn) hl' (fun ls' h => g H locs ls' hH hS h)
theorem r_iinc (hk : Ok X K own cc n d) {i : Nat} {k : Int} {x : Int32} (c : Int32) (j : Nat) (lv' : Int32 → List (Nat × Value)) {f : Int32 → Option α} (hF : bd (x + c) f = some r) (hd : decode cc pc = .ok (.iinc i k, 3)) (hj : lv[j]? = some (i, .int x)) (hc : Int32.ofInt k = c) (hn : i < n) (hl' : ∀ v, (i, Value.int v) :: lv.filter (fun q => !(q.1 == i) && !(q.1 + 1 == i && q.2.category == 2)) = lv' v) (g : ∀ v, f v = some r → G X K (pc + 3) (lv' v) st mm) : G X K pc lv st mm :=
  fun H locs ls hH hS hl => lv_iinc hk.1 hk.2.1 hd hl (k := j) hj (v := x + c) (by rw [hc]) (by rw [hk.2.2.2.1]; exact hn) (hl' _) (fun ls' h => g _ hF H locs ls' hH hS h)
theorem r_sub (hk : Ok X K own cc n d) (js : List Nat) (hl' : lv_pick lv js = lv') (g : G X K pc lv' st mm) : G X K pc lv st mm :=
  fun H locs ls hH hS hl => g H locs ls hH hS (lv_sub hl js hl')
theorem r_iadd (hk : Ok X K own cc n d) {x y : Int32} {f : Int32 → Option α} (hF : bd (x + y) f = some r) (hd : decode cc pc = .ok (.iadd, 1)) (g : ∀ v, f v = some r → G X K (pc + 1) lv (.int v :: st) mm) : G X K pc lv (.int y :: .int x :: st) mm :=
  fun H locs ls hH hS hl => lv_iadd hk.1 hk.2.1 hd (g _ hF H locs ls hH hS hl)
theorem r_isub (hk : Ok X K own cc n d) {x y : Int32} {f : Int32 → Option α} (hF : bd (x - y) f = some r) (hd : decode cc pc = .ok (.isub, 1)) (g : ∀ v, f v = some r → G X K (pc + 1) lv (.int v :: st) mm) : G X K pc lv (.int y :: .int x :: st) mm :=
  fun H locs ls hH hS hl => lv_isub hk.1 hk.2.1 hd (g _ hF H locs ls hH hS hl)
theorem r_imul (hk : Ok X K own cc n d) {x y : Int32} {f : Int32 → Option α} (hF : bd (x * y) f = some r) (hd : decode cc pc = .ok (.imul, 1)) (g : ∀ v, f v = some r → G X K (pc + 1) lv (.int v :: st) mm) : G X K pc lv (.int y :: .int x :: st) mm :=
  fun H locs ls hH hS hl => lv_imul hk.1 hk.2.1 hd (g _ hF H locs ls hH hS hl)
theorem r_iand (hk : Ok X K own cc n d) {x y : Int32} {f : Int32 → Option α} (hF : bd (x &&& y) f = some r) (hd : decode cc pc = .ok (.iand, 1)) (g : ∀ v, f v = some r → G X K (pc + 1) lv (.int v :: st) mm) : G X K pc lv (.int y :: .int x :: st) mm :=
  fun H locs ls hH hS hl => lv_iand hk.1 hk.2.1 hd (g _ hF H locs ls hH hS hl)
theorem r_idiv (hk : Ok X K own cc n d) {x y : Int32} {f : Int32 → Option α} (hne : ¬ y = 0) (hF : bd (x / y) f = some r) (hd : decode cc pc = .ok (.idiv, 1)) (g : ∀ v, f v = some r → G X K (pc + 1) lv (.int v :: st) mm) : G X K pc lv (.int y :: .int x :: st) mm :=
  fun H locs ls hH hS hl => lv_idiv hk.1 hk.2.1 hd hne (g _ hF H locs ls hH hS hl)
theorem r_irem (hk : Ok X K own cc n d) {x y : Int32} {f : Int32 → Option α} (hne : ¬ y = 0) (hF : bd (x - x / y * y) f = some r) (hd : decode cc pc = .ok (.irem, 1)) (g : ∀ v, f v = some r → G X K (pc + 1) lv (.int v :: st) mm) : G X K pc lv (.int y :: .int x :: st) mm :=
  fun H locs ls hH hS hl => lv_irem hk.1 hk.2.1 hd hne (g _ hF H locs ls hH hS hl)
theorem r_ineg (hk : Ok X K own cc n d) {x : Int32} {f : Int32 → Option α} (hF : bd (-x) f = some r) (hd : decode cc pc = .ok (.ineg, 1)) (g : ∀ v, f v = some r → G X K (pc + 1) lv (.int v :: st) mm) : G X K pc lv (.int x :: st) mm :=
  fun H locs ls hH hS hl => lv_ineg hk.1 hk.2.1 hd (g _ hF H locs ls hH hS hl)
theorem r_i2l (hk : Ok X K own cc n d) {x : Int32} {f : Int64 → Option α} (hF : bd x.toInt64 f = some r) (hd : decode cc pc = .ok (.i2l, 1)) (g : ∀ v, f v = some r → G X K (pc + 1) lv (.long v :: st) mm) : G X K pc lv (.int x :: st) mm :=
  fun H locs ls hH hS hl => lv_i2l hk.1 hk.2.1 hd rfl (g _ hF H locs ls hH hS hl)
theorem r_i2d (hk : Ok X K own cc n d) {x : Int32} {f : UInt64 → Option α} (hF : bd (FP.i2d x) f = some r) (hd : decode cc pc = .ok (.i2d, 1)) (g : ∀ v, f v = some r → G X K (pc + 1) lv (.double v :: st) mm) : G X K pc lv (.int x :: st) mm :=
  fun H locs ls hH hS hl => lv_i2d hk.1 hk.2.1 hd (g _ hF H locs ls hH hS hl)
theorem r_d2l (hk : Ok X K own cc n d) {x : UInt64} {f : Int64 → Option α} (hF : bd (FP.d2l x) f = some r) (hd : decode cc pc = .ok (.d2l, 1)) (g : ∀ v, f v = some r → G X K (pc + 1) lv (.long v :: st) mm) : G X K pc lv (.double x :: st) mm :=
  fun H locs ls hH hS hl => lv_d2l hk.1 hk.2.1 hd (g _ hF H locs ls hH hS hl)
theorem r_lcmp (hk : Ok X K own cc n d) {x y : Int64} {f : Int32 → Option α} (hF : bd (lg_cmp x y) f = some r) (hd : decode cc pc = .ok (.lcmp, 1)) (g : ∀ v, f v = some r → G X K (pc + 1) lv (.int v :: st) mm) : G X K pc lv (.long y :: .long x :: st) mm :=
  fun H locs ls hH hS hl => W.lcmp hk.1 hk.2.1 hd (g _ hF H locs ls hH hS hl)
theorem r_dcmp (hk : Ok X K own cc n d) {x y : UInt64} {op : CmpOp} {f : Int32 → Option α} (hF : bd (Op.cmpValue (FP.dcmp x y) op) f = some r) (hd : decode cc pc = .ok (.dcmp op, 1)) (g : ∀ v, f v = some r → G X K (pc + 1) lv (.int v :: st) mm) : G X K pc lv (.double y :: .double x :: st) mm :=
  fun H locs ls hH hS hl => lv_dcmp hk.1 hk.2.1 hd (g _ hF H locs ls hH hS hl)
theorem r_lshl (hk : Ok X K own cc n d) {x : Int64} {y : Int32} {f : Int64 → Option α} (hF : bd (x <<< (y.toInt64 &&& 63)) f = some r) (hd : decode cc pc = .ok (.lshl, 1)) (g : ∀ v, f v = some r → G X K (pc + 1) lv (.long v :: st) mm) : G X K pc lv (.int y :: .long x :: st) mm :=
  fun H locs ls hH hS hl => lv_lshl hk.1 hk.2.1 hd rfl (g _ hF H locs ls hH hS hl)
theorem r_ladd (hk : Ok X K own cc n d) {x y : Int64} {f : Int64 → Option α} (hF : bd (x + y) f = some r) (hd : decode cc pc = .ok (.ladd, 1)) (g : ∀ v, f v = some r → G X K (pc + 1) lv (.long v :: st) mm) : G X K pc lv (.long y :: .long x :: st) mm :=
  fun H locs ls hH hS hl => lv_ladd hk.1 hk.2.1 hd (g _ hF H locs ls hH hS hl)
theorem r_lsub (hk : Ok X K own cc n d) {x y : Int64} {f : Int64 → Option α} (hF : bd (x - y) f = some r) (hd : decode cc pc = .ok (.lsub, 1)) (g : ∀ v, f v = some r → G X K (pc + 1) lv (.long v :: st) mm) : G X K pc lv (.long y :: .long x :: st) mm :=
  fun H locs ls hH hS hl => lv_lsub hk.1 hk.2.1 hd (g _ hF H locs ls hH hS hl)
theorem r_lmul (hk : Ok X K own cc n d) {x y : Int64} {f : Int64 → Option α} (hF : bd (x * y) f = some r) (hd : decode cc pc = .ok (.lmul, 1)) (g : ∀ v, f v = some r → G X K (pc + 1) lv (.long v :: st) mm) : G X K pc lv (.long y :: .long x :: st) mm :=
  fun H locs ls hH hS hl => lv_lmul hk.1 hk.2.1 hd (g _ hF H locs ls hH hS hl)
theorem r_lor (hk : Ok X K own cc n d) {x y : Int64} {f : Int64 → Option α} (hF : bd (x ||| y) f = some r) (hd : decode cc pc = .ok (.lor, 1)) (g : ∀ v, f v = some r → G X K (pc + 1) lv (.long v :: st) mm) : G X K pc lv (.long y :: .long x :: st) mm :=
  fun H locs ls hH hS hl => lv_lor hk.1 hk.2.1 hd (g _ hF H locs ls hH hS hl)
/-- not NaN -/
def nn (x : UInt64) : Bool := decide (x &&& 0x7fffffffffffffff ≤ 0x7ff0000000000000)
theorem nn_n64 {x : UInt64} (h : nn x = true) : vf_n64 x := by
  unfold nn at h
  rw [decide_eq_true_eq] at h
  exact h
theorem r_dmul (hk : Ok X K own cc n d) {x y : UInt64} {f : UInt64 → Option α} (hF : ck (nn (FP.dmul x y)) (bd (FP.dmul x y) f) = some r) (hd : decode cc pc = .ok (.dmul, 1)) (g : ∀ v, f v = some r → G X K (pc + 1) lv (.double v :: st) mm) : G X K pc lv (.double y :: .double x :: st) mm :=
  fun H locs ls hH hS hl => lv_dmul hk.1 hk.2.1 hd (nn_n64 (ck_some hF).1) (g _ (ck_some hF).2 H locs ls hH hS hl)
theorem r_ddiv (hk : Ok X K own cc n d) {x y : UInt64} {f : UInt64 → Option α} (hF : ck (nn (FP.ddiv x y)) (bd (FP.ddiv x y) f) = some r) (hd : decode cc pc = .ok (.ddiv, 1)) (g : ∀ v, f v = some r → G X K (pc + 1) lv (.double v :: st) mm) : G X K pc lv (.double y :: .double x :: st) mm :=
  fun H locs ls hH hS hl => lv_ddiv hk.1 hk.2.1 hd (nn_n64 (ck_some hF).1) (g _ (ck_some hF).2 H locs ls hH hS hl)
theorem r_dsub (hk : Ok X K own cc n d) {x y : UInt64} {f : UInt64 → Option α} (hF : ck (nn (FP.dsub x y)) (bd (FP.dsub x y) f) = some r) (hd : decode cc pc = .ok (.dsub, 1)) (g : ∀ v, f v = some r → G X K (pc + 1) lv (.double v :: st) mm) : G X K pc lv (.double y :: .double x :: st) mm :=
  fun H locs ls hH hS hl => lv_dsub hk.1 hk.2.1 hd (nn_n64 (ck_some hF).1) (g _ (ck_some hF).2 H locs ls hH hS hl)
theorem r_dup (hk : Ok X K own cc n d) {v : Value} (hd : decode cc pc = .ok (.dup, 1)) (hv : v.category = 1) (g : G X K (pc + 1) lv (v :: v :: st) mm) : G X K pc lv (v :: st) mm :=
  fun H locs ls hH hS hl => lv_dup hk.1 hk.2.1 hd hv (g H locs ls hH hS hl)
theorem r_dup2 (hk : Ok X K own cc n d) {v w : Value} (hd : decode cc pc = .ok (.dup2, 1)) (hv : v.category = 1) (hw : w.category = 1) (g : G X K (pc + 1) lv (v :: w :: v :: w :: st) mm) : G X K pc lv (v :: w :: st) mm :=
  fun H locs ls hH hS hl => lv_dup2_11 hk.1 hk.2.1 hd hv hw (g H locs ls hH hS hl)
theorem r_pop (hk : Ok X K own cc n d) {v : Value} (hd : decode cc pc = .ok (.pop, 1)) (hv : v.category = 1) (g : G X K (pc + 1) lv st mm) : G X K pc lv (v :: st) mm :=
  fun H locs ls hH hS hl => lv_pop hk.1 hk.2.1 hd hv (g H locs ls hH hS hl)
theorem r_goto (hk : Ok X K own cc n d) {off : Int} (tgt : Nat) (hd : decode cc pc = .ok (.goto off, 3)) (ht : (pc : Int) + off = (tgt : Int)) (g : G X K tgt lv st mm) : G X K pc lv st mm :=
  fun H locs ls hH hS hl => lv_goto hk.1 hk.2.1 hd ht (g H locs ls hH hS hl)
theorem r_icmp_eq (hk : Ok X K own cc n d) {x y : Int32} {off : Int} (tgt : Nat) {A B : Option α} (hF : (if x = y then A else B) = some r) (hd : decode cc pc = .ok (.if_icmp .eq off, 3)) (ht : (pc : Int) + off = (tgt : Int)) (gt : A = some r → G X K tgt lv st mm) (gf : B = some r → G X K (pc + 3) lv st mm) : G X K pc lv (.int y :: .int x :: st) mm :=
  fun H locs ls hH hS hl => lv_icmp_eq hk.1 hk.2.1 hd ht (fun h => gt (by rw [if_pos h] at hF; exact hF) H locs ls hH hS hl) (fun h => gf (by rw [if_neg h] at hF; exact hF) H locs ls hH hS hl)
theorem r_if_eq (hk : Ok X K own cc n d) {x : Int32} {off : Int} (tgt : Nat) {A B : Option α} (hF : (if x = 0 then A else B) = some r) (hd : decode cc pc = .ok (.ifCond .eq off, 3)) (ht : (pc : Int) + off = (tgt : Int)) (gt : A = some r → G X K tgt lv st mm) (gf : B = some r → G X K (pc + 3) lv st mm) : G X K pc lv (.int x :: st) mm :=
  fun H locs ls hH hS hl => lv_if_eq hk.1 hk.2.1 hd ht (fun h => gt (by rw [if_pos h] at hF; exact hF) H locs ls hH hS hl) (fun h => gf (by rw [if_neg h] at hF; exact hF) H locs ls hH hS hl)
theorem r_icmp_ne (hk : Ok X K own cc n d) {x y : Int32} {off : Int} (tgt : Nat) {A B : Option α} (hF : (if x = y then B else A) = some r) (hd : decode cc pc = .ok (.if_icmp .ne off, 3)) (ht : (pc : Int) + off = (tgt : Int)) (gt : A = some r → G X K tgt lv st mm) (gf : B = some r → G X K (pc + 3) lv st mm) : G X K pc lv (.int y :: .int x :: st) mm :=
  fun H locs ls hH hS hl => lv_icmp_ne hk.1 hk.2.1 hd ht (fun h => gt (by rw [if_neg h] at hF; exact hF) H locs ls hH hS hl) (fun h => gf (by rw [if_pos h] at hF; exact hF) H locs ls hH hS hl)
theorem r_if_ne (hk : Ok X K own cc n d) {x : Int32} {off : Int} (tgt : Nat) {A B : Option α} (hF : (if x = 0 then B else A) = some r) (hd : decode cc pc = .ok (.ifCond .ne off, 3)) (ht : (pc : Int) + off = (tgt : Int)) (gt : A = some r → G X K tgt lv st mm) (gf : B = some r → G X K (pc + 3) lv st mm) : G X K pc lv (.int x :: st) mm :=
  fun H locs ls hH hS hl => lv_if_ne hk.1 hk.2.1 hd ht (fun h => gt (by rw [if_neg h] at hF; exact hF) H locs ls hH hS hl) (fun h => gf (by rw [if_pos h] at hF; exact hF) H locs ls hH hS hl)
theorem r_icmp_lt (hk : Ok X K own cc n d) {x y : Int32} {off : Int} (tgt : Nat) {A B : Option α} (hF : (if x < y then A else B) = some r) (hd : decode cc pc = .ok (.if_icmp .lt off, 3)) (ht : (pc : Int) + off = (tgt : Int)) (gt : A = some r → G X K tgt lv st mm) (gf : B = some r → G X K (pc + 3) lv st mm) : G X K pc lv (.int y :: .int x :: st) mm :=
  fun H locs ls hH hS hl => lv_icmp_lt hk.1 hk.2.1 hd ht (fun h => gt (by rw [if_pos h] at hF; exact hF) H locs ls hH hS hl) (fun h => gf (by rw [if_neg h] at hF; exact hF) H locs ls hH hS hl)
theorem r_if_lt (hk : Ok X K own cc n d) {x : Int32} {off : Int} (tgt : Nat) {A B : Option α} (hF : (if x < 0 then A else B) = some r) (hd : decode cc pc = .ok (.ifCond .lt off, 3)) (ht : (pc : Int) + off = (tgt : Int)) (gt : A = some r → G X K tgt lv st mm) (gf : B = some r → G X K (pc + 3) lv st mm) : G X K pc lv (.int x :: st) mm :=
  fun H locs ls hH hS hl => lv_if_lt hk.1 hk.2.1 hd ht (fun h => gt (by rw [if_pos h] at hF; exact hF) H locs ls hH hS hl) (fun h => gf (by rw [if_neg h] at hF; exact hF) H locs ls hH hS hl)
theorem r_icmp_ge (hk : Ok X K own cc n d) {x y : Int32} {off : Int} (tgt : Nat) {A B : Option α} (hF : (if y ≤ x then A else B) = some r) (hd : decode cc pc = .ok (.if_icmp .ge off, 3)) (ht : (pc : Int) + off = (tgt : Int)) (gt : A = some r → G X K tgt lv st mm) (gf : B = some r → G X K (pc + 3) lv st mm) : G X K pc lv (.int y :: .int x :: st) mm :=
  fun H locs ls hH hS hl => lv_icmp_ge hk.1 hk.2.1 hd ht (fun h => gt (by rw [if_pos h] at hF; exact hF) H locs ls hH hS hl) (fun h => gf (by rw [if_neg h] at hF; exact hF) H locs ls hH hS hl)
theorem r_if_ge (hk : Ok X K own cc n d) {x : Int32} {off : Int} (tgt : Nat) {A B : Option α} (hF : (if 0 ≤ x then A else B) = some r) (hd : decode cc pc = .ok (.ifCond .ge off, 3)) (ht : (pc : Int) + off = (tgt : Int)) (gt : A = some r → G X K tgt lv st mm) (gf : B = some r → G X K (pc + 3) lv st mm) : G X K pc lv (.int x :: st) mm :=
  fun H locs ls hH hS hl => lv_if_ge hk.1 hk.2.1 hd ht (fun h => gt (by rw [if_pos h] at hF; exact hF) H locs ls hH hS hl) (fun h => gf (by rw [if_neg h] at hF; exact hF) H locs ls hH hS hl)
theorem r_icmp_gt (hk : Ok X K own cc n d) {x y : Int32} {off : Int} (tgt : Nat) {A B : Option α} (hF : (if y < x then A else B) = some r) (hd : decode cc pc = .ok (.if_icmp .gt off, 3)) (ht : (pc : Int) + off = (tgt : Int)) (gt : A = some r → G X K tgt lv st mm) (gf : B = some r → G X K (pc + 3) lv st mm) : G X K pc lv (.int y :: .int x :: st) mm :=
  fun H locs ls hH hS hl => lv_icmp_gt hk.1 hk.2.1 hd ht (fun h => gt (by rw [if_pos h] at hF; exact hF) H locs ls hH hS hl) (fun h => gf (by rw [if_neg h] at hF; exact hF) H locs ls hH hS hl)
theorem r_if_gt (hk : Ok X K own cc n d) {x : Int32} {off : Int} (tgt : Nat) {A B : Option α} (hF : (if 0 < x then A else B) = some r) (hd : decode cc pc = .ok (.ifCond .gt off, 3)) (ht : (pc : Int) + off = (tgt : Int)) (gt : A = some r → G X K tgt lv st mm) (gf : B = some r → G X K (pc + 3) lv st mm) : G X K pc lv (.int x :: st) mm :=
  fun H locs ls hH hS hl => lv_if_gt hk.1 hk.2.1 hd ht (fun h => gt (by rw [if_pos h] at hF; exact hF) H locs ls hH hS hl) (fun h => gf (by rw [if_neg h] at hF; exact hF) H locs ls hH hS hl)
theorem r_icmp_le (hk : Ok X K own cc n d) {x y : Int32} {off : Int} (tgt : Nat) {A B : Option α} (hF : (if x ≤ y then A else B) = some r) (hd : decode cc pc = .ok (.if_icmp .le off, 3)) (ht : (pc : Int) + off = (tgt : Int)) (gt : A = some r → G X K tgt lv st mm) (gf : B = some r → G X K (pc + 3) lv st mm) : G X K pc lv (.int y :: .int x :: st) mm :=
  fun H locs ls hH hS hl => lv_icmp_le hk.1 hk.2.1 hd ht (fun h => gt (by rw [if_pos h] at hF; exact hF) H locs ls hH hS hl) (fun h => gf (by rw [if_neg h] at hF; exact hF) H locs ls hH hS hl)
theorem r_if_le (hk : Ok X K own cc n d) {x : Int32} {off : Int} (tgt : Nat) {A B : Option α} (hF : (if x ≤ 0 then A else B) = some r) (hd : decode cc pc = .ok (.ifCond .le off, 3)) (ht : (pc : Int) + off = (tgt : Int)) (gt : A = some r → G X K tgt lv st mm) (gf : B = some r → G X K (pc + 3) lv st mm) : G X K pc lv (.int x :: st) mm :=
  fun H locs ls hH hS hl => lv_if_le hk.1 hk.2.1 hd ht (fun h => gt (by rw [if_pos h] at hF; exact hF) H locs ls hH hS hl) (fun h => gf (by rw [if_neg h] at hF; exact hF) H locs ls hH hS hl)

theorem keep_wA {X : XW} {mm : Mem} {lb : Lb} {f : Nat → Int32} {q : Nat} {H : Heap} (hq : lbs[q]? = some lb) {e : va_E} (he : ce X lb (wA mm lb f) = e) (hP : va_P (xD X) vwCl ((cel X mm).set q (xad X lb, e)) H) (hD : va_D (xA X) ((cel X mm).set q (xad X lb, e))) : Hp X (wA mm lb f) H := by
  subst he
  rw [cel_set X hq (ce_wA X mm lb f)] at hP hD
  exact ⟨hP, hD⟩
theorem r_iald (hk : Ok X K own cc n d) {lb : Lb} {N : Nat} {i : Int32} {f : Int32 → Option α} (hlb : lb ∈ lbs) (hce : ∀ m, ce X lb m = eI X N (m.1 lb)) (hF : ck (ib i N) (bd (mm.1 lb i.toNatClampNeg) f) = some r) (hd : decode cc pc = .ok (.iaload, 1)) (g : ∀ v, f v = some r → G X K (pc + 1) lv (.int v :: st) mm) : G X K pc lv (.int i :: .ref (xad X lb) :: st) mm := by
  intro H locs ls hH hS hl
  obtain ⟨q, -, hq⟩ := cel_at X mm hlb
  rw [hce] at hq
  exact va_iald hk.1 hk.2.1 hk.2.2.2.2.2.1.2.1 hH.1 q 0 hq rfl (ib_in (ck_some hF).1) hd (g _ (ck_some hF).2 H locs ls hH hS hl)
theorem r_zald (hk : Ok X K own cc n d) {lb : Lb} {N : Nat} {i : Int32} {f : Int32 → Option α} (hlb : lb ∈ lbs) (hce : ∀ m, ce X lb m = .inl (xcZ X, N, .inl (m.1 lb))) (hF : ck (ib i N) (bd (mm.1 lb i.toNatClampNeg) f) = some r) (hd : decode cc pc = .ok (.baload, 1)) (g : ∀ v, f v = some r → G X K (pc + 1) lv (.int v :: st) mm) : G X K pc lv (.int i :: .ref (xad X lb) :: st) mm := by
  intro H locs ls hH hS hl
  obtain ⟨q, -, hq⟩ := cel_at X mm hlb
  rw [hce] at hq
  exact va_zald hk.1 hk.2.1 hk.2.2.2.2.2.1.2.1 hH.1 q 1 hq rfl (ib_in (ck_some hF).1) hd (g _ (ck_some hF).2 H locs ls hH hS hl)
theorem ib_0 {i : Int32} (h : ib i 1 = true) : i.toNatClampNeg = 0 := by
  obtain ⟨j, hj, rfl⟩ := vp_in_of (ib_in h) (by decide)
  rw [nI_clamp (by omega)]; omega
theorem r_alen (hk : Ok X K own cc n d) {lb : Lb} {N : Nat} {v : Int32} (hlb : lb ∈ lbs) (hce : ∀ m, ce X lb m = eI X N (m.1 lb)) (hv : Int32.ofNat N = v) (hd : decode cc pc = .ok (.arraylength, 1)) (g : G X K (pc + 1) lv (.int v :: st) mm) : G X K pc lv (.ref (xad X lb) :: st) mm := by
  intro H locs ls hH hS hl
  obtain ⟨q, -, hq⟩ := cel_at X mm hlb
  rw [hce] at hq
  exact va_alen hk.1 hk.2.1 hk.2.2.2.2.2.1.2.1 hH.1 q 0 hq rfl hv hd (g H locs ls hH hS hl)
theorem r_aldT (hk : Ok X K own cc n d) {i0 : Nat} {i : Int32} {f : Nat → Option α} (hi0 : i0 < 7) (hF : ck (ib i 3) (bp i.toNatClampNeg 3 f) = some r) (hd : decode cc pc = .ok (.aaload, 1)) (g : ∀ j, j < 3 → f j = some r → G X K (pc + 1) lv (.ref (xad X (2, i0, j, 0)) :: st) mm) : G X K pc lv (.int i :: .ref (xad X (1, i0, 0, 1)) :: st) mm := by
  intro H locs ls hH hS hl
  obtain ⟨q, -, hq⟩ := cel_at X mm (in_st i0 hi0 1 (by decide))
  have h2 := bp_some (ck_some hF).2
  have h7 : i.toNatClampNeg < 3 := h2.1
  refine va_aldq hk.1 hk.2.1 hk.2.2.2.2.2.1.2.1 hH.1 q 4 hq rfl (ib_in (ck_some hF).1) hd ?_
  have e : va_rf (tnf X i0 i.toNatClampNeg) = .ref (xad X (2, i0, i.toNatClampNeg, 0)) := by
    unfold tnf; rw [if_pos h7]; rfl
  rw [e]
  exact g _ h2.1 h2.2 H locs ls hH hS hl
theorem r_aldS (hk : Ok X K own cc n d) {i : Int32} {f : Nat → Option α} (hF : ck (ib i 6) (bp (mm.2.1 i.toNatClampNeg) 7 f) = some r) (hd : decode cc pc = .ok (.aaload, 1)) (g : ∀ j, j < 7 → f j = some r → G X K (pc + 1) lv (.ref (xad X (1, j, 0, 0)) :: st) mm) : G X K pc lv (.int i :: .ref (xad X (0, 0, 0, 1)) :: st) mm := by
  intro H locs ls hH hS hl
  obtain ⟨q, -, hq⟩ := cel_at X mm (in_main 1 (by decide))
  have h2 := bp_some (ck_some hF).2
  have h6 := (vp_in_iff.mp (ib_in (ck_some hF).1))
  have h7 : i.toNatClampNeg < 6 := by
    obtain ⟨j, hj, rfl⟩ := vp_in_of (ib_in (ck_some hF).1) (by decide)
    rw [nI_clamp (by omega)]; exact hj
  refine va_aldq hk.1 hk.2.1 hk.2.2.2.2.2.1.2.1 hH.1 q 3 hq rfl (ib_in (ck_some hF).1) hd ?_
  have e : va_rf (svf X mm.2.1 i.toNatClampNeg) = .ref (xad X (1, mm.2.1 i.toNatClampNeg, 0, 0)) := by
    unfold svf; rw [if_pos h7]; rfl
  rw [e]
  exact g _ h2.1 h2.2 H locs ls hH hS hl
theorem r_iast (hk : Ok X K own cc n d) {lb : Lb} {N : Nat} {i v : Int32} {f : Mem → Option α} (hlb : lb ∈ lbs) (hce : ∀ m, ce X lb m = eI X N (m.1 lb)) (hF : ck (ib i N) (bd (wI mm lb i.toNatClampNeg v) f) = some r) (hd : decode cc pc = .ok (.iastore, 1)) (g : ∀ m1, f m1 = some r → G X K (pc + 1) lv st m1) : G X K pc lv (.int v :: .int i :: .ref (xad X lb) :: st) mm := by
  intro H locs ls hH hS hl
  obtain ⟨q, hq0, hq⟩ := cel_at X mm hlb
  rw [hce] at hq
  exact va_iast hk.1 hk.2.1 hk.2.2.2.2.2.1.2.1 hH.1 hH.2 hS q 0 hq rfl (ib_in (ck_some hF).1) hd (fun H1 locs1 h1 h2 h3 => g _ (ck_some hF).2 H1 locs1 ls (keep_wA hq0 (by rw [hce, wA_self]) h1 h2) h3 hl)
theorem r_zast (hk : Ok X K own cc n d) {lb : Lb} {N : Nat} {i v : Int32} {f : Mem → Option α} (hlb : lb ∈ lbs) (hce : ∀ m, ce X lb m = .inl (xcZ X, N, .inl (m.1 lb))) (hF : ck (ib i N) (ck (isB v) (bd (wI mm lb i.toNatClampNeg v) f)) = some r) (hd : decode cc pc = .ok (.bastore, 1)) (g : ∀ m1, f m1 = some r → G X K (pc + 1) lv st m1) : G X K pc lv (.int v :: .int i :: .ref (xad X lb) :: st) mm := by
  intro H locs ls hH hS hl
  obtain ⟨q, hq0, hq⟩ := cel_at X mm hlb
  rw [hce] at hq
  have hb := (ck_some (ck_some hF).2)
  exact va_zast hk.1 hk.2.1 hk.2.2.2.2.2.1.2.1 hH.1 hH.2 hS q 1 hq rfl (ib_in (ck_some hF).1) hd (fun H1 locs1 h1 h2 h3 => g _ hb.2 H1 locs1 ls (keep_wA hq0 (by rw [hce, wA_self, isB_vp hb.1]) h1 h2) h3 hl)
theorem r_copyi (hk : Ok X K own cc n d) {lb lc : Lb} {N M ix : Nat} {sp dp k : Int32} {f : Mem → Option α} (hlb : lb ∈ lbs) (hce : ∀ m, ce X lb m = eI X N (m.1 lb)) (hlc : lc ∈ lbs) (hcc : ∀ m, ce X lc m = eI X M (m.1 lc))
    (hw : ∀ (a : Array Value) (U : State), Wd U → (Cond.methodLink own ix arraycopyName).before a U = true ∧ (Cond.native arraycopyName).before a U = true ∧ (Cond.static arraycopyName).before a U = true ∧ (Cond.initialized "java/lang/System").before a U = true)
    (hF : ck (!decide (sp < 0) && !decide (dp < 0) && !decide (k < 0) && decide (sp.toNatClampNeg + k.toNatClampNeg ≤ N) && decide (dp.toNatClampNeg + k.toNatClampNeg ≤ M)) (bd (wA mm lc (va_cpy (mm.1 lb) (mm.1 lc) sp.toNatClampNeg dp.toNatClampNeg k.toNatClampNeg)) f) = some r)
    (hdd : 2 ≤ d) (hst : (st.map fun v => v.category).sum ≤ 8) (hd : decode cc pc = .ok (.invokestatic ix, 3)) (g : ∀ m1, f m1 = some r → G X K (pc + 3) lv st m1) : G X K pc lv (.int k :: .int dp :: .ref (xad X lc) :: .int sp :: .ref (xad X lb) :: st) mm := by
  intro H locs ls hH hS hl
  obtain ⟨q0, hq00, hq0⟩ := cel_at X mm hlb
  obtain ⟨q1, hq10, hq1⟩ := cel_at X mm hlc
  rw [hce] at hq0
  rw [hcc] at hq1
  obtain ⟨hb, hF2⟩ := ck_some hF
  simp only [Bool.and_eq_true, Bool.not_eq_true', decide_eq_false_iff_not, decide_eq_true_eq] at hb
  obtain ⟨⟨⟨⟨h1, h2⟩, h3⟩, h4⟩, h5⟩ := hb
  obtain ⟨w1, w2, w3, w4⟩ := hw (ka K) (ks K) hk.2.2.2.2.2.1.1
  have hnw : nativeFrameWords "java/lang/System" "arraycopy" 5 ≤ 40 := by decide
  have hR1 := hk.2.2.2.2.2.2.2.1
  have hR2 := hk.2.2.2.2.2.2.2.2.1
  exact va_copyi hk.1 hk.2.1 (by rw [hk.2.2.1, hl.1, hk.2.2.2.1]) hk.2.2.2.2.1 w1 w2 w3 w4 hk.2.2.2.2.2.1.2.1 hH.1 hH.2 hS q0 q1 0 0 hq0 hq1 rfl rfl rfl h1 h2 h3 h4 h5 (fun _ _ => rfl) (by omega) (by omega) hd (fun H1 locs1 e1 e2 e3 => g _ hF2 H1 locs1 ls (keep_wA hq10 (by rw [hcc, wA_self]) e1 e2) e3 hl)
theorem r_mmin (hk : Ok X K own cc n d) {ix : Nat} {x y : Int32} {f : Int32 → Option α} (hw : ∀ (a : Array Value) (U : State), Wd U → (Cond.methodLink own ix Lib.Math.min.name).before a U = true ∧ (Cond.static Lib.Math.min.name).before a U = true ∧ (Cond.initialized "java/lang/Math").before a U = true ∧ (Cond.code Lib.Math.min.name Lib.Math.min.code 2 (some .int)).before a U = true)
    (hF : bd (if y < x then y else x) f = some r) (hdd : 1 ≤ d) (hst : (st.map fun v => v.category).sum ≤ 8) (hd : decode cc pc = .ok (.invokestatic ix, 3)) (g : ∀ v, f v = some r → G X K (pc + 3) lv (.int v :: st) mm) : G X K pc lv (.int y :: .int x :: st) mm := by
  intro H locs ls hH hS hl
  obtain ⟨w1, w2, w3, w4⟩ := hw (ka K) (ks K) hk.2.2.2.2.2.1.1
  have hR1 := hk.2.2.2.2.2.2.2.1
  have hR2 := hk.2.2.2.2.2.2.2.2.1
  exact va_mmin hk.1 hk.2.1 (by rw [hk.2.2.1, hl.1, hk.2.2.2.1]) hk.2.2.2.2.1 w1 w2 w3 w4 (by omega) (by omega) hk.2.2.2.2.2.2.2.2.2.1 hk.2.2.2.2.2.2.2.2.2.2.1 hd (g _ hF H locs ls hH hS hl)
theorem r_mabs (hk : Ok X K own cc n d) {ix : Nat} {x : Int32} {f : Int32 → Option α} (hw : ∀ (a : Array Value) (U : State), Wd U → (Cond.methodLink own ix Lib.Math.abs.name).before a U = true ∧ (Cond.static Lib.Math.abs.name).before a U = true ∧ (Cond.initialized "java/lang/Math").before a U = true ∧ (Cond.code Lib.Math.abs.name Lib.Math.abs.code 1 (some .int)).before a U = true)
    (hF : bd (if 0 ≤ x then x else 0 - x) f = some r) (hdd : 1 ≤ d) (hst : (st.map fun v => v.category).sum ≤ 8) (hd : decode cc pc = .ok (.invokestatic ix, 3)) (g : ∀ v, f v = some r → G X K (pc + 3) lv (.int v :: st) mm) : G X K pc lv (.int x :: st) mm := by
  intro H locs ls hH hS hl
  obtain ⟨w1, w2, w3, w4⟩ := hw (ka K) (ks K) hk.2.2.2.2.2.1.1
  have hR1 := hk.2.2.2.2.2.2.2.1
  have hR2 := hk.2.2.2.2.2.2.2.2.1
  exact va_mabs hk.1 hk.2.1 (by rw [hk.2.2.1, hl.1, hk.2.2.2.1]) hk.2.2.2.2.1 w1 w2 w3 w4 (by omega) (by omega) hk.2.2.2.2.2.2.2.2.2.1 hk.2.2.2.2.2.2.2.2.2.2.1 hd (g _ hF H locs ls hH hS hl)


/-- a class of the world: its words, its number, its fields -/
def CB (C : String) (T : u_T) (N ci : Nat) (ty : Nat → FieldType) : Prop := (∀ (a : Array Value) (U : State), Wd U → ∀ w ∈ u_ws C T N, w.before a U = true) ∧ vwCl[ci]? = some (C, T, N) ∧ (∀ k, k < N → parseFieldDescriptor (T k).2.2.1 = some (ty k)) ∧ (∀ a, a < N → ∀ b, b < N → a ≠ b → (T a).2.1 ≠ (T b).2.1)
theorem cb_ws {C : String} {T : u_T} {N : Nat} (h : (u_ws C T N).all (fun w => decide (w ∈ lw_tbl) && okw w) = true) : ∀ (a : Array Value) (U : State), Wd U → ∀ w ∈ u_ws C T N, w.before a U = true := by
  intro a U hU w hw
  have h1 := List.all_eq_true.mp h w hw
  rw [Bool.and_eq_true, decide_eq_true_eq] at h1
  exact okw_at (State.WarmedH.refl U) h1.2 (hU w h1.1 h1.2)
theorem cbX0 : CB RX0 TX0 6 0 tyX0 := ⟨cb_ws (by decide +kernel), rfl, tyX0_ok, nmX0⟩
theorem cbX1 : CB RX1 TX1 4 1 tyX1 := ⟨cb_ws (by decide +kernel), rfl, tyX1_ok, nmX1⟩
theorem cbX2 : CB RX2 TX2 10 2 tyX2 := ⟨cb_ws (by decide +kernel), rfl, tyX2_ok, nmX2⟩
theorem cbX3 : CB RX3 TX3 7 3 tyX3 := ⟨cb_ws (by decide +kernel), rfl, tyX3_ok, nmX3⟩
theorem r_getI (hk : Ok X K own cc n d) {C : String} {T : u_T} {N ci ix k : Nat} {ty : Nat → FieldType} {lb : Lb} {f : Int32 → Option α} (fs : (Nat → Nat) → (Nat → Int32) → List Value) (hB : CB C T N ci ty) (hkN : k < N) (hw : ∀ (a : Array Value) (U : State), Wd U → (Cond.fieldLink own ix (T k).1 (T k).2.1 (T k).2.2.1).before a U = true) (hlb : lb ∈ lbs) (hce : ∀ m, ce X lb m = .inr (ci, fs m.2.1 (m.1 lb))) (hv : ∀ q f, (fs q f)[k]? = some (.int (f k))) (hF : bd (mm.1 lb k) f = some r) (hd : decode cc pc = .ok (.getfield ix, 3)) (g : ∀ v, f v = some r → G X K (pc + 3) lv (.int v :: st) mm) : G X K pc lv (.ref (xad X lb) :: st) mm := by
  intro H locs ls hH hS hl
  obtain ⟨q, -, hq⟩ := cel_at X mm hlb
  rw [hce] at hq
  exact va_get hk.1 hk.2.1 (hB.1 _ _ hk.2.2.2.2.2.1.1) (fun _ h => h) hk.2.2.2.2.1 hk.2.2.2.2.2.1.2.1 hH.1 q hq hB.2.1 k hkN (hw _ _ hk.2.2.2.2.2.1.1) (fun _ h => h) (hv _ _) hd (g _ hF H locs ls hH hS hl)
theorem r_getR (hk : Ok X K own cc n d) {C : String} {T : u_T} {N ci ix k a : Nat} {ty : Nat → FieldType} {lb : Lb} (fs : (Nat → Nat) → (Nat → Int32) → List Value) (hB : CB C T N ci ty) (hkN : k < N) (hw : ∀ (a : Array Value) (U : State), Wd U → (Cond.fieldLink own ix (T k).1 (T k).2.1 (T k).2.2.1).before a U = true) (hlb : lb ∈ lbs) (hce : ∀ m, ce X lb m = .inr (ci, fs m.2.1 (m.1 lb))) (hv : ∀ q f, (fs q f)[k]? = some (.ref a)) (hd : decode cc pc = .ok (.getfield ix, 3)) (g : G X K (pc + 3) lv (.ref a :: st) mm) : G X K pc lv (.ref (xad X lb) :: st) mm := by
  intro H locs ls hH hS hl
  obtain ⟨q, -, hq⟩ := cel_at X mm hlb
  rw [hce] at hq
  exact va_get hk.1 hk.2.1 (hB.1 _ _ hk.2.2.2.2.2.1.1) (fun _ h => h) hk.2.2.2.2.1 hk.2.2.2.2.2.1.2.1 hH.1 q hq hB.2.1 k hkN (hw _ _ hk.2.2.2.2.2.1.1) (fun _ h => h) (hv _ _) hd (g H locs ls hH hS hl)
theorem r_getS (hk : Ok X K own cc n d) {ix : Nat} {f : Nat → Option α} (hw : ∀ (a : Array Value) (U : State), Wd U → (Cond.fieldLink own ix (TX3 4).1 (TX3 4).2.1 (TX3 4).2.2.1).before a U = true) (hF : bp (mm.2.1 6) 7 f = some r) (hd : decode cc pc = .ok (.getfield ix, 3)) (g : ∀ i, i < 7 → f i = some r → G X K (pc + 3) lv (.ref (xad X (1, i, 0, 0)) :: st) mm) : G X K pc lv (.ref (xad X (0, 0, 0, 0)) :: st) mm := by
  intro H locs ls hH hS hl
  obtain ⟨q, -, hq⟩ := cel_at X mm (in_main 0 (by decide))
  have hB := cbX3
  exact va_get hk.1 hk.2.1 (hB.1 _ _ hk.2.2.2.2.2.1.1) (fun _ h => h) hk.2.2.2.2.1 hk.2.2.2.2.2.1.2.1 hH.1 q hq hB.2.1 4 (by decide) (hw _ _ hk.2.2.2.2.2.1.1) (fun _ h => h) rfl hd (g _ (bp_some hF).1 (bp_some hF).2 H locs ls hH hS hl)
theorem r_putI (hk : Ok X K own cc n d) {C : String} {T : u_T} {N ci ix k : Nat} {ty : Nat → FieldType} {lb : Lb} {v : Int32} {f : Mem → Option α} (fs : (Nat → Nat) → (Nat → Int32) → List Value) (hB : CB C T N ci ty) (hkN : k < N) (hw : ∀ (a : Array Value) (U : State), Wd U → (Cond.fieldLink own ix (T k).1 (T k).2.1 (T k).2.2.1).before a U = true) (hlb : lb ∈ lbs) (hce : ∀ m, ce X lb m = .inr (ci, fs m.2.1 (m.1 lb))) (hty : ty k = .int) (hfin : (T k).2.2.2 = false) (hset : ∀ q f v, (fs q f).set k (.int v) = fs q (upd f k v)) (hlen : ∀ q f, k < (fs q f).length) (hF : bd (wI mm lb k v) f = some r) (hd : decode cc pc = .ok (.putfield ix, 3)) (g : ∀ m1, f m1 = some r → G X K (pc + 3) lv st m1) : G X K pc lv (.int v :: .ref (xad X lb) :: st) mm := by
  intro H locs ls hH hS hl
  obtain ⟨q, hq0, hq⟩ := cel_at X mm hlb
  rw [hce] at hq
  exact va_put hk.1 hk.2.1 (hB.1 _ _ hk.2.2.2.2.2.1.1) (fun _ h => h) ty hB.2.2.1 hB.2.2.2 hk.2.2.2.2.1 hk.2.2.2.2.2.1.2.1 hH.1 hH.2 hS q hq hB.2.1 k hkN (hw _ _ hk.2.2.2.2.2.1.1) (fun _ h => h) hfin (ty := .int) (by rw [hB.2.2.1 k hkN, hty]) rfl rfl (hlen _ _) hd (fun H1 locs1 h1 h2 h3 => g _ hF H1 locs1 ls (keep_wA hq0 (by rw [hce, wA_self, hset]; rfl) h1 h2) h3 hl)
theorem r_putZ (hk : Ok X K own cc n d) {C : String} {T : u_T} {N ci ix k : Nat} {ty : Nat → FieldType} {lb : Lb} {v : Int32} {f : Mem → Option α} (fs : (Nat → Nat) → (Nat → Int32) → List Value) (hB : CB C T N ci ty) (hkN : k < N) (hw : ∀ (a : Array Value) (U : State), Wd U → (Cond.fieldLink own ix (T k).1 (T k).2.1 (T k).2.2.1).before a U = true) (hlb : lb ∈ lbs) (hce : ∀ m, ce X lb m = .inr (ci, fs m.2.1 (m.1 lb))) (hty : ty k = .boolean) (hfin : (T k).2.2.2 = false) (hset : ∀ q f v, (fs q f).set k (.int v) = fs q (upd f k v)) (hlen : ∀ q f, k < (fs q f).length) (hF : ck (isB v) (bd (wI mm lb k v) f) = some r) (hd : decode cc pc = .ok (.putfield ix, 3)) (g : ∀ m1, f m1 = some r → G X K (pc + 3) lv st m1) : G X K pc lv (.int v :: .ref (xad X lb) :: st) mm := by
  intro H locs ls hH hS hl
  obtain ⟨q, hq0, hq⟩ := cel_at X mm hlb
  rw [hce] at hq
  have hb := ck_some hF
  exact va_put hk.1 hk.2.1 (hB.1 _ _ hk.2.2.2.2.2.1.1) (fun _ h => h) ty hB.2.2.1 hB.2.2.2 hk.2.2.2.2.1 hk.2.2.2.2.2.1.2.1 hH.1 hH.2 hS q hq hB.2.1 k hkN (hw _ _ hk.2.2.2.2.2.1.1) (fun _ h => h) hfin (ty := .boolean) (by rw [hB.2.2.1 k hkN, hty]) (isB_nar hb.1) (isB_fit hb.1) (hlen _ _) hd (fun H1 locs1 h1 h2 h3 => g _ hb.2 H1 locs1 ls (keep_wA hq0 (by rw [hce, wA_self, hset]; rfl) h1 h2) h3 hl)
theorem svf_up (X : XW) (q : Nat → Nat) {k i : Nat} (hk : k < 6) : va_up (svf X q) k (some (xad X (1, i, 0, 0))) = svf X (fun j => if j = k then i else q j) := by
  funext j
  unfold va_up svf
  by_cases hj : j = k
  · subst hj; simp only [if_true, if_pos hk]
  · simp only [if_neg hj]
theorem svf_6 (X : XW) (q : Nat → Nat) (i : Nat) : svf X (fun j => if j = 6 then i else q j) = svf X q := by
  funext j
  unfold svf
  by_cases hj : j < 6
  · have h6 : ¬ j = 6 := by omega
    simp only [if_pos hj, if_neg h6]
  · simp only [if_neg hj]
theorem r_aastS (hk : Ok X K own cc n d) {i : Int32} {j : Nat} {f : Mem → Option α} (hj : j < 7) (hF : ck (ib i 6) (bd (wP mm i.toNatClampNeg j) f) = some r) (hd : decode cc pc = .ok (.aastore, 1)) (g : ∀ m1, f m1 = some r → G X K (pc + 1) lv st m1) : G X K pc lv (.ref (xad X (1, j, 0, 0)) :: .int i :: .ref (xad X (0, 0, 0, 1)) :: st) mm := by
  intro H locs ls hH hS hl
  obtain ⟨q, hq0, hq⟩ := cel_at X mm (in_main 1 (by decide))
  obtain ⟨q2, -, hq2⟩ := cel_at X mm (in_st j hj 0 (by decide))
  have h7 : i.toNatClampNeg < 6 := by
    obtain ⟨j, hj, rfl⟩ := vp_in_of (ib_in (ck_some hF).1) (by decide)
    rw [nI_clamp (by omega)]; exact hj
  refine va_astq hk.1 hk.2.1 hk.2.2.2.2.2.1.2.1 hH.1 hH.2 hS q 3 q2 1 (r := (RX1, TX1, 4)) hq rfl hq2 rfl (ib_in (ck_some hF).1) hd (fun H1 locs1 h1 h2 h3 => g _ (ck_some hF).2 H1 locs1 ls ?_ h3 hl)
  have he : (.inl (xcS X, 6, .inr (.inr (.inr (.inr (va_up (svf X mm.2.1) i.toNatClampNeg (some (xad X (1, j, 0, 0)))))))) : va_E) = ce X (0, 0, 0, 1) (wP mm i.toNatClampNeg j) := by
    rw [svf_up X mm.2.1 h7]; rfl
  have hcs := cel_set X (m := mm) (m' := wP mm i.toNatClampNeg j) hq0 (fun lb' h hne => ?_)
  · rw [he, hcs] at h1 h2
    exact ⟨h1, h2⟩
  · by_cases h0 : lb' = (0, 0, 0, 0)
    · subst h0
      have h6 : ¬ 6 = i.toNatClampNeg := by omega
      simp only [ce, wP, fsX3, if_neg h6]
    · exact ce_ptr X h h0 hne rfl rfl
theorem r_putS (hk : Ok X K own cc n d) {ix j : Nat} {f : Mem → Option α} (hw : ∀ (a : Array Value) (U : State), Wd U → (Cond.fieldLink own ix (TX3 4).1 (TX3 4).2.1 (TX3 4).2.2.1).before a U = true) (hF : bd (wP mm 6 j) f = some r) (hd : decode cc pc = .ok (.putfield ix, 3)) (g : ∀ m1, f m1 = some r → G X K (pc + 3) lv st m1) : G X K pc lv (.ref (xad X (1, j, 0, 0)) :: .ref (xad X (0, 0, 0, 0)) :: st) mm := by
  intro H locs ls hH hS hl
  obtain ⟨q, hq0, hq⟩ := cel_at X mm (in_main 0 (by decide))
  have hB := cbX3
  refine va_put hk.1 hk.2.1 (hB.1 _ _ hk.2.2.2.2.2.1.1) (fun _ h => h) tyX3 hB.2.2.1 hB.2.2.2 hk.2.2.2.2.1 hk.2.2.2.2.2.1.2.1 hH.1 hH.2 hS q hq hB.2.1 4 (by decide) (hw _ _ hk.2.2.2.2.2.1.1) (fun _ h => h) rfl (ty := .object RX1) (hB.2.2.1 4 (by decide)) rfl rfl (by show 4 < 7; decide) hd (fun H1 locs1 h1 h2 h3 => g _ hF H1 locs1 ls ?_ h3 hl)
  have he : (.inr (3, (fsX3 X mm.2.1 (mm.1 (0, 0, 0, 0))).set 4 (.ref (xad X (1, j, 0, 0)))) : va_E) = ce X (0, 0, 0, 0) (wP mm 6 j) := rfl
  have h1' : va_P (xD X) vwCl ((cel X mm).set q (xad X (0, 0, 0, 0), ce X (0, 0, 0, 0) (wP mm 6 j))) H1 := he ▸ h1
  have h2' : va_D (xA X) ((cel X mm).set q (xad X (0, 0, 0, 0), ce X (0, 0, 0, 0) (wP mm 6 j))) := he ▸ h2
  have hcs := cel_set X (m := mm) (m' := wP mm 6 j) hq0 (fun lb' h hne => ?_)
  · rw [hcs] at h1' h2'
    exact ⟨h1', h2'⟩
  · by_cases h0 : lb' = (0, 0, 0, 1)
    · subst h0
      show (.inl (xcS X, 6, .inr (.inr (.inr (.inr (svf X (fun j2 => if j2 = 6 then j else mm.2.1 j2)))))) : va_E) = .inl (xcS X, 6, .inr (.inr (.inr (.inr (svf X mm.2.1)))))
      rw [svf_6]
    · exact ce_ptr X h hne h0 rfl rfl
theorem r_sld (hk : Ok X K own cc n d) {i : Int32} {f : Int32 → Option α} (hF : ck (ib i (xL X)) (bd (xs X i.toNatClampNeg) f) = some r) (hd : decode cc pc = .ok (.iaload, 1)) (g : ∀ v, f v = some r → G X K (pc + 1) lv (.int v :: st) mm) : G X K pc lv (.int i :: .ref (xb X) :: st) mm := by
  intro H locs ls hH hS hl
  obtain ⟨-, -, -, -, -, -, -, -, h9, h10, h11, -⟩ := hk.2.2.2.2.2.1
  exact va_sld hk.1 hk.2.1 h9 (Nat.lt_of_lt_of_le h10 h11) (Nat.not_le.mpr h10) hS (ib_in (ck_some hF).1) hd (g _ (ck_some hF).2 H locs ls hH hS hl)


theorem r_lookup (hk : Ok X K own cc n d) {dflt off : Int} {ps : Array (Int × Int)} {len : Nat} {x : Int32} (tgt : Nat) (hd : decode cc pc = .ok (.lookupswitch dflt ps, len)) (hp : (ps.toList.zip (ps.toList.drop 1)).all (fun (a, next) => a.1 < next.1) = true) (ho : Op.lookupswitch.offset ps.toList dflt x.toInt = off) (ht : (pc : Int) + off = (tgt : Int)) (g : G X K tgt lv st mm) : G X K pc lv (.int x :: st) mm :=
  fun H locs ls hH hS hl => lv_lookup hk.1 hk.2.1 hd hp ho ht (g H locs ls hH hS hl)
theorem r_slen (hk : Ok X K own cc n d) (hd : decode cc pc = .ok (.arraylength, 1)) (g : G X K (pc + 1) lv (.int (Int32.ofNat (xL X)) :: st) mm) : G X K pc lv (.ref (xb X) :: st) mm := by
  intro H locs ls hH hS hl
  obtain ⟨-, -, -, -, -, -, -, -, h9, h10, h11, -⟩ := hk.2.2.2.2.2.1
  exact va_slen hk.1 hk.2.1 h9 (Nat.lt_of_lt_of_le h10 h11) (Nat.not_le.mpr h10) hS hd (g H locs ls hH hS hl)
theorem lk_eq {x k : Int32} {l : List (Int × Int)} {d off : Int} (h : x = k) (h2 : Op.lookupswitch.offset l d k.toInt = off) : Op.lookupswitch.offset l d x.toInt = off := by
  subst h
  exact h2
theorem r_tabIn (hk : Ok X K own cc n d) {dflt lo hi off : Int} {offs : Array Int} {len : Nat} {x : Int32} (tgt : Nat) (hd : decode cc pc = .ok (.tableswitch dflt lo hi offs, len)) (h1 : ¬ x.toInt < lo) (h2 : ¬ hi < x.toInt) (ho : offs[(x.toInt - lo).toNat]? = some off) (ht : (pc : Int) + off = (tgt : Int)) (g : G X K tgt lv st mm) : G X K pc lv (.int x :: st) mm :=
  fun H locs ls hH hS hl => lv_tableIn hk.1 hk.2.1 hd h1 h2 ho ht (g H locs ls hH hS hl)
theorem r_tabOut (hk : Ok X K own cc n d) {dflt lo hi : Int} {offs : Array Int} {len : Nat} {x : Int32} (tgt : Nat) (hd : decode cc pc = .ok (.tableswitch dflt lo hi offs, len)) (h : x.toInt < lo ∨ hi < x.toInt) (ht : (pc : Int) + dflt = (tgt : Int)) (g : G X K tgt lv st mm) : G X K pc lv (.int x :: st) mm :=
  fun H locs ls hH hS hl => lv_tableOut hk.1 hk.2.1 hd h ht (g H locs ls hH hS hl)
theorem r_rawbits (hk : Ok X K own cc n d) {ix : Nat} {x : UInt64} {f : Int64 → Option α} (hw : ∀ (a : Array Value) (U : State), Wd U → (Cond.methodLink own ix ⟨"java/lang/Double", "doubleToRawLongBits", "(D)J"⟩).before a U = true ∧ (Cond.native ⟨"java/lang/Double", "doubleToRawLongBits", "(D)J"⟩).before a U = true ∧ (Cond.static ⟨"java/lang/Double", "doubleToRawLongBits", "(D)J"⟩).before a U = true ∧ (Cond.initialized "java/lang/Double").before a U = true)
    (hF : bd (UInt64.toInt64 x) f = some r) (hdd : 1 ≤ d) (hst : (st.map fun v => v.category).sum ≤ 8) (hd : decode cc pc = .ok (.invokestatic ix, 3)) (g : ∀ v, f v = some r → G X K (pc + 3) lv (.long v :: st) mm) : G X K pc lv (.double x :: st) mm := by
  intro H locs ls hH hS hl
  obtain ⟨w1, w2, w3, w4⟩ := hw (ka K) (ks K) hk.2.2.2.2.2.1.1
  have hR1 := hk.2.2.2.2.2.2.2.1
  have hR2 := hk.2.2.2.2.2.2.2.2.1
  exact vn_d2l hk.1 hk.2.1 (by rw [hk.2.2.1, hl.1, hk.2.2.2.1]) hk.2.2.2.2.1 w1 w2 w3 w4 (by omega) (by omega) hd (g _ hF H locs ls hH hS hl)

end ROWS
end
section
/-! four rows more -/
section ROWS2
variable {X : XW} {K : MC} {own : String} {cc : ByteArray} {n d pc : Nat} {lv lv' : List (Nat × Value)} {st : List Value} {mm : Mem} {α : Type} {r : α}
theorem r_iremv (hk : Ok X K own cc n d) {x y : Int32} {f : Int32 → Option α} (hF : ck (!decide (y = 0)) (bd (x - x / y * y) f) = some r) (hd : decode cc pc = .ok (.irem, 1)) (g : ∀ v, f v = some r → G X K (pc + 1) lv (.int v :: st) mm) : G X K pc lv (.int y :: .int x :: st) mm := by
  obtain ⟨h1, h2⟩ := ck_some hF
  rw [Bool.not_eq_true', decide_eq_false_iff_not] at h1
  exact r_irem hk h1 h2 hd g
theorem r_ishl (hk : Ok X K own cc n d) {x y : Int32} {f : Int32 → Option α} (hF : bd (x <<< (y &&& 31)) f = some r) (hd : decode cc pc = .ok (.ishl, 1)) (g : ∀ v, f v = some r → G X K (pc + 1) lv (.int v :: st) mm) : G X K pc lv (.int y :: .int x :: st) mm :=
  fun H locs ls hH hS hl => lv_ishl hk.1 hk.2.1 hd (g _ hF H locs ls hH hS hl)
theorem r_ishr (hk : Ok X K own cc n d) {x y : Int32} {f : Int32 → Option α} (hF : bd (x >>> (y &&& 31)) f = some r) (hd : decode cc pc = .ok (.ishr, 1)) (g : ∀ v, f v = some r → G X K (pc + 1) lv (.int v :: st) mm) : G X K pc lv (.int y :: .int x :: st) mm :=
  fun H locs ls hH hS hl => lv_ishr hk.1 hk.2.1 hd (g _ hF H locs ls hH hS hl)
theorem r_ior (hk : Ok X K own cc n d) {x y : Int32} {f : Int32 → Option α} (hF : bd (x ||| y) f = some r) (hd : decode cc pc = .ok (.ior, 1)) (g : ∀ v, f v = some r → G X K (pc + 1) lv (.int v :: st) mm) : G X K pc lv (.int y :: .int x :: st) mm :=
  fun H locs ls hH hS hl => lv_ior hk.1 hk.2.1 hd (g _ hF H locs ls hH hS hl)
end ROWS2
end
section
/-! contracts over the memory, calls, a method's start and its ends -/
def Pic (X : XW) (m : Mem) (U : State) : Prop := Old X U ∧ Hp X m U.heap
abbrev rmd (d k : Nat) : Room := { frames := d, cells := k, slots := 6 * k, locals := 36 * d }
abbrev PcX (X : XW) (m : Mem) (As : List Value) : Array Value → State → Prop := va_Pc As (Pic X m)
theorem PcX.blind {X : XW} {m : Mem} {As : List Value} : FrameBlind (PcX X m As) := fun a U g mk h => ⟨h.1, h.2.1.same rfl rfl, h.2.2⟩
abbrev QI (X : XW) (v : Int32) (m1 : Mem) : Array Value → State → Outcome → State → Prop := va_Qi (fun (w : Int32) (_ : Unit) => w = v) (fun _ t => Hp X m1 t.heap) (xA X)
abbrev QL (X : XW) (v : Int64) (m1 : Mem) : Array Value → State → Outcome → State → Prop := va_Ql (fun (w : Int64) (_ : Unit) => w = v) (fun _ t => Hp X m1 t.heap) (xA X)
abbrev QD (X : XW) (v : UInt64) (m1 : Mem) : Array Value → State → Outcome → State → Prop := va_Qd (fun (w : UInt64) (_ : Unit) => w = v) (fun _ t => Hp X m1 t.heap) (xA X)
abbrev QV (X : XW) (m1 : Mem) : Array Value → State → Outcome → State → Prop := va_Qv (fun (_ : Unit) => True) (fun _ t => Hp X m1 t.heap) (xA X)
abbrev QR (X : XW) (a : Nat) (m1 : Mem) : Array Value → State → Outcome → State → Prop := va_Qr (fun (_ : Unit) => True) (fun _ ra t => ra = a ∧ Hp X m1 t.heap) (xA X)
abbrev MX (X : XW) (l : Launch) (y : MethodName) (b : ByteArray) (n : Nat) (ret : Option FieldType) (d : Nat) (As : List Value) (m : Mem) (Qc : Array Value → State → Outcome → State → Prop) : Prop := Met l y [.code y b n ret] (rmd d 0) (PcX X m As) Qc 0 0 (xA X)
/-- the exceptions' numbers -/
def en : Nat → String
  | 0 => "java/lang/IllegalArgumentException"
  | 1 => "java/lang/IllegalStateException"
  | _ => "java/lang/IndexOutOfBoundsException"
def mcR {β : Type} : β ⊕ Nat → Nat
  | .inl _ => 0
  | .inr _ => 1
abbrev QTI (X : XW) (R : Int32 ⊕ Nat) (m1 : Mem) : Array Value → State → Outcome → State → Prop := va_Qi (fun (w : Int32) (_ : Unit) => R = .inl w) (fun _ t => Hp X m1 t.heap) (xA X)
abbrev QTV (X : XW) (R : Unit ⊕ Nat) (m1 : Mem) : Array Value → State → Outcome → State → Prop := va_Qv (fun (_ : Unit) => R = .inl ()) (fun _ t => Hp X m1 t.heap) (xA X)
abbrev XCx {β : Type} (X : XW) (R : β ⊕ Nat) (m1 : Mem) : String → State → State → Prop := vx_X (fun (_ : Unit) => True) (fun E _ t => (∃ c, R = .inr c ∧ E = en c) ∧ Hp X m1 t.heap) (xA X)
abbrev MT {β : Type} (X : XW) (l : Launch) (y : MethodName) (b : ByteArray) (n : Nat) (ret : Option FieldType) (d : Nat) (As : List Value) (m : Mem) (R : β ⊕ Nat) (m1 : Mem) (Qc : Array Value → State → Outcome → State → Prop) : Prop := vx_Met l y [.code y b n ret] (rmd d (mcR R)) (PcX X m As) Qc (XCx X R m1) (mcR R) (6 * mcR R) (xA X)
-- what the tables say of a method, and of a call of it
def YF (y : MethodName) (k : Nat) : Prop := (y.cls ≠ "java/lang/invoke/MethodHandle" ∧ y.cls ≠ "java/lang/invoke/VarHandle") ∧ (parseMethodDescriptor y.desc).map (fun d => d.parameters.length) = some k
def MeV (y : MethodName) (b : ByteArray) (n : Nat) (ret : Option FieldType) : Prop := ∀ (a : Array Value) (U : State), Wd U → (Cond.instanceMethod y).before a U = true ∧ (Cond.selects y.cls y y).before a U = true ∧ (Cond.initialized y.cls).before a U = true ∧ (Cond.code y b n ret).before a U = true
def MeS (y : MethodName) (b : ByteArray) (n : Nat) (ret : Option FieldType) : Prop := ∀ (a : Array Value) (U : State), Wd U → (Cond.static y).before a U = true ∧ (Cond.initialized y.cls).before a U = true ∧ (Cond.code y b n ret).before a U = true
def Lk (own : String) (ix : Nat) (y : MethodName) : Prop := ∀ (a : Array Value) (U : State), Wd U → (Cond.methodLink own ix y).before a U = true
def LkN (own : String) (ix : Nat) (y : MethodName) (host : String) : Prop := ∀ (a : Array Value) (U : State), Wd U → (Cond.methodLinkNest own ix y host).before a U = true
theorem code_stays {y : MethodName} {b : ByteArray} {n : Nat} {ret : Option FieldType} {a : Array Value} {s : State} (h : (Cond.code y b n ret).before a s = true) : ∀ w ∈ ([.code y b n ret] : List Cond), ∀ (a' : Array Value) (U : State), s.WarmedH U.vm → w.before a' U = true := by
  intro w hw a' U hW
  rw [List.mem_singleton] at hw
  subst hw
  exact word_at hW (Or.inl rfl) h
section CALLS
variable {X : XW} {K : MC} {own : String} {cc : ByteArray} {n d pc : Nat} {lv : List (Nat × Value)} {rest stk : List Value} {mm : Mem} {α : Type} {r : α}
variable {y : MethodName} {b : ByteArray} {nL k ix d1 : Nat} {ret : Option FieldType} {As : List Value} {Qc : Array Value → State → Outcome → State → Prop}
theorem callB_mk (hk : Ok X K own cc n d) (c : Nat) (hc : (Cond.code y b nL ret).before (ka K) (ks K) = true) (hi : (Cond.initialized y.cls).before (ka K) (ks K) = true) (hl : (Cond.methodLink own ix y).before (ka K) (ks K) = true) (hy : YF y k) (hd : d1 + 1 ≤ d) (hn : nL ≤ 17) :
    CallB (kR K) (ks K) (ka K) own ix y b nL ret [.code y b nL ret] (rmd d1 c) c (6 * c) k := by
  have hR1 := hk.2.2.2.2.2.2.2.1
  have hR2 := hk.2.2.2.2.2.2.2.2.1
  refine ⟨rfl, rfl, by show d1 + 1 ≤ _; omega, by show 8 + (nL + 11) + 36 * d1 ≤ _; omega, code_stays hc, List.mem_cons_self, hc, hi, hy.1, fun sig h => ?_, hl⟩
  have h2 := hy.2
  rw [h] at h2
  exact (Option.some.inj h2).symm
theorem callN_mk {host : String} (hk : Ok X K own cc n d) (c : Nat) (hc : (Cond.code y b nL ret).before (ka K) (ks K) = true) (hi : (Cond.initialized y.cls).before (ka K) (ks K) = true) (hl : (Cond.methodLinkNest own ix y host).before (ka K) (ks K) = true) (hy : YF y k) (hd : d1 + 1 ≤ d) (hn : nL ≤ 17) :
    va_CN (kR K) (ks K) (ka K) own ix y host b nL ret [.code y b nL ret] (rmd d1 c) c (6 * c) k := by
  have hR1 := hk.2.2.2.2.2.2.2.1
  have hR2 := hk.2.2.2.2.2.2.2.2.1
  refine ⟨⟨rfl, rfl, by show d1 + 1 ≤ _; omega, by show 8 + (nL + 11) + 36 * d1 ≤ _; omega, code_stays hc, List.mem_cons_self⟩, hc, hi, hy.1, fun sig h => ?_, hl⟩
  have h2 := hy.2
  rw [h] at h2
  exact (Option.some.inj h2).symm
theorem preV_mk (hk : Ok X K own cc n d) {H : Heap} {locs : List Loc} {lb : Lb} {ci : Nat} {fs : List Value} {C : String} {T : u_T} {N : Nat} (hH : Hp X mm H) (hS : va_S (xA X) (ks K).heap H locs) (hlb : lb ∈ lbs) (hce : ce X lb mm = .inr (ci, fs)) (hc : vwCl[ci]? = some (C, T, N)) :
    PreV (ks K) H C (xad X lb) (PcX X mm (.ref (xad X lb) :: As)) As := by
  obtain ⟨q, -, hq⟩ := cel_at X mm hlb
  rw [hce] at hq
  refine ⟨PcX.blind, va_recv (q := (C, T, N)) hk.2.2.2.2.2.1.2.1 hH.1 hc hq, fun U hU hW => ⟨rfl, hk.2.2.2.2.2.1.moved hW (locs := locs) (by rw [hU]; exact hS), by rw [hU]; exact hH⟩⟩
theorem preS_mk (hk : Ok X K own cc n d) {H : Heap} {locs : List Loc} (hH : Hp X mm H) (hS : va_S (xA X) (ks K).heap H locs) : PreS (ks K) H (PcX X mm As) As :=
  ⟨PcX.blind, fun U hU hW => ⟨rfl, hk.2.2.2.2.2.1.moved hW (locs := locs) (by rw [hU]; exact hS), by rw [hU]; exact hH⟩⟩
theorem fix_mk (hk : Ok X K own cc n d) : CallFix (kp K) (km K) (kc K) cc n (ks K) (ka K) [] own := ⟨hk.1, hk.2.1, hk.2.2.1, hk.2.2.2.2.1, fun w h => nomatch h⟩

theorem run_V (hk : Ok X K own cc n d) {lb : Lb} {ci : Nat} {fs : List Value} {T : u_T} {N : Nat} (hlb : lb ∈ lbs) (hce : ce X lb mm = .inr (ci, fs)) (hc : vwCl[ci]? = some (y.cls, T, N)) (hM : MX X (kl K) y b nL ret d1 (.ref (xad X lb) :: As) mm Qc) (hL : Lk own ix y) (hm : MeV y b nL ret) (hy : YF y k) (hdd : d1 + 1 ≤ d) (hnL : nL ≤ 17) (hn : As.length = k) (hst : (rest.map fun v => v.category).sum ≤ 8) (hs : stk = As.reverse ++ .ref (xad X lb) :: rest) (hd : decode cc pc = .ok (.invokevirtual ix, 3)) {H : Heap} {locs : List Loc} {ls : Array Slot} (hH : Hp X mm H) (hS : va_S (xA X) (ks K).heap H locs) (hl : lv_has ls (kn K) lv) : va_Run (kp K) (kl K) (ke K) (kR K) (ks K) (km K) (ka K) (kb K) (kmt K) (kc K) H locs (kce K) (ksl K) 0 0 (F0 (km K) pc ls stk) rest (Qc (Value.ref (xad X lb) :: As).toArray) (xA X) := by
  obtain ⟨m1', m2, m3, m4⟩ := hm (ka K) (ks K) hk.2.2.2.2.2.1.1
  exact va_runV (fix_mk hk) hM ⟨callB_mk hk 0 m4 m3 (hL _ _ hk.2.2.2.2.2.1.1) hy hdd hnL, m1', m2⟩ (preV_mk hk hH hS hlb hce hc) rfl hn (by show ls.size = n; rw [hl.1, hk.2.2.2.1]) hs (lv_room hst) hd ⟨hk.2.2.2.2.2.2.2.2.2.1, hk.2.2.2.2.2.2.2.2.2.2.1⟩
theorem run_S (hk : Ok X K own cc n d) (hM : MX X (kl K) y b nL ret d1 As mm Qc) (hL : Lk own ix y) (hm : MeS y b nL ret) (hy : YF y k) (hdd : d1 + 1 ≤ d) (hnL : nL ≤ 17) (hn : As.length = k) (hst : (rest.map fun v => v.category).sum ≤ 8) (hs : stk = As.reverse ++ rest) (hd : decode cc pc = .ok (.invokestatic ix, 3)) {H : Heap} {locs : List Loc} {ls : Array Slot} (hH : Hp X mm H) (hS : va_S (xA X) (ks K).heap H locs) (hl : lv_has ls (kn K) lv) : va_Run (kp K) (kl K) (ke K) (kR K) (ks K) (km K) (ka K) (kb K) (kmt K) (kc K) H locs (kce K) (ksl K) 0 0 (F0 (km K) pc ls stk) rest (Qc As.toArray) (xA X) := by
  obtain ⟨m2, m3, m4⟩ := hm (ka K) (ks K) hk.2.2.2.2.2.1.1
  exact va_runS (fix_mk hk) hM ⟨callB_mk hk 0 m4 m3 (hL _ _ hk.2.2.2.2.2.1.1) hy hdd hnL, m2⟩ (preS_mk hk hH hS) rfl hn (by show ls.size = n; rw [hl.1, hk.2.2.2.1]) hs (lv_room hst) hd ⟨hk.2.2.2.2.2.2.2.2.2.1, hk.2.2.2.2.2.2.2.2.2.2.1⟩
theorem run_VN (hk : Ok X K own cc n d) {host : String} {lb : Lb} {ci : Nat} {fs : List Value} {T : u_T} {N : Nat} (hlb : lb ∈ lbs) (hce : ce X lb mm = .inr (ci, fs)) (hc : vwCl[ci]? = some (y.cls, T, N)) (hM : MX X (kl K) y b nL ret d1 (.ref (xad X lb) :: As) mm Qc) (hL : LkN own ix y host) (hm : MeV y b nL ret) (hy : YF y k) (hdd : d1 + 1 ≤ d) (hnL : nL ≤ 17) (hn : As.length = k) (hst : (rest.map fun v => v.category).sum ≤ 8) (hs : stk = As.reverse ++ .ref (xad X lb) :: rest) (hd : decode cc pc = .ok (.invokevirtual ix, 3)) {H : Heap} {locs : List Loc} {ls : Array Slot} (hH : Hp X mm H) (hS : va_S (xA X) (ks K).heap H locs) (hl : lv_has ls (kn K) lv) : va_Run (kp K) (kl K) (ke K) (kR K) (ks K) (km K) (ka K) (kb K) (kmt K) (kc K) H locs (kce K) (ksl K) 0 0 (F0 (km K) pc ls stk) rest (Qc (Value.ref (xad X lb) :: As).toArray) (xA X) := by
  obtain ⟨m1', m2, m3, m4⟩ := hm (ka K) (ks K) hk.2.2.2.2.2.1.1
  exact va_runVN (fix_mk hk) hM ⟨callN_mk hk 0 m4 m3 (hL _ _ hk.2.2.2.2.2.1.1) hy hdd hnL, m1', m2⟩ (preV_mk hk hH hS hlb hce hc) rfl hn (by show ls.size = n; rw [hl.1, hk.2.2.2.1]) hs (lv_room hst) hd ⟨hk.2.2.2.2.2.2.2.2.2.1, hk.2.2.2.2.2.2.2.2.2.2.1⟩
theorem run_SN (hk : Ok X K own cc n d) {host : String} (hM : MX X (kl K) y b nL ret d1 As mm Qc) (hL : LkN own ix y host) (hm : MeS y b nL ret) (hy : YF y k) (hdd : d1 + 1 ≤ d) (hnL : nL ≤ 17) (hn : As.length = k) (hst : (rest.map fun v => v.category).sum ≤ 8) (hs : stk = As.reverse ++ rest) (hd : decode cc pc = .ok (.invokestatic ix, 3)) {H : Heap} {locs : List Loc} {ls : Array Slot} (hH : Hp X mm H) (hS : va_S (xA X) (ks K).heap H locs) (hl : lv_has ls (kn K) lv) : va_Run (kp K) (kl K) (ke K) (kR K) (ks K) (km K) (ka K) (kb K) (kmt K) (kc K) H locs (kce K) (ksl K) 0 0 (F0 (km K) pc ls stk) rest (Qc As.toArray) (xA X) := by
  obtain ⟨m2, m3, m4⟩ := hm (ka K) (ks K) hk.2.2.2.2.2.1.1
  exact va_runSN (fix_mk hk) hM ⟨callN_mk hk 0 m4 m3 (hL _ _ hk.2.2.2.2.2.1.1) hy hdd hnL, m2, trivial⟩ (preS_mk hk hH hS) rfl hn (by show ls.size = n; rw [hl.1, hk.2.2.2.1]) hs (lv_room hst) hd ⟨hk.2.2.2.2.2.2.2.2.2.1, hk.2.2.2.2.2.2.2.2.2.2.1⟩
theorem runT_V (hk : Ok X K own cc n d) {β : Type} {R : β ⊕ Nat} {m1 : Mem} {lb : Lb} {ci : Nat} {fs : List Value} {T : u_T} {N : Nat} (hlb : lb ∈ lbs) (hce : ce X lb mm = .inr (ci, fs)) (hc : vwCl[ci]? = some (y.cls, T, N)) (hM : MT X (kl K) y b nL ret d1 (.ref (xad X lb) :: As) mm R m1 Qc) (hL : Lk own ix y) (hm : MeV y b nL ret) (hy : YF y k) (hdd : d1 + 1 ≤ d) (hnL : nL ≤ 17) (hn : As.length = k) (hst : (rest.map fun v => v.category).sum ≤ 8) (hs : stk = As.reverse ++ .ref (xad X lb) :: rest) (hd : decode cc pc = .ok (.invokevirtual ix, 3)) (hf : kce K + mcR R ≤ (kR K).cells ∧ ksl K + 6 * mcR R ≤ (kR K).slots) {H : Heap} {locs : List Loc} {ls : Array Slot} (hH : Hp X mm H) (hS : va_S (xA X) (ks K).heap H locs) (hl : lv_has ls (kn K) lv) : vx_Run (kp K) (kl K) (ke K) (kR K) (ks K) (km K) (ka K) (kb K) (kmt K) (kc K) H locs (kce K) (ksl K) (mcR R) (6 * mcR R) (F0 (km K) pc ls stk) rest (Qc (Value.ref (xad X lb) :: As).toArray) (XCx X R m1) (xA X) := by
  obtain ⟨m1', m2, m3, m4⟩ := hm (ka K) (ks K) hk.2.2.2.2.2.1.1
  exact vx_runV (fix_mk hk) hM ⟨callB_mk hk (mcR R) m4 m3 (hL _ _ hk.2.2.2.2.2.1.1) hy hdd hnL, m1', m2⟩ (preV_mk hk hH hS hlb hce hc) rfl hn (by show ls.size = n; rw [hl.1, hk.2.2.2.1]) hs (lv_room hst) hd hf
theorem runT_S (hk : Ok X K own cc n d) {β : Type} {R : β ⊕ Nat} {m1 : Mem} (hM : MT X (kl K) y b nL ret d1 As mm R m1 Qc) (hL : Lk own ix y) (hm : MeS y b nL ret) (hy : YF y k) (hdd : d1 + 1 ≤ d) (hnL : nL ≤ 17) (hn : As.length = k) (hst : (rest.map fun v => v.category).sum ≤ 8) (hs : stk = As.reverse ++ rest) (hd : decode cc pc = .ok (.invokestatic ix, 3)) (hf : kce K + mcR R ≤ (kR K).cells ∧ ksl K + 6 * mcR R ≤ (kR K).slots) {H : Heap} {locs : List Loc} {ls : Array Slot} (hH : Hp X mm H) (hS : va_S (xA X) (ks K).heap H locs) (hl : lv_has ls (kn K) lv) : vx_Run (kp K) (kl K) (ke K) (kR K) (ks K) (km K) (ka K) (kb K) (kmt K) (kc K) H locs (kce K) (ksl K) (mcR R) (6 * mcR R) (F0 (km K) pc ls stk) rest (Qc As.toArray) (XCx X R m1) (xA X) := by
  obtain ⟨m2, m3, m4⟩ := hm (ka K) (ks K) hk.2.2.2.2.2.1.1
  exact vx_runS (fix_mk hk) hM ⟨callB_mk hk (mcR R) m4 m3 (hL _ _ hk.2.2.2.2.2.1.1) hy hdd hnL, m2⟩ (preS_mk hk hH hS) rfl hn (by show ls.size = n; rw [hl.1, hk.2.2.2.1]) hs (lv_room hst) hd hf
def bm {α β : Type} (x : Option (β × Mem)) (f : β → Mem → Option α) : Option α := match x with
  | some (v, m) => f v m
  | none => none
def bo {α β : Type} (x : Option β) (f : β → Option α) : Option α := match x with
  | some v => f v
  | none => none
/-- a call that may throw -/
def bts {β δ : Type} (x : Option (β ⊕ Nat)) (ex : Nat → Option δ) (f : β → Option δ) : Option δ := match x with
  | some (.inl v) => f v
  | some (.inr c) => ex c
  | none => none
def btm {β δ : Type} (x : Option ((β ⊕ Nat) × Mem)) (ex : Nat → Mem → Option δ) (f : β → Mem → Option δ) : Option δ := match x with
  | some (.inl v, m) => f v m
  | some (.inr c, m) => ex c m
  | none => none

theorem r_callI {a : Array Value} {F : Option Int32} {f : Int32 → Option α} (hF : bo F f = some r) (run : ∀ v, F = some v → ∀ H locs ls, Hp X mm H → va_S (xA X) (ks K).heap H locs → lv_has ls (kn K) lv → va_Run (kp K) (kl K) (ke K) (kR K) (ks K) (km K) (ka K) (kb K) (kmt K) (kc K) H locs (kce K) (ksl K) 0 0 (F0 (km K) pc ls stk) rest (QI X v mm a) (xA X)) (g : ∀ v, f v = some r → G X K (pc + 3) lv (.int v :: rest) mm) : G X K pc lv stk mm := by
  intro H locs ls hH hS hl
  cases hv : F with
  | none => rw [hv] at hF; cases hF
  | some v =>
    rw [hv] at hF
    refine va_calli (run v hv H locs ls hH hS hl) hS (fun q _ h => h) (fun q h => h) (fun w u t H1 locs1 ht hvm hw hB hz hk1 hS1 => ?_)
    subst hw
    rw [ht] at hB
    exact g _ hF H1 locs1 ls hB hS1 hl
theorem r_callIm {a : Array Value} {F : Option (Int32 × Mem)} {f : Int32 → Mem → Option α} (hF : bm F f = some r) (run : ∀ v m1, F = some (v, m1) → ∀ H locs ls, Hp X mm H → va_S (xA X) (ks K).heap H locs → lv_has ls (kn K) lv → va_Run (kp K) (kl K) (ke K) (kR K) (ks K) (km K) (ka K) (kb K) (kmt K) (kc K) H locs (kce K) (ksl K) 0 0 (F0 (km K) pc ls stk) rest (QI X v m1 a) (xA X)) (g : ∀ v m1, f v m1 = some r → G X K (pc + 3) lv (.int v :: rest) m1) : G X K pc lv stk mm := by
  intro H locs ls hH hS hl
  cases hv : F with
  | none => rw [hv] at hF; cases hF
  | some vm =>
    obtain ⟨v, m1⟩ := vm
    rw [hv] at hF
    refine va_calli (run v m1 hv H locs ls hH hS hl) hS (fun q _ h => h) (fun q h => h) (fun w u t H1 locs1 ht hvm hw hB hz hk1 hS1 => ?_)
    subst hw
    rw [ht] at hB
    exact g _ _ hF H1 locs1 ls hB hS1 hl
theorem r_callL {a : Array Value} {F : Option Int64} {f : Int64 → Option α} (hF : bo F f = some r) (run : ∀ v, F = some v → ∀ H locs ls, Hp X mm H → va_S (xA X) (ks K).heap H locs → lv_has ls (kn K) lv → va_Run (kp K) (kl K) (ke K) (kR K) (ks K) (km K) (ka K) (kb K) (kmt K) (kc K) H locs (kce K) (ksl K) 0 0 (F0 (km K) pc ls stk) rest (QL X v mm a) (xA X)) (g : ∀ v, f v = some r → G X K (pc + 3) lv (.long v :: rest) mm) : G X K pc lv stk mm := by
  intro H locs ls hH hS hl
  cases hv : F with
  | none => rw [hv] at hF; cases hF
  | some v =>
    rw [hv] at hF
    refine va_calll (run v hv H locs ls hH hS hl) hS (fun q _ h => h) (fun q h => h) (fun w u t H1 locs1 ht hvm hw hB hz hk1 hS1 => ?_)
    subst hw
    rw [ht] at hB
    exact g _ hF H1 locs1 ls hB hS1 hl
theorem r_callLm {a : Array Value} {F : Option (Int64 × Mem)} {f : Int64 → Mem → Option α} (hF : bm F f = some r) (run : ∀ v m1, F = some (v, m1) → ∀ H locs ls, Hp X mm H → va_S (xA X) (ks K).heap H locs → lv_has ls (kn K) lv → va_Run (kp K) (kl K) (ke K) (kR K) (ks K) (km K) (ka K) (kb K) (kmt K) (kc K) H locs (kce K) (ksl K) 0 0 (F0 (km K) pc ls stk) rest (QL X v m1 a) (xA X)) (g : ∀ v m1, f v m1 = some r → G X K (pc + 3) lv (.long v :: rest) m1) : G X K pc lv stk mm := by
  intro H locs ls hH hS hl
  cases hv : F with
  | none => rw [hv] at hF; cases hF
  | some vm =>
    obtain ⟨v, m1⟩ := vm
    rw [hv] at hF
    refine va_calll (run v m1 hv H locs ls hH hS hl) hS (fun q _ h => h) (fun q h => h) (fun w u t H1 locs1 ht hvm hw hB hz hk1 hS1 => ?_)
    subst hw
    rw [ht] at hB
    exact g _ _ hF H1 locs1 ls hB hS1 hl
theorem r_callD {a : Array Value} {F : Option UInt64} {f : UInt64 → Option α} (hF : bo F f = some r) (run : ∀ v, F = some v → ∀ H locs ls, Hp X mm H → va_S (xA X) (ks K).heap H locs → lv_has ls (kn K) lv → va_Run (kp K) (kl K) (ke K) (kR K) (ks K) (km K) (ka K) (kb K) (kmt K) (kc K) H locs (kce K) (ksl K) 0 0 (F0 (km K) pc ls stk) rest (QD X v mm a) (xA X)) (g : ∀ v, f v = some r → G X K (pc + 3) lv (.double v :: rest) mm) : G X K pc lv stk mm := by
  intro H locs ls hH hS hl
  cases hv : F with
  | none => rw [hv] at hF; cases hF
  | some v =>
    rw [hv] at hF
    refine va_calld (run v hv H locs ls hH hS hl) hS (fun q _ h => h) (fun q h => h) (fun w u t H1 locs1 ht hvm hw hB hz hk1 hS1 => ?_)
    subst hw
    rw [ht] at hB
    exact g _ hF H1 locs1 ls hB hS1 hl
theorem r_callDm {a : Array Value} {F : Option (UInt64 × Mem)} {f : UInt64 → Mem → Option α} (hF : bm F f = some r) (run : ∀ v m1, F = some (v, m1) → ∀ H locs ls, Hp X mm H → va_S (xA X) (ks K).heap H locs → lv_has ls (kn K) lv → va_Run (kp K) (kl K) (ke K) (kR K) (ks K) (km K) (ka K) (kb K) (kmt K) (kc K) H locs (kce K) (ksl K) 0 0 (F0 (km K) pc ls stk) rest (QD X v m1 a) (xA X)) (g : ∀ v m1, f v m1 = some r → G X K (pc + 3) lv (.double v :: rest) m1) : G X K pc lv stk mm := by
  intro H locs ls hH hS hl
  cases hv : F with
  | none => rw [hv] at hF; cases hF
  | some vm =>
    obtain ⟨v, m1⟩ := vm
    rw [hv] at hF
    refine va_calld (run v m1 hv H locs ls hH hS hl) hS (fun q _ h => h) (fun q h => h) (fun w u t H1 locs1 ht hvm hw hB hz hk1 hS1 => ?_)
    subst hw
    rw [ht] at hB
    exact g _ _ hF H1 locs1 ls hB hS1 hl
theorem r_callVm {a : Array Value} {F : Option (Unit × Mem)} {f : Unit → Mem → Option α} (hF : bm F f = some r) (run : ∀ v m1, F = some (v, m1) → ∀ H locs ls, Hp X mm H → va_S (xA X) (ks K).heap H locs → lv_has ls (kn K) lv → va_Run (kp K) (kl K) (ke K) (kR K) (ks K) (km K) (ka K) (kb K) (kmt K) (kc K) H locs (kce K) (ksl K) 0 0 (F0 (km K) pc ls stk) rest (QV X m1 a) (xA X)) (g : ∀ v m1, f v m1 = some r → G X K (pc + 3) lv rest m1) : G X K pc lv stk mm := by
  intro H locs ls hH hS hl
  cases hv : F with
  | none => rw [hv] at hF; cases hF
  | some vm =>
    obtain ⟨v, m1⟩ := vm
    rw [hv] at hF
    refine va_callv (run v m1 hv H locs ls hH hS hl) hS (fun q _ h => h) (fun q h => h) (fun u t H1 locs1 ht hvm hw hB hz hk1 hS1 => ?_)
    rw [ht] at hB
    exact g _ _ hF H1 locs1 ls hB hS1 hl
theorem r_callR {a : Array Value} {F : Option Nat} {f : Nat → Option α} (ra : Nat → Nat) (hF : bo F f = some r) (run : ∀ v, F = some v → ∀ H locs ls, Hp X mm H → va_S (xA X) (ks K).heap H locs → lv_has ls (kn K) lv → va_Run (kp K) (kl K) (ke K) (kR K) (ks K) (km K) (ka K) (kb K) (kmt K) (kc K) H locs (kce K) (ksl K) 0 0 (F0 (km K) pc ls stk) rest (QR X (ra v) mm a) (xA X)) (g : ∀ v, F = some v → f v = some r → G X K (pc + 3) lv (.ref (ra v) :: rest) mm) : G X K pc lv stk mm := by
  intro H locs ls hH hS hl
  cases hv : F with
  | none => rw [hv] at hF; cases hF
  | some v =>
    rw [hv] at hF
    refine va_callr (run v hv H locs ls hH hS hl) hS (fun q _ h => h) (fun q h => h) (fun u w t H1 locs1 ht hvm hw hB hz hk1 hS1 => ?_)
    obtain ⟨rfl, hB⟩ := hB
    rw [ht] at hB
    exact g _ hv hF H1 locs1 ls hB hS1 hl
theorem r_callRm {a : Array Value} {F : Option (Nat × Mem)} {f : Nat → Mem → Option α} (ra : Nat → Nat) (hF : bm F f = some r) (run : ∀ v m1, F = some (v, m1) → ∀ H locs ls, Hp X mm H → va_S (xA X) (ks K).heap H locs → lv_has ls (kn K) lv → va_Run (kp K) (kl K) (ke K) (kR K) (ks K) (km K) (ka K) (kb K) (kmt K) (kc K) H locs (kce K) (ksl K) 0 0 (F0 (km K) pc ls stk) rest (QR X (ra v) m1 a) (xA X)) (g : ∀ v m1, F = some (v, m1) → f v m1 = some r → G X K (pc + 3) lv (.ref (ra v) :: rest) m1) : G X K pc lv stk mm := by
  intro H locs ls hH hS hl
  cases hv : F with
  | none => rw [hv] at hF; cases hF
  | some vm =>
    obtain ⟨v, m1⟩ := vm
    rw [hv] at hF
    refine va_callr (run v m1 hv H locs ls hH hS hl) hS (fun q _ h => h) (fun q h => h) (fun u w t H1 locs1 ht hvm hw hB hz hk1 hS1 => ?_)
    obtain ⟨rfl, hB⟩ := hB
    rw [ht] at hB
    exact g _ _ hv hF H1 locs1 ls hB hS1 hl
/-- where c leaves this frame by a throw with the memory m1: room for it, it is handed on, it is made and thrown -/
def XT (X : XW) (K : MC) (own : String) (cc : ByteArray) (n d : Nat) (c : Nat) (m1 : Mem) : Prop :=
  (kce K + 1 ≤ (kR K).cells ∧ ksl K + 6 ≤ (kR K).slots) ∧
  (∀ (pc : Nat) (ls : Array Slot) (st : List Value) (H : Heap) (locs : List Loc) (q : Addr) (ce0 : Cell), Hp X m1 H → va_S (xA X) (ks K).heap H locs → H[q]? = some ce0 → ce0.vm = .none → (ks K).vm.findClass (en c) = some ce0.cls → vx_W (kp K) (kl K) (ke K) (kR K) (ks K) (km K) (ka K) (kb K) (kmt K) (kc K) H locs (kce K + 1) (ksl K + 6) (kQ K) (F0 (km K) pc ls st) q) ∧
  (∀ (ik is ic pc : Nat) (text : String) (lv : List (Nat × Value)) (st : List Value), (∀ (a : Array Value) (U : State), Wd U → (Cond.classLink own ik (en c)).before a U = true ∧ (Cond.initialized (en c)).before a U = true ∧ ∀ w ∈ vx_atS own ic (en c) ["java/lang/RuntimeException", "java/lang/Exception"], w.before a U = true) →
    (∀ w ∈ Cond.classLink own ik (en c) :: Cond.initialized (en c) :: vx_atS own ic (en c) ["java/lang/RuntimeException", "java/lang/Exception"], vx_ot w = true) → (∃ sa, vk_R own is text sa (ks K)) → 7 ≤ d → (st.map fun v => v.category).sum ≤ 8 →
    decode cc pc = .ok (.new ik, 3) → decode cc (pc + 3) = .ok (.dup, 1) → decode cc (pc + 4) = .ok (.ldc is, 2) → decode cc (pc + 6) = .ok (.invokespecial ic, 3) → decode cc (pc + 9) = .ok (.athrow, 1) → G X K pc lv st m1) ∧
  (∀ (ik is ic pc : Nat) (text : String) (lv : List (Nat × Value)) (st : List Value), (∀ (a : Array Value) (U : State), Wd U → (Cond.classLink own ik (en c)).before a U = true ∧ (Cond.initialized (en c)).before a U = true ∧ ∀ w ∈ vx_atS own ic (en c) ["java/lang/RuntimeException", "java/lang/Exception"], w.before a U = true) →
    (∀ w ∈ Cond.classLink own ik (en c) :: Cond.initialized (en c) :: vx_atS own ic (en c) ["java/lang/RuntimeException", "java/lang/Exception"], vx_ot w = true) → (∃ sa, vk_R own is text sa (ks K)) → 7 ≤ d → (st.map fun v => v.category).sum ≤ 8 →
    decode cc pc = .ok (.new ik, 3) → decode cc (pc + 3) = .ok (.dup, 1) → decode cc (pc + 4) = .ok (.ldc_w is, 3) → decode cc (pc + 7) = .ok (.invokespecial ic, 3) → decode cc (pc + 10) = .ok (.athrow, 1) → G X K pc lv st m1)
theorem r_callIts {a : Array Value} (hk : Ok X K own cc n d) {F : Option (Int32 ⊕ Nat)} {ex : Nat → Option α} {f : Int32 → Option α} (hF : bts F ex f = some r) (hX : ∀ c, ex c = some r → XT X K own cc n d c mm) (run : ∀ R, F = some R → (kce K + mcR R ≤ (kR K).cells ∧ ksl K + 6 * mcR R ≤ (kR K).slots) → ∀ H locs ls, Hp X mm H → va_S (xA X) (ks K).heap H locs → lv_has ls (kn K) lv → vx_Run (kp K) (kl K) (ke K) (kR K) (ks K) (km K) (ka K) (kb K) (kmt K) (kc K) H locs (kce K) (ksl K) (mcR R) (6 * mcR R) (F0 (km K) pc ls stk) rest (QTI X R mm a) (XCx X R mm) (xA X)) (g : ∀ v, f v = some r → G X K (pc + 3) lv (.int v :: rest) mm) : G X K pc lv stk mm := by
  intro H locs ls hH hS hl
  cases hv : F with
  | none => rw [hv] at hF; cases hF
  | some vm =>
    rw [hv] at hF
    cases vm with
    | inl v =>
      refine vx_calli (run (.inl v) hv ⟨hk.2.2.2.2.2.2.2.2.2.1, hk.2.2.2.2.2.2.2.2.2.2.1⟩ H locs ls hH hS hl) hS (fun q _ h => h) (fun q h => h) (fun q _ h => h) (fun E ce0 q9 u t H1 locs1 ht hvm hw hB hz hk1 hS1 hc0 hcv hcl => ?_) (fun w u t H1 locs1 ht hvm hw hB hz hk1 hS1 => ?_)
      · obtain ⟨⟨c, h, -⟩, -⟩ := hB
        cases h
      · cases hw
        rw [ht] at hB
        exact g _ hF H1 locs1 ls hB hS1 hl
    | inr c =>
      obtain ⟨hroom, hout, -⟩ := hX c hF
      refine vx_calli (run (.inr c) hv hroom H locs ls hH hS hl) hS (fun q _ h => h) (fun q h => h) (fun q _ h => h) (fun E ce0 q9 u t H1 locs1 ht hvm hw hB hz hk1 hS1 hc0 hcv hcl => ?_) (fun w u t H1 locs1 ht hvm hw hB hz hk1 hS1 => ?_)
      · obtain ⟨⟨c', h, rfl⟩, hB⟩ := hB
        cases h
        rw [ht] at hB
        exact hout _ _ _ H1 locs1 q9 ce0 hB hS1 hc0 hcv hcl
      · cases hw
theorem r_callItm {a : Array Value} (hk : Ok X K own cc n d) {F : Option ((Int32 ⊕ Nat) × Mem)} {ex : Nat → Mem → Option α} {f : Int32 → Mem → Option α} (hF : btm F ex f = some r) (hX : ∀ c m1, ex c m1 = some r → XT X K own cc n d c m1) (run : ∀ R m1, F = some (R, m1) → (kce K + mcR R ≤ (kR K).cells ∧ ksl K + 6 * mcR R ≤ (kR K).slots) → ∀ H locs ls, Hp X mm H → va_S (xA X) (ks K).heap H locs → lv_has ls (kn K) lv → vx_Run (kp K) (kl K) (ke K) (kR K) (ks K) (km K) (ka K) (kb K) (kmt K) (kc K) H locs (kce K) (ksl K) (mcR R) (6 * mcR R) (F0 (km K) pc ls stk) rest (QTI X R m1 a) (XCx X R m1) (xA X)) (g : ∀ v m1, f v m1 = some r → G X K (pc + 3) lv (.int v :: rest) m1) : G X K pc lv stk mm := by
  intro H locs ls hH hS hl
  cases hv : F with
  | none => rw [hv] at hF; cases hF
  | some vm =>
    obtain ⟨R, m1⟩ := vm
    rw [hv] at hF
    cases R with
    | inl v =>
      refine vx_calli (run (.inl v) m1 hv ⟨hk.2.2.2.2.2.2.2.2.2.1, hk.2.2.2.2.2.2.2.2.2.2.1⟩ H locs ls hH hS hl) hS (fun q _ h => h) (fun q h => h) (fun q _ h => h) (fun E ce0 q9 u t H1 locs1 ht hvm hw hB hz hk1 hS1 hc0 hcv hcl => ?_) (fun w u t H1 locs1 ht hvm hw hB hz hk1 hS1 => ?_)
      · obtain ⟨⟨c, h, -⟩, -⟩ := hB
        cases h
      · cases hw
        rw [ht] at hB
        exact g _ _ hF H1 locs1 ls hB hS1 hl
    | inr c =>
      obtain ⟨hroom, hout, -⟩ := hX c m1 hF
      refine vx_calli (run (.inr c) m1 hv hroom H locs ls hH hS hl) hS (fun q _ h => h) (fun q h => h) (fun q _ h => h) (fun E ce0 q9 u t H1 locs1 ht hvm hw hB hz hk1 hS1 hc0 hcv hcl => ?_) (fun w u t H1 locs1 ht hvm hw hB hz hk1 hS1 => ?_)
      · obtain ⟨⟨c', h, rfl⟩, hB⟩ := hB
        cases h
        rw [ht] at hB
        exact hout _ _ _ H1 locs1 q9 ce0 hB hS1 hc0 hcv hcl
      · cases hw
theorem r_callVts {a : Array Value} (hk : Ok X K own cc n d) {F : Option (Unit ⊕ Nat)} {ex : Nat → Option α} {f : Unit → Option α} (hF : bts F ex f = some r) (hX : ∀ c, ex c = some r → XT X K own cc n d c mm) (run : ∀ R, F = some R → (kce K + mcR R ≤ (kR K).cells ∧ ksl K + 6 * mcR R ≤ (kR K).slots) → ∀ H locs ls, Hp X mm H → va_S (xA X) (ks K).heap H locs → lv_has ls (kn K) lv → vx_Run (kp K) (kl K) (ke K) (kR K) (ks K) (km K) (ka K) (kb K) (kmt K) (kc K) H locs (kce K) (ksl K) (mcR R) (6 * mcR R) (F0 (km K) pc ls stk) rest (QTV X R mm a) (XCx X R mm) (xA X)) (g : ∀ v, f v = some r → G X K (pc + 3) lv (rest) mm) : G X K pc lv stk mm := by
  intro H locs ls hH hS hl
  cases hv : F with
  | none => rw [hv] at hF; cases hF
  | some vm =>
    rw [hv] at hF
    cases vm with
    | inl v =>
      refine vx_callv (run (.inl v) hv ⟨hk.2.2.2.2.2.2.2.2.2.1, hk.2.2.2.2.2.2.2.2.2.2.1⟩ H locs ls hH hS hl) hS (fun q _ h => h) (fun q h => h) (fun q _ h => h) (fun E ce0 q9 u t H1 locs1 ht hvm hw hB hz hk1 hS1 hc0 hcv hcl => ?_) (fun u t H1 locs1 ht hvm hw hB hz hk1 hS1 => ?_)
      · obtain ⟨⟨c, h, -⟩, -⟩ := hB
        cases h
      · cases hw
        rw [ht] at hB
        exact g _ hF H1 locs1 ls hB hS1 hl
    | inr c =>
      obtain ⟨hroom, hout, -⟩ := hX c hF
      refine vx_callv (run (.inr c) hv hroom H locs ls hH hS hl) hS (fun q _ h => h) (fun q h => h) (fun q _ h => h) (fun E ce0 q9 u t H1 locs1 ht hvm hw hB hz hk1 hS1 hc0 hcv hcl => ?_) (fun u t H1 locs1 ht hvm hw hB hz hk1 hS1 => ?_)
      · obtain ⟨⟨c', h, rfl⟩, hB⟩ := hB
        cases h
        rw [ht] at hB
        exact hout _ _ _ H1 locs1 q9 ce0 hB hS1 hc0 hcv hcl
      · cases hw
theorem r_callVtm {a : Array Value} (hk : Ok X K own cc n d) {F : Option ((Unit ⊕ Nat) × Mem)} {ex : Nat → Mem → Option α} {f : Unit → Mem → Option α} (hF : btm F ex f = some r) (hX : ∀ c m1, ex c m1 = some r → XT X K own cc n d c m1) (run : ∀ R m1, F = some (R, m1) → (kce K + mcR R ≤ (kR K).cells ∧ ksl K + 6 * mcR R ≤ (kR K).slots) → ∀ H locs ls, Hp X mm H → va_S (xA X) (ks K).heap H locs → lv_has ls (kn K) lv → vx_Run (kp K) (kl K) (ke K) (kR K) (ks K) (km K) (ka K) (kb K) (kmt K) (kc K) H locs (kce K) (ksl K) (mcR R) (6 * mcR R) (F0 (km K) pc ls stk) rest (QTV X R m1 a) (XCx X R m1) (xA X)) (g : ∀ v m1, f v m1 = some r → G X K (pc + 3) lv (rest) m1) : G X K pc lv stk mm := by
  intro H locs ls hH hS hl
  cases hv : F with
  | none => rw [hv] at hF; cases hF
  | some vm =>
    obtain ⟨R, m1⟩ := vm
    rw [hv] at hF
    cases R with
    | inl v =>
      refine vx_callv (run (.inl v) m1 hv ⟨hk.2.2.2.2.2.2.2.2.2.1, hk.2.2.2.2.2.2.2.2.2.2.1⟩ H locs ls hH hS hl) hS (fun q _ h => h) (fun q h => h) (fun q _ h => h) (fun E ce0 q9 u t H1 locs1 ht hvm hw hB hz hk1 hS1 hc0 hcv hcl => ?_) (fun u t H1 locs1 ht hvm hw hB hz hk1 hS1 => ?_)
      · obtain ⟨⟨c, h, -⟩, -⟩ := hB
        cases h
      · cases hw
        rw [ht] at hB
        exact g _ _ hF H1 locs1 ls hB hS1 hl
    | inr c =>
      obtain ⟨hroom, hout, -⟩ := hX c m1 hF
      refine vx_callv (run (.inr c) m1 hv hroom H locs ls hH hS hl) hS (fun q _ h => h) (fun q h => h) (fun q _ h => h) (fun E ce0 q9 u t H1 locs1 ht hvm hw hB hz hk1 hS1 hc0 hcv hcl => ?_) (fun u t H1 locs1 ht hvm hw hB hz hk1 hS1 => ?_)
      · obtain ⟨⟨c', h, rfl⟩, hB⟩ := hB
        cases h
        rw [ht] at hB
        exact hout _ _ _ H1 locs1 q9 ce0 hB hS1 hc0 hcv hcl
      · cases hw
end CALLS
section STARTS
variable {X : XW} {l : Launch} {y : MethodName} {b : ByteArray} {n d : Nat} {own : String} {As : List Value} {m0 m1 : Mem}
theorem startI (hlf : l.stackTraces = false) (hy : plainName y.cls = true) (ho : y.cls = own) (lv0 : List (Nat × Value)) (hlv : lv_args 0 As = lv0) (hlen : (lg_sl As).length ≤ n) {v : Int32}
    (body : ∀ K : MC, Ok X K own b n d → (∀ pc lv, decode b pc = .ok (.ireturn, 1) → G X K pc lv [.int v] m1) → G X K 0 lv0 [] m0) : MX X l y b n (some .int) d As m0 (QI X v m1) := by
  subst ho
  refine Met.ofW (cc := b) (maxL := n) (ret := (some .int)) hy rfl ?_
  intro p e s m args below meth c s₁ B hml hv
  obtain ⟨rfl, hO, hH⟩ := hv
  have hk : Ok X (p, l, e, (headSpec [Cond.code y b n (some .int)] (rmd d 0)).room, s, m, As.toArray, below, meth, c, n, 0, 0, MQ below (QI X v m1) As.toArray s 0 0 (xA X)) y.cls b n d :=
    ⟨B.exec, B.bytes, hml, rfl, findClass_of_methodNamed B.named, hO, B.notSynchronized, Nat.le_refl _, Nat.le_refl _, Nat.le_refl _, Nat.le_refl _, hlf⟩
  have h := body _ hk (fun pc lv hd H locs ls hH hS hl => W.iret B.exec B.bytes B.returns (fun t ht hW => ⟨⟨v, (), rfl, rfl, show Hp X m1 t.heap by rw [ht]; exact hH⟩, hS.F ht⟩) hS.2.2 hd B.notSynchronized)
  have h2 := h s.heap [] _ hH va_S.rf (hlv ▸ lv_entry As hlen)
  rw [lg_entry_eq]
  exact h2
theorem startZ (hlf : l.stackTraces = false) (hy : plainName y.cls = true) (ho : y.cls = own) (lv0 : List (Nat × Value)) (hlv : lv_args 0 As = lv0) (hlen : (lg_sl As).length ≤ n) {v : Int32}
    (body : ∀ K : MC, Ok X K own b n d → (∀ pc lv, isB v = true → decode b pc = .ok (.ireturn, 1) → G X K pc lv [.int v] m1) → G X K 0 lv0 [] m0) : MX X l y b n (some .boolean) d As m0 (QI X v m1) := by
  subst ho
  refine Met.ofW (cc := b) (maxL := n) (ret := (some .boolean)) hy rfl ?_
  intro p e s m args below meth c s₁ B hml hv
  obtain ⟨rfl, hO, hH⟩ := hv
  have hk : Ok X (p, l, e, (headSpec [Cond.code y b n (some .boolean)] (rmd d 0)).room, s, m, As.toArray, below, meth, c, n, 0, 0, MQ below (QI X v m1) As.toArray s 0 0 (xA X)) y.cls b n d :=
    ⟨B.exec, B.bytes, hml, rfl, findClass_of_methodNamed B.named, hO, B.notSynchronized, Nat.le_refl _, Nat.le_refl _, Nat.le_refl _, Nat.le_refl _, hlf⟩
  have h := body _ hk (fun pc lv hz hd H locs ls hH hS hl => W.zret B.exec B.bytes B.returns (isB_nar hz) (fun t ht hW => ⟨⟨v, (), rfl, rfl, show Hp X m1 t.heap by rw [ht]; exact hH⟩, hS.F ht⟩) hS.2.2 hd B.notSynchronized)
  have h2 := h s.heap [] _ hH va_S.rf (hlv ▸ lv_entry As hlen)
  rw [lg_entry_eq]
  exact h2
theorem startL (hlf : l.stackTraces = false) (hy : plainName y.cls = true) (ho : y.cls = own) (lv0 : List (Nat × Value)) (hlv : lv_args 0 As = lv0) (hlen : (lg_sl As).length ≤ n) {v : Int64}
    (body : ∀ K : MC, Ok X K own b n d → (∀ pc lv, decode b pc = .ok (.lreturn, 1) → G X K pc lv [.long v] m1) → G X K 0 lv0 [] m0) : MX X l y b n (some .long) d As m0 (QL X v m1) := by
  subst ho
  refine Met.ofW (cc := b) (maxL := n) (ret := (some .long)) hy rfl ?_
  intro p e s m args below meth c s₁ B hml hv
  obtain ⟨rfl, hO, hH⟩ := hv
  have hk : Ok X (p, l, e, (headSpec [Cond.code y b n (some .long)] (rmd d 0)).room, s, m, As.toArray, below, meth, c, n, 0, 0, MQ below (QL X v m1) As.toArray s 0 0 (xA X)) y.cls b n d :=
    ⟨B.exec, B.bytes, hml, rfl, findClass_of_methodNamed B.named, hO, B.notSynchronized, Nat.le_refl _, Nat.le_refl _, Nat.le_refl _, Nat.le_refl _, hlf⟩
  have h := body _ hk (fun pc lv hd H locs ls hH hS hl => W.lret B.exec B.bytes B.returns (fun t ht hW => ⟨⟨v, (), rfl, rfl, show Hp X m1 t.heap by rw [ht]; exact hH⟩, hS.F ht⟩) hS.2.2 hd B.notSynchronized)
  have h2 := h s.heap [] _ hH va_S.rf (hlv ▸ lv_entry As hlen)
  rw [lg_entry_eq]
  exact h2
theorem startD (hlf : l.stackTraces = false) (hy : plainName y.cls = true) (ho : y.cls = own) (lv0 : List (Nat × Value)) (hlv : lv_args 0 As = lv0) (hlen : (lg_sl As).length ≤ n) {v : UInt64}
    (body : ∀ K : MC, Ok X K own b n d → (∀ pc lv, decode b pc = .ok (.dreturn, 1) → G X K pc lv [.double v] m1) → G X K 0 lv0 [] m0) : MX X l y b n (some .double) d As m0 (QD X v m1) := by
  subst ho
  refine Met.ofW (cc := b) (maxL := n) (ret := (some .double)) hy rfl ?_
  intro p e s m args below meth c s₁ B hml hv
  obtain ⟨rfl, hO, hH⟩ := hv
  have hk : Ok X (p, l, e, (headSpec [Cond.code y b n (some .double)] (rmd d 0)).room, s, m, As.toArray, below, meth, c, n, 0, 0, MQ below (QD X v m1) As.toArray s 0 0 (xA X)) y.cls b n d :=
    ⟨B.exec, B.bytes, hml, rfl, findClass_of_methodNamed B.named, hO, B.notSynchronized, Nat.le_refl _, Nat.le_refl _, Nat.le_refl _, Nat.le_refl _, hlf⟩
  have h := body _ hk (fun pc lv hd H locs ls hH hS hl => W.dret B.exec B.bytes B.returns (fun t ht hW => ⟨⟨v, (), rfl, rfl, show Hp X m1 t.heap by rw [ht]; exact hH⟩, hS.F ht⟩) hS.2.2 hd B.notSynchronized)
  have h2 := h s.heap [] _ hH va_S.rf (hlv ▸ lv_entry As hlen)
  rw [lg_entry_eq]
  exact h2
theorem startV (hlf : l.stackTraces = false) (hy : plainName y.cls = true) (ho : y.cls = own) (lv0 : List (Nat × Value)) (hlv : lv_args 0 As = lv0) (hlen : (lg_sl As).length ≤ n) 
    (body : ∀ K : MC, Ok X K own b n d → (∀ pc lv, decode b pc = .ok (.return_, 1) → G X K pc lv [] m1) → G X K 0 lv0 [] m0) : MX X l y b n none d As m0 (QV X m1) := by
  subst ho
  refine Met.ofW (cc := b) (maxL := n) (ret := none) hy rfl ?_
  intro p e s m args below meth c s₁ B hml hv
  obtain ⟨rfl, hO, hH⟩ := hv
  have hk : Ok X (p, l, e, (headSpec [Cond.code y b n none] (rmd d 0)).room, s, m, As.toArray, below, meth, c, n, 0, 0, MQ below (QV X m1) As.toArray s 0 0 (xA X)) y.cls b n d :=
    ⟨B.exec, B.bytes, hml, rfl, findClass_of_methodNamed B.named, hO, B.notSynchronized, Nat.le_refl _, Nat.le_refl _, Nat.le_refl _, Nat.le_refl _, hlf⟩
  have h := body _ hk (fun pc lv hd H locs ls hH hS hl => W.vret B.exec B.bytes B.returns (fun t ht hW => ⟨⟨(), rfl, trivial, show Hp X m1 t.heap by rw [ht]; exact hH⟩, hS.F ht⟩) hS.2.2 hd B.notSynchronized)
  have h2 := h s.heap [] _ hH va_S.rf (hlv ▸ lv_entry As hlen)
  rw [lg_entry_eq]
  exact h2
theorem startR (hlf : l.stackTraces = false) (hy : plainName y.cls = true) (ho : y.cls = own) (lv0 : List (Nat × Value)) (hlv : lv_args 0 As = lv0) (hlen : (lg_sl As).length ≤ n) {C : String} {v : Nat}
    (body : ∀ K : MC, Ok X K own b n d → (∀ pc lv, decode b pc = .ok (.areturn, 1) → G X K pc lv [.ref v] m1) → G X K 0 lv0 [] m0) : MX X l y b n (some (.object C)) d As m0 (QR X v m1) := by
  subst ho
  refine Met.ofW (cc := b) (maxL := n) (ret := (some (.object C))) hy rfl ?_
  intro p e s m args below meth c s₁ B hml hv
  obtain ⟨rfl, hO, hH⟩ := hv
  have hk : Ok X (p, l, e, (headSpec [Cond.code y b n (some (.object C))] (rmd d 0)).room, s, m, As.toArray, below, meth, c, n, 0, 0, MQ below (QR X v m1) As.toArray s 0 0 (xA X)) y.cls b n d :=
    ⟨B.exec, B.bytes, hml, rfl, findClass_of_methodNamed B.named, hO, B.notSynchronized, Nat.le_refl _, Nat.le_refl _, Nat.le_refl _, Nat.le_refl _, hlf⟩
  have h := body _ hk (fun pc lv hd H locs ls hH hS hl => W.aret B.exec B.bytes B.returns (Or.inl ⟨_, rfl⟩) (Or.inr ⟨_, rfl⟩) (fun t ht hW => ⟨⟨(), v, rfl, trivial, rfl, show Hp X m1 t.heap by rw [ht]; exact hH⟩, hS.F ht⟩) hS.2.2 hd B.notSynchronized)
  have h2 := h s.heap [] _ hH va_S.rf (hlv ▸ lv_entry As hlen)
  rw [lg_entry_eq]
  exact h2
theorem startTI (hlf : l.stackTraces = false) (hy : plainName y.cls = true) (ho : y.cls = own) (lv0 : List (Nat × Value)) (hlv : lv_args 0 As = lv0) (hlen : (lg_sl As).length ≤ n) {R : Int32 ⊕ Nat}
    (body : ∀ K : MC, Ok X K own b n d → (∀ v, R = .inl v → ∀ pc lv, decode b pc = .ok (.ireturn, 1) → G X K pc lv [.int v] m1) → (∀ c, R = .inr c → XT X K own b n d c m1) → G X K 0 lv0 [] m0) : MT X l y b n (some .int) d As m0 R m1 (QTI X R m1) := by
  subst ho
  refine vx_ofW (cc := b) (maxL := n) (ret := (some .int)) hy rfl ?_
  intro p e s m args below meth c s₁ B hml hxt hv
  obtain ⟨rfl, hO, hH⟩ := hv
  have hk : Ok X (p, l, e, (headSpec [Cond.code y b n (some .int)] (rmd d (mcR R))).room, s, m, As.toArray, below, meth, c, n, 0, 0, vx_MQ below (QTI X R m1) (XCx X R m1) As.toArray s (mcR R) (6 * mcR R) (xA X)) y.cls b n d :=
    ⟨B.exec, B.bytes, hml, rfl, findClass_of_methodNamed B.named, hO, B.notSynchronized, Nat.le_refl _, Nat.le_refl _, Nat.zero_le _, Nat.zero_le _, hlf⟩
  have hout : ∀ (pc : Nat), ∀ x ∈ c.exceptionTable.toList, covers x pc = false := fun pc x hx => (hxt x hx).elim
  have h := body _ hk (fun v hR pc lv hd H locs ls hH hS hl => by subst hR; exact vx_ret (W.iret B.exec B.bytes B.returns (fun t ht hW => ⟨⟨v, (), rfl, rfl, show Hp X m1 t.heap by rw [ht]; exact hH⟩, hS.F ht⟩) hS.2.2 hd B.notSynchronized)) (fun c0 hR => by
    subst hR
    refine ⟨⟨Nat.le_refl _, Nat.le_refl _⟩, fun pc ls st H locs q ce0 hH hS hq hcv hcl => ?_, fun ik is ic pc text lv st hw hot htx hd7 hst d0 d3 d4 d6 d9 H locs ls hH hS hl => ?_, fun ik is ic pc text lv st hw hot htx hd7 hst d0 d3 d4 d7 d10 H locs ls hH hS hl => ?_⟩
    · exact vx_out (hout _) B.notSynchronized hq hcv hcl (fun t ht hvm => ⟨(), trivial, ⟨⟨c0, rfl, rfl⟩, show Hp X m1 t.heap by rw [ht]; exact hH⟩, hS.F ht⟩) hS.2.2 (Nat.le_refl _) (Nat.le_refl _)
    · obtain ⟨w1, w2, w3⟩ := hw As.toArray s hO.1
      obtain ⟨sa, hsa⟩ := htx
      have hcls : Bundle.fit (en c0) = true := by
        unfold en; split <;> decide +kernel
      refine vx_throwS B.exec B.bytes hlf (cls := en c0) (names := ["java/lang/RuntimeException", "java/lang/Exception"]) (A := xA X) (findClass_of_methodNamed B.named) hcls (by decide +kernel) w1 w2 hsa w3 hot hO.2.2.1 hO.2.2.2.1 hS (by rw [hl.1]; exact hml.symm) d0 d3 d4 d6 d9 (hout _) ?_ ?_ (Nat.le_refl _) (Nat.le_refl _) B.notSynchronized (fun t hvm hz hq => ?_) hS.2.2 (Nat.le_refl _) (Nat.le_refl _)
      · show 2 + 3 < d
        omega
      · show _ + (13 * (2 + 1) + 43) ≤ 36 * d
        omega
      · refine ⟨(), trivial, ⟨⟨c0, rfl, rfl⟩, ?_⟩, Nat.le_trans hS.1 hz, fun q h1 h2 => ?_⟩
        · exact ⟨va_P.kept hH.1 (fun k q hk => hq _ (hH.1 k q hk).lt), hH.2⟩
        · rw [hq q (Nat.lt_of_lt_of_le h1 hS.1)]
          exact hS.2.1 q h1 h2
    · obtain ⟨w1, w2, w3⟩ := hw As.toArray s hO.1
      obtain ⟨sa, hsa⟩ := htx
      have hcls : Bundle.fit (en c0) = true := by
        unfold en; split <;> decide +kernel
      refine vx_throwSW B.exec B.bytes hlf (cls := en c0) (names := ["java/lang/RuntimeException", "java/lang/Exception"]) (A := xA X) (findClass_of_methodNamed B.named) hcls (by decide +kernel) w1 w2 hsa w3 hot hO.2.2.1 hO.2.2.2.1 hS (by rw [hl.1]; exact hml.symm) d0 d3 d4 d7 d10 (hout _) ?_ ?_ (Nat.le_refl _) (Nat.le_refl _) B.notSynchronized (fun t hvm hz hq => ?_) hS.2.2 (Nat.le_refl _) (Nat.le_refl _)
      · show 2 + 3 < d
        omega
      · show _ + (13 * (2 + 1) + 43) ≤ 36 * d
        omega
      · refine ⟨(), trivial, ⟨⟨c0, rfl, rfl⟩, ?_⟩, Nat.le_trans hS.1 hz, fun q h1 h2 => ?_⟩
        · exact ⟨va_P.kept hH.1 (fun k q hk => hq _ (hH.1 k q hk).lt), hH.2⟩
        · rw [hq q (Nat.lt_of_lt_of_le h1 hS.1)]
          exact hS.2.1 q h1 h2)
  have h2 := h s.heap [] _ hH va_S.rf (hlv ▸ lv_entry As hlen)
  rw [lg_entry_eq]
  exact h2
theorem startTV (hlf : l.stackTraces = false) (hy : plainName y.cls = true) (ho : y.cls = own) (lv0 : List (Nat × Value)) (hlv : lv_args 0 As = lv0) (hlen : (lg_sl As).length ≤ n) {R : Unit ⊕ Nat}
    (body : ∀ K : MC, Ok X K own b n d → (∀ v, R = .inl v → ∀ pc lv, decode b pc = .ok (.return_, 1) → G X K pc lv [] m1) → (∀ c, R = .inr c → XT X K own b n d c m1) → G X K 0 lv0 [] m0) : MT X l y b n none d As m0 R m1 (QTV X R m1) := by
  subst ho
  refine vx_ofW (cc := b) (maxL := n) (ret := none) hy rfl ?_
  intro p e s m args below meth c s₁ B hml hxt hv
  obtain ⟨rfl, hO, hH⟩ := hv
  have hk : Ok X (p, l, e, (headSpec [Cond.code y b n none] (rmd d (mcR R))).room, s, m, As.toArray, below, meth, c, n, 0, 0, vx_MQ below (QTV X R m1) (XCx X R m1) As.toArray s (mcR R) (6 * mcR R) (xA X)) y.cls b n d :=
    ⟨B.exec, B.bytes, hml, rfl, findClass_of_methodNamed B.named, hO, B.notSynchronized, Nat.le_refl _, Nat.le_refl _, Nat.zero_le _, Nat.zero_le _, hlf⟩
  have hout : ∀ (pc : Nat), ∀ x ∈ c.exceptionTable.toList, covers x pc = false := fun pc x hx => (hxt x hx).elim
  have h := body _ hk (fun v hR pc lv hd H locs ls hH hS hl => by subst hR; exact vx_ret (W.vret B.exec B.bytes B.returns (fun t ht hW => ⟨⟨(), rfl, rfl, show Hp X m1 t.heap by rw [ht]; exact hH⟩, hS.F ht⟩) hS.2.2 hd B.notSynchronized)) (fun c0 hR => by
    subst hR
    refine ⟨⟨Nat.le_refl _, Nat.le_refl _⟩, fun pc ls st H locs q ce0 hH hS hq hcv hcl => ?_, fun ik is ic pc text lv st hw hot htx hd7 hst d0 d3 d4 d6 d9 H locs ls hH hS hl => ?_, fun ik is ic pc text lv st hw hot htx hd7 hst d0 d3 d4 d7 d10 H locs ls hH hS hl => ?_⟩
    · exact vx_out (hout _) B.notSynchronized hq hcv hcl (fun t ht hvm => ⟨(), trivial, ⟨⟨c0, rfl, rfl⟩, show Hp X m1 t.heap by rw [ht]; exact hH⟩, hS.F ht⟩) hS.2.2 (Nat.le_refl _) (Nat.le_refl _)
    · obtain ⟨w1, w2, w3⟩ := hw As.toArray s hO.1
      obtain ⟨sa, hsa⟩ := htx
      have hcls : Bundle.fit (en c0) = true := by
        unfold en; split <;> decide +kernel
      refine vx_throwS B.exec B.bytes hlf (cls := en c0) (names := ["java/lang/RuntimeException", "java/lang/Exception"]) (A := xA X) (findClass_of_methodNamed B.named) hcls (by decide +kernel) w1 w2 hsa w3 hot hO.2.2.1 hO.2.2.2.1 hS (by rw [hl.1]; exact hml.symm) d0 d3 d4 d6 d9 (hout _) ?_ ?_ (Nat.le_refl _) (Nat.le_refl _) B.notSynchronized (fun t hvm hz hq => ?_) hS.2.2 (Nat.le_refl _) (Nat.le_refl _)
      · show 2 + 3 < d
        omega
      · show _ + (13 * (2 + 1) + 43) ≤ 36 * d
        omega
      · refine ⟨(), trivial, ⟨⟨c0, rfl, rfl⟩, ?_⟩, Nat.le_trans hS.1 hz, fun q h1 h2 => ?_⟩
        · exact ⟨va_P.kept hH.1 (fun k q hk => hq _ (hH.1 k q hk).lt), hH.2⟩
        · rw [hq q (Nat.lt_of_lt_of_le h1 hS.1)]
          exact hS.2.1 q h1 h2
    · obtain ⟨w1, w2, w3⟩ := hw As.toArray s hO.1
      obtain ⟨sa, hsa⟩ := htx
      have hcls : Bundle.fit (en c0) = true := by
        unfold en; split <;> decide +kernel
      refine vx_throwSW B.exec B.bytes hlf (cls := en c0) (names := ["java/lang/RuntimeException", "java/lang/Exception"]) (A := xA X) (findClass_of_methodNamed B.named) hcls (by decide +kernel) w1 w2 hsa w3 hot hO.2.2.1 hO.2.2.2.1 hS (by rw [hl.1]; exact hml.symm) d0 d3 d4 d7 d10 (hout _) ?_ ?_ (Nat.le_refl _) (Nat.le_refl _) B.notSynchronized (fun t hvm hz hq => ?_) hS.2.2 (Nat.le_refl _) (Nat.le_refl _)
      · show 2 + 3 < d
        omega
      · show _ + (13 * (2 + 1) + 43) ≤ 36 * d
        omega
      · refine ⟨(), trivial, ⟨⟨c0, rfl, rfl⟩, ?_⟩, Nat.le_trans hS.1 hz, fun q h1 h2 => ?_⟩
        · exact ⟨va_P.kept hH.1 (fun k q hk => hq _ (hH.1 k q hk).lt), hH.2⟩
        · rw [hq q (Nat.lt_of_lt_of_le h1 hS.1)]
          exact hS.2.1 q h1 h2)
  have h2 := h s.heap [] _ hH va_S.rf (hlv ▸ lv_entry As hlen)
  rw [lg_entry_eq]
  exact h2
end STARTS
end
section
/-! what the tables say, by place (written by dec.py) -/
theorem wd_list {L : List Cond} (h : L.all (fun w => (decide (w ∈ lw_tbl) && okw w)) = true) (a : Array Value) (U : State) (hU : Wd U) : ∀ w ∈ L, w.before a U = true := by
  intro w hw
  have h1 := List.all_eq_true.mp h w hw
  rw [Bool.and_eq_true, decide_eq_true_eq] at h1
  exact okw_at (State.WarmedH.refl U) h1.2 (hU w h1.1 h1.2)
theorem th_X3_267_271 : ∀ (a : Array Value) (U : State), Wd U → (Cond.classLink RX3 267 (en 0)).before a U = true ∧ (Cond.initialized (en 0)).before a U = true ∧ ∀ w ∈ vx_atS RX3 271 (en 0) ["java/lang/RuntimeException", "java/lang/Exception"], w.before a U = true := fun a U h => ⟨h.use a 179 (by decide +kernel) (by decide +kernel), h.use a 29 (by decide +kernel) (by decide +kernel), wd_list (by decide +kernel) a U h⟩
theorem th_X3_267_271_g : ∀ w ∈ Cond.classLink RX3 267 (en 0) :: Cond.initialized (en 0) :: vx_atS RX3 271 (en 0) ["java/lang/RuntimeException", "java/lang/Exception"], vx_ot w = true := by decide +kernel
theorem fl_X1_29 : ∀ (a : Array Value) (U : State), Wd U → (Cond.fieldLink RX1 29 (TX1 3).1 (TX1 3).2.1 (TX1 3).2.2.1).before a U = true := fun a U h => h.use a 136 (by decide +kernel) (by decide +kernel)
theorem fl_X1_17 : ∀ (a : Array Value) (U : State), Wd U → (Cond.fieldLink RX1 17 (TX1 1).1 (TX1 1).2.1 (TX1 1).2.2.1).before a U = true := fun a U h => h.use a 133 (by decide +kernel) (by decide +kernel)
theorem yf_X3_asNumber : YF yX3_asNumber 1 := ⟨⟨by decide +kernel, by decide +kernel⟩, by decide +kernel⟩
theorem me_X3_asNumber : MeS yX3_asNumber cX3_asNumber 1 (some .int) := fun a U h => ⟨h.use a 252 (by decide +kernel) (by decide +kernel), h.use a 22 (by decide +kernel) (by decide +kernel), h.use a 253 (by decide +kernel) (by decide +kernel)⟩
theorem lk_X1_64 : LkN RX1 64 yX3_asNumber "SharedColumns" := fun a U h => h.use a 251 (by decide +kernel) (by decide +kernel)
theorem fl_X2_9 : ∀ (a : Array Value) (U : State), Wd U → (Cond.fieldLink RX2 9 (TX2 0).1 (TX2 0).2.1 (TX2 0).2.2.1).before a U = true := fun a U h => h.use a 86 (by decide +kernel) (by decide +kernel)
theorem lk_X2_49 : LkN RX2 49 yX3_asNumber "SharedColumns" := fun a U h => h.use a 258 (by decide +kernel) (by decide +kernel)
theorem yf_X3_isTenant : YF yX3_isTenant 1 := ⟨⟨by decide +kernel, by decide +kernel⟩, by decide +kernel⟩
theorem me_X3_isTenant : MeS yX3_isTenant cX3_isTenant 1 (some .boolean) := fun a U h => ⟨h.use a 174 (by decide +kernel) (by decide +kernel), h.use a 22 (by decide +kernel) (by decide +kernel), h.use a 175 (by decide +kernel) (by decide +kernel)⟩
theorem lk_X3_34 : Lk RX3 34 yX3_isTenant := fun a U h => h.use a 173 (by decide +kernel) (by decide +kernel)
theorem yf_X3_require : YF yX3_require 1 := ⟨⟨by decide +kernel, by decide +kernel⟩, by decide +kernel⟩
theorem me_X3_require : MeS yX3_require cX3_require 1 none := fun a U h => ⟨h.use a 177 (by decide +kernel) (by decide +kernel), h.use a 22 (by decide +kernel) (by decide +kernel), h.use a 178 (by decide +kernel) (by decide +kernel)⟩
theorem lk_X3_41 : Lk RX3 41 yX3_require := fun a U h => h.use a 176 (by decide +kernel) (by decide +kernel)
theorem fl_X3_30 : ∀ (a : Array Value) (U : State), Wd U → (Cond.fieldLink RX3 30 (TX3 4).1 (TX3 4).2.1 (TX3 4).2.2.1).before a U = true := fun a U h => h.use a 151 (by decide +kernel) (by decide +kernel)
theorem fl_X3_49 : ∀ (a : Array Value) (U : State), Wd U → (Cond.fieldLink RX3 49 (TX1 0).1 (TX1 0).2.1 (TX1 0).2.2.1).before a U = true := fun a U h => h.use a 132 (by decide +kernel) (by decide +kernel)
theorem yf_X1_rowsOf : YF yX1_rowsOf 1 := ⟨⟨by decide +kernel, by decide +kernel⟩, by decide +kernel⟩
theorem me_X1_rowsOf : MeV yX1_rowsOf cX1_rowsOf 4 (some .int) := fun a U h => ⟨h.use a 248 (by decide +kernel) (by decide +kernel), h.use a 249 (by decide +kernel) (by decide +kernel), h.use a 24 (by decide +kernel) (by decide +kernel), h.use a 250 (by decide +kernel) (by decide +kernel)⟩
theorem lk_X3_100 : Lk RX3 100 yX1_rowsOf := fun a U h => h.use a 247 (by decide +kernel) (by decide +kernel)
theorem yf_X2_meanings : YF yX2_meanings 0 := ⟨⟨by decide +kernel, by decide +kernel⟩, by decide +kernel⟩
theorem me_X2_meanings : MeV yX2_meanings cX2_meanings 3 (some .int) := fun a U h => ⟨h.use a 255 (by decide +kernel) (by decide +kernel), h.use a 256 (by decide +kernel) (by decide +kernel), h.use a 25 (by decide +kernel) (by decide +kernel), h.use a 257 (by decide +kernel) (by decide +kernel)⟩
theorem lk_X3_53 : Lk RX3 53 yX2_meanings := fun a U h => h.use a 254 (by decide +kernel) (by decide +kernel)
theorem fl_X3_103 : ∀ (a : Array Value) (U : State), Wd U → (Cond.fieldLink RX3 103 (TX2 3).1 (TX2 3).2.1 (TX2 3).2.2.1).before a U = true := fun a U h => h.use a 95 (by decide +kernel) (by decide +kernel)
theorem fl_X3_59 : ∀ (a : Array Value) (U : State), Wd U → (Cond.fieldLink RX3 59 (TX2 4).1 (TX2 4).2.1 (TX2 4).2.2.1).before a U = true := fun a U h => h.use a 97 (by decide +kernel) (by decide +kernel)
theorem fl_X3_106 : ∀ (a : Array Value) (U : State), Wd U → (Cond.fieldLink RX3 106 (TX2 5).1 (TX2 5).2.1 (TX2 5).2.2.1).before a U = true := fun a U h => h.use a 99 (by decide +kernel) (by decide +kernel)
theorem lk_X3_96 : Lk RX3 96 yX3_asNumber := fun a U h => h.use a 259 (by decide +kernel) (by decide +kernel)
theorem fl_X3_166 : ∀ (a : Array Value) (U : State), Wd U → (Cond.fieldLink RX3 166 (TX2 6).1 (TX2 6).2.1 (TX2 6).2.2.1).before a U = true := fun a U h => h.use a 102 (by decide +kernel) (by decide +kernel)
theorem fl_X3_169 : ∀ (a : Array Value) (U : State), Wd U → (Cond.fieldLink RX3 169 (TX2 7).1 (TX2 7).2.1 (TX2 7).2.2.1).before a U = true := fun a U h => h.use a 104 (by decide +kernel) (by decide +kernel)
theorem fl_X3_176 : ∀ (a : Array Value) (U : State), Wd U → (Cond.fieldLink RX3 176 (TX2 8).1 (TX2 8).2.1 (TX2 8).2.2.1).before a U = true := fun a U h => h.use a 106 (by decide +kernel) (by decide +kernel)
theorem fl_X3_194 : ∀ (a : Array Value) (U : State), Wd U → (Cond.fieldLink RX3 194 (TX2 9).1 (TX2 9).2.1 (TX2 9).2.2.1).before a U = true := fun a U h => h.use a 108 (by decide +kernel) (by decide +kernel)
theorem fl_X1_11 : ∀ (a : Array Value) (U : State), Wd U → (Cond.fieldLink RX1 11 (TX1 0).1 (TX1 0).2.1 (TX1 0).2.2.1).before a U = true := fun a U h => h.use a 131 (by decide +kernel) (by decide +kernel)
theorem yf_X1_ownerOf : YF yX1_ownerOf 1 := ⟨⟨by decide +kernel, by decide +kernel⟩, by decide +kernel⟩
theorem me_X1_ownerOf : MeV yX1_ownerOf cX1_ownerOf 2 (some (.object RX2)) := fun a U h => ⟨h.use a 269 (by decide +kernel) (by decide +kernel), h.use a 270 (by decide +kernel) (by decide +kernel), h.use a 24 (by decide +kernel) (by decide +kernel), h.use a 271 (by decide +kernel) (by decide +kernel)⟩
theorem lk_X1_60 : Lk RX1 60 yX1_ownerOf := fun a U h => h.use a 268 (by decide +kernel) (by decide +kernel)
theorem fl_X1_56 : ∀ (a : Array Value) (U : State), Wd U → (Cond.fieldLink RX1 56 (TX2 5).1 (TX2 5).2.1 (TX2 5).2.2.1).before a U = true := fun a U h => h.use a 100 (by decide +kernel) (by decide +kernel)
theorem cn_X1_39 : ∀ (a : Array Value) (U : State), Wd U → (Cond.constant RX1 39 (-1000000)).before a U = true := fun a U h => h.use a 284 (by decide +kernel) (by decide +kernel)
theorem fl_X1_21 : ∀ (a : Array Value) (U : State), Wd U → (Cond.fieldLink RX1 21 (TX1 2).1 (TX1 2).2.1 (TX1 2).2.2.1).before a U = true := fun a U h => h.use a 135 (by decide +kernel) (by decide +kernel)
theorem yf_X1_valueAt : YF yX1_valueAt 2 := ⟨⟨by decide +kernel, by decide +kernel⟩, by decide +kernel⟩
theorem me_X1_valueAt : MeV yX1_valueAt cX1_valueAt 3 (some .int) := fun a U h => ⟨h.use a 281 (by decide +kernel) (by decide +kernel), h.use a 282 (by decide +kernel) (by decide +kernel), h.use a 24 (by decide +kernel) (by decide +kernel), h.use a 283 (by decide +kernel) (by decide +kernel)⟩
theorem lk_X1_40 : Lk RX1 40 yX1_valueAt := fun a U h => h.use a 280 (by decide +kernel) (by decide +kernel)
theorem yf_X1_valuesIn : YF yX1_valuesIn 1 := ⟨⟨by decide +kernel, by decide +kernel⟩, by decide +kernel⟩
theorem me_X1_valuesIn : MeV yX1_valuesIn cX1_valuesIn 4 (some .int) := fun a U h => ⟨h.use a 277 (by decide +kernel) (by decide +kernel), h.use a 278 (by decide +kernel) (by decide +kernel), h.use a 24 (by decide +kernel) (by decide +kernel), h.use a 279 (by decide +kernel) (by decide +kernel)⟩
theorem lk_X1_68 : Lk RX1 68 yX1_valuesIn := fun a U h => h.use a 276 (by decide +kernel) (by decide +kernel)
theorem fl_X1_82 : ∀ (a : Array Value) (U : State), Wd U → (Cond.fieldLink RX1 82 (TX2 0).1 (TX2 0).2.1 (TX2 0).2.2.1).before a U = true := fun a U h => h.use a 88 (by decide +kernel) (by decide +kernel)
theorem fl_X1_85 : ∀ (a : Array Value) (U : State), Wd U → (Cond.fieldLink RX1 85 (TX2 2).1 (TX2 2).2.1 (TX2 2).2.2.1).before a U = true := fun a U h => h.use a 93 (by decide +kernel) (by decide +kernel)
theorem yf_X1_tableRows : YF yX1_tableRows 0 := ⟨⟨by decide +kernel, by decide +kernel⟩, by decide +kernel⟩
theorem me_X1_tableRows : MeV yX1_tableRows cX1_tableRows 3 (some .int) := fun a U h => ⟨h.use a 265 (by decide +kernel) (by decide +kernel), h.use a 266 (by decide +kernel) (by decide +kernel), h.use a 24 (by decide +kernel) (by decide +kernel), h.use a 267 (by decide +kernel) (by decide +kernel)⟩
theorem lk_X3_110 : Lk RX3 110 yX1_tableRows := fun a U h => h.use a 264 (by decide +kernel) (by decide +kernel)
theorem fl_X3_204 : ∀ (a : Array Value) (U : State), Wd U → (Cond.fieldLink RX3 204 (TX1 3).1 (TX1 3).2.1 (TX1 3).2.2.1).before a U = true := fun a U h => h.use a 137 (by decide +kernel) (by decide +kernel)
theorem yf_X1_tableValues : YF yX1_tableValues 0 := ⟨⟨by decide +kernel, by decide +kernel⟩, by decide +kernel⟩
theorem me_X1_tableValues : MeV yX1_tableValues cX1_tableValues 3 (some .int) := fun a U h => ⟨h.use a 273 (by decide +kernel) (by decide +kernel), h.use a 274 (by decide +kernel) (by decide +kernel), h.use a 24 (by decide +kernel) (by decide +kernel), h.use a 275 (by decide +kernel) (by decide +kernel)⟩
theorem lk_X3_207 : Lk RX3 207 yX1_tableValues := fun a U h => h.use a 272 (by decide +kernel) (by decide +kernel)
theorem yf_X1_columnsWithMeanings : YF yX1_columnsWithMeanings 2 := ⟨⟨by decide +kernel, by decide +kernel⟩, by decide +kernel⟩
theorem me_X1_columnsWithMeanings : MeV yX1_columnsWithMeanings cX1_columnsWithMeanings 7 (some .int) := fun a U h => ⟨h.use a 286 (by decide +kernel) (by decide +kernel), h.use a 287 (by decide +kernel) (by decide +kernel), h.use a 24 (by decide +kernel) (by decide +kernel), h.use a 288 (by decide +kernel) (by decide +kernel)⟩
theorem lk_X3_210 : Lk RX3 210 yX1_columnsWithMeanings := fun a U h => h.use a 285 (by decide +kernel) (by decide +kernel)
theorem yf_X1_indexes : YF yX1_indexes 0 := ⟨⟨by decide +kernel, by decide +kernel⟩, by decide +kernel⟩
theorem me_X1_indexes : MeV yX1_indexes cX1_indexes 4 (some .int) := fun a U h => ⟨h.use a 290 (by decide +kernel) (by decide +kernel), h.use a 291 (by decide +kernel) (by decide +kernel), h.use a 24 (by decide +kernel) (by decide +kernel), h.use a 292 (by decide +kernel) (by decide +kernel)⟩
theorem lk_X3_213 : Lk RX3 213 yX1_indexes := fun a U h => h.use a 289 (by decide +kernel) (by decide +kernel)
theorem yf_X1_movedTenants : YF yX1_movedTenants 0 := ⟨⟨by decide +kernel, by decide +kernel⟩, by decide +kernel⟩
theorem me_X1_movedTenants : MeV yX1_movedTenants cX1_movedTenants 3 (some .int) := fun a U h => ⟨h.use a 294 (by decide +kernel) (by decide +kernel), h.use a 295 (by decide +kernel) (by decide +kernel), h.use a 24 (by decide +kernel) (by decide +kernel), h.use a 296 (by decide +kernel) (by decide +kernel)⟩
theorem lk_X3_216 : Lk RX3 216 yX1_movedTenants := fun a U h => h.use a 293 (by decide +kernel) (by decide +kernel)
theorem fl_X3_179 : ∀ (a : Array Value) (U : State), Wd U → (Cond.fieldLink RX3 179 (TX3 5).1 (TX3 5).2.1 (TX3 5).2.2.1).before a U = true := fun a U h => h.use a 152 (by decide +kernel) (by decide +kernel)
theorem th_X3_272_276 : ∀ (a : Array Value) (U : State), Wd U → (Cond.classLink RX3 272 (en 2)).before a U = true ∧ (Cond.initialized (en 2)).before a U = true ∧ ∀ w ∈ vx_atS RX3 276 (en 2) ["java/lang/RuntimeException", "java/lang/Exception"], w.before a U = true := fun a U h => ⟨h.use a 316 (by decide +kernel) (by decide +kernel), h.use a 31 (by decide +kernel) (by decide +kernel), wd_list (by decide +kernel) a U h⟩
theorem th_X3_272_276_g : ∀ w ∈ Cond.classLink RX3 272 (en 2) :: Cond.initialized (en 2) :: vx_atS RX3 276 (en 2) ["java/lang/RuntimeException", "java/lang/Exception"], vx_ot w = true := by decide +kernel
theorem yf_X3_requireRow : YF yX3_requireRow 1 := ⟨⟨by decide +kernel, by decide +kernel⟩, by decide +kernel⟩
theorem me_X3_requireRow : MeV yX3_requireRow cX3_requireRow 2 none := fun a U h => ⟨h.use a 314 (by decide +kernel) (by decide +kernel), h.use a 1 (by decide +kernel) (by decide +kernel), h.use a 22 (by decide +kernel) (by decide +kernel), h.use a 315 (by decide +kernel) (by decide +kernel)⟩
theorem lk_X3_116 : Lk RX3 116 yX3_requireRow := fun a U h => h.use a 312 (by decide +kernel) (by decide +kernel)
theorem lk_X3_127 : Lk RX3 127 yX1_valueAt := fun a U h => h.use a 333 (by decide +kernel) (by decide +kernel)
theorem cn_X3_130 : ∀ (a : Array Value) (U : State), Wd U → (Cond.constant RX3 130 (-1000000)).before a U = true := fun a U h => h.use a 334 (by decide +kernel) (by decide +kernel)
theorem lk_X3_184 : Lk RX3 184 yX1_valuesIn := fun a U h => h.use a 332 (by decide +kernel) (by decide +kernel)
theorem fl_X3_134 : ∀ (a : Array Value) (U : State), Wd U → (Cond.fieldLink RX3 134 (TX1 1).1 (TX1 1).2.1 (TX1 1).2.2.1).before a U = true := fun a U h => h.use a 134 (by decide +kernel) (by decide +kernel)
theorem lk_X1_71 : Lk RX1 71 yX1_rowsOf := fun a U h => h.use a 343 (by decide +kernel) (by decide +kernel)
theorem yf_X1_rowsWith : YF yX1_rowsWith 3 := ⟨⟨by decide +kernel, by decide +kernel⟩, by decide +kernel⟩
theorem me_X1_rowsWith : MeV yX1_rowsWith cX1_rowsWith 6 (some .int) := fun a U h => ⟨h.use a 345 (by decide +kernel) (by decide +kernel), h.use a 346 (by decide +kernel) (by decide +kernel), h.use a 24 (by decide +kernel) (by decide +kernel), h.use a 347 (by decide +kernel) (by decide +kernel)⟩
theorem lk_X1_74 : Lk RX1 74 yX1_rowsWith := fun a U h => h.use a 344 (by decide +kernel) (by decide +kernel)
theorem yf_X1_standsAhead : YF yX1_standsAhead 3 := ⟨⟨by decide +kernel, by decide +kernel⟩, by decide +kernel⟩
theorem me_X1_standsAhead : MeV yX1_standsAhead cX1_standsAhead 6 (some .boolean) := fun a U h => ⟨h.use a 359 (by decide +kernel) (by decide +kernel), h.use a 2 (by decide +kernel) (by decide +kernel), h.use a 24 (by decide +kernel) (by decide +kernel), h.use a 360 (by decide +kernel) (by decide +kernel)⟩
theorem lk_X1_78 : Lk RX1 78 yX1_standsAhead := fun a U h => h.use a 357 (by decide +kernel) (by decide +kernel)
theorem fl_X3_86 : ∀ (a : Array Value) (U : State), Wd U → (Cond.fieldLink RX3 86 (TX2 0).1 (TX2 0).2.1 (TX2 0).2.2.1).before a U = true := fun a U h => h.use a 87 (by decide +kernel) (by decide +kernel)
theorem fl_X3_89 : ∀ (a : Array Value) (U : State), Wd U → (Cond.fieldLink RX3 89 (TX2 1).1 (TX2 1).2.1 (TX2 1).2.2.1).before a U = true := fun a U h => h.use a 90 (by decide +kernel) (by decide +kernel)
theorem fl_X3_92 : ∀ (a : Array Value) (U : State), Wd U → (Cond.fieldLink RX3 92 (TX2 2).1 (TX2 2).2.1 (TX2 2).2.2.1).before a U = true := fun a U h => h.use a 92 (by decide +kernel) (by decide +kernel)
theorem yf_X1_rowsWithValue : YF yX1_rowsWithValue 2 := ⟨⟨by decide +kernel, by decide +kernel⟩, by decide +kernel⟩
theorem me_X1_rowsWithValue : MeV yX1_rowsWithValue cX1_rowsWithValue 3 (some .int) := fun a U h => ⟨h.use a 340 (by decide +kernel) (by decide +kernel), h.use a 341 (by decide +kernel) (by decide +kernel), h.use a 24 (by decide +kernel) (by decide +kernel), h.use a 342 (by decide +kernel) (by decide +kernel)⟩
theorem lk_X3_74 : Lk RX3 74 yX1_rowsWithValue := fun a U h => h.use a 339 (by decide +kernel) (by decide +kernel)
theorem yf_X1_sumOf : YF yX1_sumOf 2 := ⟨⟨by decide +kernel, by decide +kernel⟩, by decide +kernel⟩
theorem me_X1_sumOf : MeV yX1_sumOf cX1_sumOf 6 (some .int) := fun a U h => ⟨h.use a 349 (by decide +kernel) (by decide +kernel), h.use a 350 (by decide +kernel) (by decide +kernel), h.use a 24 (by decide +kernel) (by decide +kernel), h.use a 351 (by decide +kernel) (by decide +kernel)⟩
theorem lk_X3_187 : Lk RX3 187 yX1_sumOf := fun a U h => h.use a 348 (by decide +kernel) (by decide +kernel)
theorem cn_X3_190 : ∀ (a : Array Value) (U : State), Wd U → (Cond.constant RX3 190 1000000).before a U = true := fun a U h => h.use a 352 (by decide +kernel) (by decide +kernel)
theorem yf_X1_unlikeValues : YF yX1_unlikeValues 2 := ⟨⟨by decide +kernel, by decide +kernel⟩, by decide +kernel⟩
theorem me_X1_unlikeValues : MeV yX1_unlikeValues cX1_unlikeValues 5 (some .int) := fun a U h => ⟨h.use a 354 (by decide +kernel) (by decide +kernel), h.use a 355 (by decide +kernel) (by decide +kernel), h.use a 24 (by decide +kernel) (by decide +kernel), h.use a 356 (by decide +kernel) (by decide +kernel)⟩
theorem lk_X3_191 : Lk RX3 191 yX1_unlikeValues := fun a U h => h.use a 353 (by decide +kernel) (by decide +kernel)
theorem fl_X3_145 : ∀ (a : Array Value) (U : State), Wd U → (Cond.fieldLink RX3 145 (TX3 6).1 (TX3 6).2.1 (TX3 6).2.2.1).before a U = true := fun a U h => h.use a 153 (by decide +kernel) (by decide +kernel)
theorem fl_X3_15 : ∀ (a : Array Value) (U : State), Wd U → (Cond.fieldLink RX3 15 (TX3 1).1 (TX3 1).2.1 (TX3 1).2.2.1).before a U = true := fun a U h => h.use a 148 (by decide +kernel) (by decide +kernel)
theorem th_X3_148_152 : ∀ (a : Array Value) (U : State), Wd U → (Cond.classLink RX3 148 (en 1)).before a U = true ∧ (Cond.initialized (en 1)).before a U = true ∧ ∀ w ∈ vx_atS RX3 152 (en 1) ["java/lang/RuntimeException", "java/lang/Exception"], w.before a U = true := fun a U h => ⟨h.use a 372 (by decide +kernel) (by decide +kernel), h.use a 32 (by decide +kernel) (by decide +kernel), wd_list (by decide +kernel) a U h⟩
theorem th_X3_148_152_g : ∀ w ∈ Cond.classLink RX3 148 (en 1) :: Cond.initialized (en 1) :: vx_atS RX3 152 (en 1) ["java/lang/RuntimeException", "java/lang/Exception"], vx_ot w = true := by decide +kernel
theorem fl_X0_21 : ∀ (a : Array Value) (U : State), Wd U → (Cond.fieldLink RX0 21 (TX0 3).1 (TX0 3).2.1 (TX0 3).2.2.1).before a U = true := fun a U h => h.use a 56 (by decide +kernel) (by decide +kernel)
theorem fl_X0_9 : ∀ (a : Array Value) (U : State), Wd U → (Cond.fieldLink RX0 9 (TX0 0).1 (TX0 0).2.1 (TX0 0).2.2.1).before a U = true := fun a U h => h.use a 50 (by decide +kernel) (by decide +kernel)
theorem fl_X0_15 : ∀ (a : Array Value) (U : State), Wd U → (Cond.fieldLink RX0 15 (TX0 1).1 (TX0 1).2.1 (TX0 1).2.2.1).before a U = true := fun a U h => h.use a 52 (by decide +kernel) (by decide +kernel)
theorem fl_X0_18 : ∀ (a : Array Value) (U : State), Wd U → (Cond.fieldLink RX0 18 (TX0 2).1 (TX0 2).2.1 (TX0 2).2.2.1).before a U = true := fun a U h => h.use a 54 (by decide +kernel) (by decide +kernel)
theorem fl_X0_51 : ∀ (a : Array Value) (U : State), Wd U → (Cond.fieldLink RX0 51 (TX0 5).1 (TX0 5).2.1 (TX0 5).2.2.1).before a U = true := fun a U h => h.use a 59 (by decide +kernel) (by decide +kernel)
theorem fl_X0_25 : ∀ (a : Array Value) (U : State), Wd U → (Cond.fieldLink RX0 25 (TX0 4).1 (TX0 4).2.1 (TX0 4).2.2.1).before a U = true := fun a U h => h.use a 58 (by decide +kernel) (by decide +kernel)
theorem lk_X0_55 : ∀ (a : Array Value) (U : State), Wd U → (Cond.methodLink RX0 55 Lib.Math.abs.name).before a U = true ∧ (Cond.static Lib.Math.abs.name).before a U = true ∧ (Cond.initialized "java/lang/Math").before a U = true ∧ (Cond.code Lib.Math.abs.name Lib.Math.abs.code 1 (some .int)).before a U = true := fun a U h => ⟨h.use a 431 (by decide +kernel) (by decide +kernel), h.use a 432 (by decide +kernel) (by decide +kernel), h.use a 33 (by decide +kernel) (by decide +kernel), h.use a 433 (by decide +kernel) (by decide +kernel)⟩
theorem yf_X0_takeLetter : YF yX0_takeLetter 1 := ⟨⟨by decide +kernel, by decide +kernel⟩, by decide +kernel⟩
theorem me_X0_takeLetter : MeV yX0_takeLetter cX0_takeLetter 2 (some .boolean) := fun a U h => ⟨h.use a 409 (by decide +kernel) (by decide +kernel), h.use a 5 (by decide +kernel) (by decide +kernel), h.use a 23 (by decide +kernel) (by decide +kernel), h.use a 410 (by decide +kernel) (by decide +kernel)⟩
theorem lk_X0_32 : Lk RX0 32 yX0_takeLetter := fun a U h => h.use a 407 (by decide +kernel) (by decide +kernel)
theorem yf_X0_takeSign : YF yX0_takeSign 1 := ⟨⟨by decide +kernel, by decide +kernel⟩, by decide +kernel⟩
theorem me_X0_takeSign : MeV yX0_takeSign cX0_takeSign 2 (some .boolean) := fun a U h => ⟨h.use a 413 (by decide +kernel) (by decide +kernel), h.use a 6 (by decide +kernel) (by decide +kernel), h.use a 23 (by decide +kernel) (by decide +kernel), h.use a 414 (by decide +kernel) (by decide +kernel)⟩
theorem lk_X0_35 : Lk RX0 35 yX0_takeSign := fun a U h => h.use a 411 (by decide +kernel) (by decide +kernel)
theorem yf_X0_takeMinus : YF yX0_takeMinus 1 := ⟨⟨by decide +kernel, by decide +kernel⟩, by decide +kernel⟩
theorem me_X0_takeMinus : MeV yX0_takeMinus cX0_takeMinus 2 (some .boolean) := fun a U h => ⟨h.use a 417 (by decide +kernel) (by decide +kernel), h.use a 7 (by decide +kernel) (by decide +kernel), h.use a 23 (by decide +kernel) (by decide +kernel), h.use a 418 (by decide +kernel) (by decide +kernel)⟩
theorem lk_X0_38 : Lk RX0 38 yX0_takeMinus := fun a U h => h.use a 415 (by decide +kernel) (by decide +kernel)
theorem yf_X0_takeDigit : YF yX0_takeDigit 1 := ⟨⟨by decide +kernel, by decide +kernel⟩, by decide +kernel⟩
theorem me_X0_takeDigit : MeV yX0_takeDigit cX0_takeDigit 3 (some .boolean) := fun a U h => ⟨h.use a 421 (by decide +kernel) (by decide +kernel), h.use a 8 (by decide +kernel) (by decide +kernel), h.use a 23 (by decide +kernel) (by decide +kernel), h.use a 422 (by decide +kernel) (by decide +kernel)⟩
theorem lk_X0_41 : Lk RX0 41 yX0_takeDigit := fun a U h => h.use a 419 (by decide +kernel) (by decide +kernel)
theorem yf_X0_takeAnd : YF yX0_takeAnd 1 := ⟨⟨by decide +kernel, by decide +kernel⟩, by decide +kernel⟩
theorem me_X0_takeAnd : MeV yX0_takeAnd cX0_takeAnd 2 (some .boolean) := fun a U h => ⟨h.use a 425 (by decide +kernel) (by decide +kernel), h.use a 9 (by decide +kernel) (by decide +kernel), h.use a 23 (by decide +kernel) (by decide +kernel), h.use a 426 (by decide +kernel) (by decide +kernel)⟩
theorem lk_X0_44 : Lk RX0 44 yX0_takeAnd := fun a U h => h.use a 423 (by decide +kernel) (by decide +kernel)
theorem yf_X0_mayGrow : YF yX0_mayGrow 0 := ⟨⟨by decide +kernel, by decide +kernel⟩, by decide +kernel⟩
theorem me_X0_mayGrow : MeV yX0_mayGrow cX0_mayGrow 2 (some .boolean) := fun a U h => ⟨h.use a 429 (by decide +kernel) (by decide +kernel), h.use a 10 (by decide +kernel) (by decide +kernel), h.use a 23 (by decide +kernel) (by decide +kernel), h.use a 430 (by decide +kernel) (by decide +kernel)⟩
theorem lk_X0_47 : Lk RX0 47 yX0_mayGrow := fun a U h => h.use a 427 (by decide +kernel) (by decide +kernel)
theorem yf_X0_take : YF yX0_take 1 := ⟨⟨by decide +kernel, by decide +kernel⟩, by decide +kernel⟩
theorem me_X0_take : MeV yX0_take cX0_take 2 (some .boolean) := fun a U h => ⟨h.use a 405 (by decide +kernel) (by decide +kernel), h.use a 4 (by decide +kernel) (by decide +kernel), h.use a 23 (by decide +kernel) (by decide +kernel), h.use a 406 (by decide +kernel) (by decide +kernel)⟩
theorem lk_X0_28 : Lk RX0 28 yX0_take := fun a U h => h.use a 403 (by decide +kernel) (by decide +kernel)
theorem fl_X3_22 : ∀ (a : Array Value) (U : State), Wd U → (Cond.fieldLink RX3 22 (TX3 2).1 (TX3 2).2.1 (TX3 2).2.2.1).before a U = true := fun a U h => h.use a 149 (by decide +kernel) (by decide +kernel)
theorem yf_X0_read : YF yX0_read 2 := ⟨⟨by decide +kernel, by decide +kernel⟩, by decide +kernel⟩
theorem me_X0_read : MeV yX0_read cX0_read 4 (some .int) := fun a U h => ⟨h.use a 400 (by decide +kernel) (by decide +kernel), h.use a 401 (by decide +kernel) (by decide +kernel), h.use a 23 (by decide +kernel) (by decide +kernel), h.use a 402 (by decide +kernel) (by decide +kernel)⟩
theorem lk_X3_155 : Lk RX3 155 yX0_read := fun a U h => h.use a 399 (by decide +kernel) (by decide +kernel)
theorem yf_X0_isWhole : YF yX0_isWhole 0 := ⟨⟨by decide +kernel, by decide +kernel⟩, by decide +kernel⟩
theorem me_X0_isWhole : MeV yX0_isWhole cX0_isWhole 1 (some .boolean) := fun a U h => ⟨h.use a 435 (by decide +kernel) (by decide +kernel), h.use a 436 (by decide +kernel) (by decide +kernel), h.use a 23 (by decide +kernel) (by decide +kernel), h.use a 437 (by decide +kernel) (by decide +kernel)⟩
theorem lk_X3_280 : Lk RX3 280 yX0_isWhole := fun a U h => h.use a 434 (by decide +kernel) (by decide +kernel)
theorem fl_X3_287 : ∀ (a : Array Value) (U : State), Wd U → (Cond.fieldLink RX3 287 (TX0 3).1 (TX0 3).2.1 (TX0 3).2.2.1).before a U = true := fun a U h => h.use a 57 (by decide +kernel) (by decide +kernel)
theorem fl_X3_290 : ∀ (a : Array Value) (U : State), Wd U → (Cond.fieldLink RX3 290 (TX0 0).1 (TX0 0).2.1 (TX0 0).2.2.1).before a U = true := fun a U h => h.use a 51 (by decide +kernel) (by decide +kernel)
theorem yf_X2_columnOf : YF yX2_columnOf 1 := ⟨⟨by decide +kernel, by decide +kernel⟩, by decide +kernel⟩
theorem me_X2_columnOf : MeV yX2_columnOf cX2_columnOf 3 (some .int) := fun a U h => ⟨h.use a 447 (by decide +kernel) (by decide +kernel), h.use a 448 (by decide +kernel) (by decide +kernel), h.use a 25 (by decide +kernel) (by decide +kernel), h.use a 449 (by decide +kernel) (by decide +kernel)⟩
theorem lk_X3_67 : Lk RX3 67 yX2_columnOf := fun a U h => h.use a 446 (by decide +kernel) (by decide +kernel)
theorem yf_X0_allows : YF yX0_allows 2 := ⟨⟨by decide +kernel, by decide +kernel⟩, by decide +kernel⟩
theorem me_X0_allows : MeV yX0_allows cX0_allows 3 (some .boolean) := fun a U h => ⟨h.use a 451 (by decide +kernel) (by decide +kernel), h.use a 452 (by decide +kernel) (by decide +kernel), h.use a 23 (by decide +kernel) (by decide +kernel), h.use a 453 (by decide +kernel) (by decide +kernel)⟩
theorem lk_X3_291 : Lk RX3 291 yX0_allows := fun a U h => h.use a 450 (by decide +kernel) (by decide +kernel)
theorem yf_X3_isAnswer : YF yX3_isAnswer 2 := ⟨⟨by decide +kernel, by decide +kernel⟩, by decide +kernel⟩
theorem me_X3_isAnswer : MeV yX3_isAnswer cX3_isAnswer 5 (some .boolean) := fun a U h => ⟨h.use a 444 (by decide +kernel) (by decide +kernel), h.use a 12 (by decide +kernel) (by decide +kernel), h.use a 22 (by decide +kernel) (by decide +kernel), h.use a 445 (by decide +kernel) (by decide +kernel)⟩
theorem lk_X3_283 : Lk RX3 283 yX3_isAnswer := fun a U h => h.use a 442 (by decide +kernel) (by decide +kernel)
theorem fl_X3_26 : ∀ (a : Array Value) (U : State), Wd U → (Cond.fieldLink RX3 26 (TX3 3).1 (TX3 3).2.1 (TX3 3).2.2.1).before a U = true := fun a U h => h.use a 150 (by decide +kernel) (by decide +kernel)
theorem yf_X3_comesBefore : YF yX3_comesBefore 3 := ⟨⟨by decide +kernel, by decide +kernel⟩, by decide +kernel⟩
theorem me_X3_comesBefore : MeV yX3_comesBefore cX3_comesBefore 6 (some .boolean) := fun a U h => ⟨h.use a 460 (by decide +kernel) (by decide +kernel), h.use a 14 (by decide +kernel) (by decide +kernel), h.use a 22 (by decide +kernel) (by decide +kernel), h.use a 461 (by decide +kernel) (by decide +kernel)⟩
theorem lk_X3_294 : Lk RX3 294 yX3_comesBefore := fun a U h => h.use a 458 (by decide +kernel) (by decide +kernel)
theorem yf_X3_readQuestion : YF yX3_readQuestion 0 := ⟨⟨by decide +kernel, by decide +kernel⟩, by decide +kernel⟩
theorem me_X3_readQuestion : MeV yX3_readQuestion cX3_readQuestion 1 (some .boolean) := fun a U h => ⟨h.use a 397 (by decide +kernel) (by decide +kernel), h.use a 3 (by decide +kernel) (by decide +kernel), h.use a 22 (by decide +kernel) (by decide +kernel), h.use a 398 (by decide +kernel) (by decide +kernel)⟩
theorem lk_X3_159 : Lk RX3 159 yX3_readQuestion := fun a U h => h.use a 395 (by decide +kernel) (by decide +kernel)
theorem yf_X3_collectAnswers : YF yX3_collectAnswers 1 := ⟨⟨by decide +kernel, by decide +kernel⟩, by decide +kernel⟩
theorem me_X3_collectAnswers : MeV yX3_collectAnswers cX3_collectAnswers 4 (some .int) := fun a U h => ⟨h.use a 440 (by decide +kernel) (by decide +kernel), h.use a 11 (by decide +kernel) (by decide +kernel), h.use a 22 (by decide +kernel) (by decide +kernel), h.use a 441 (by decide +kernel) (by decide +kernel)⟩
theorem lk_X3_163 : Lk RX3 163 yX3_collectAnswers := fun a U h => h.use a 438 (by decide +kernel) (by decide +kernel)
theorem yf_X3_answerAt : YF yX3_answerAt 2 := ⟨⟨by decide +kernel, by decide +kernel⟩, by decide +kernel⟩
theorem me_X3_answerAt : MeV yX3_answerAt cX3_answerAt 3 (some .int) := fun a U h => ⟨h.use a 464 (by decide +kernel) (by decide +kernel), h.use a 15 (by decide +kernel) (by decide +kernel), h.use a 22 (by decide +kernel) (by decide +kernel), h.use a 465 (by decide +kernel) (by decide +kernel)⟩
theorem lk_X3_201 : Lk RX3 201 yX3_answerAt := fun a U h => h.use a 462 (by decide +kernel) (by decide +kernel)
theorem yf_X3_sortAnswers : YF yX3_sortAnswers 2 := ⟨⟨by decide +kernel, by decide +kernel⟩, by decide +kernel⟩
theorem me_X3_sortAnswers : MeV yX3_sortAnswers cX3_sortAnswers 6 none := fun a U h => ⟨h.use a 456 (by decide +kernel) (by decide +kernel), h.use a 13 (by decide +kernel) (by decide +kernel), h.use a 22 (by decide +kernel) (by decide +kernel), h.use a 457 (by decide +kernel) (by decide +kernel)⟩
theorem lk_X3_197 : Lk RX3 197 yX3_sortAnswers := fun a U h => h.use a 454 (by decide +kernel) (by decide +kernel)
theorem yf_X3_isLetter : YF yX3_isLetter 1 := ⟨⟨by decide +kernel, by decide +kernel⟩, by decide +kernel⟩
theorem me_X3_isLetter : MeS yX3_isLetter cX3_isLetter 1 (some .boolean) := fun a U h => ⟨h.use a 393 (by decide +kernel) (by decide +kernel), h.use a 22 (by decide +kernel) (by decide +kernel), h.use a 394 (by decide +kernel) (by decide +kernel)⟩
theorem lk_X3_38 : Lk RX3 38 yX3_isLetter := fun a U h => h.use a 392 (by decide +kernel) (by decide +kernel)
theorem fl_X3_298 : ∀ (a : Array Value) (U : State), Wd U → (Cond.fieldLink RX3 298 (TX0 1).1 (TX0 1).2.1 (TX0 1).2.2.1).before a U = true := fun a U h => h.use a 53 (by decide +kernel) (by decide +kernel)
theorem fl_X3_301 : ∀ (a : Array Value) (U : State), Wd U → (Cond.fieldLink RX3 301 (TX0 2).1 (TX0 2).2.1 (TX0 2).2.2.1).before a U = true := fun a U h => h.use a 55 (by decide +kernel) (by decide +kernel)
theorem lk_X3_304 : Lk RX3 304 yX1_rowsWith := fun a U h => h.use a 474 (by decide +kernel) (by decide +kernel)
theorem lk_X3_307 : ∀ (a : Array Value) (U : State), Wd U → (Cond.methodLink RX3 307 Lib.Math.min.name).before a U = true ∧ (Cond.static Lib.Math.min.name).before a U = true ∧ (Cond.initialized "java/lang/Math").before a U = true ∧ (Cond.code Lib.Math.min.name Lib.Math.min.code 2 (some .int)).before a U = true := fun a U h => ⟨h.use a 475 (by decide +kernel) (by decide +kernel), h.use a 476 (by decide +kernel) (by decide +kernel), h.use a 33 (by decide +kernel) (by decide +kernel), h.use a 477 (by decide +kernel) (by decide +kernel)⟩
theorem yf_X3_rowsToLookAt : YF yX3_rowsToLookAt 3 := ⟨⟨by decide +kernel, by decide +kernel⟩, by decide +kernel⟩
theorem me_X3_rowsToLookAt : MeV yX3_rowsToLookAt cX3_rowsToLookAt 9 (some .int) := fun a U h => ⟨h.use a 472 (by decide +kernel) (by decide +kernel), h.use a 16 (by decide +kernel) (by decide +kernel), h.use a 22 (by decide +kernel) (by decide +kernel), h.use a 473 (by decide +kernel) (by decide +kernel)⟩
theorem lk_X3_172 : Lk RX3 172 yX3_rowsToLookAt := fun a U h => h.use a 470 (by decide +kernel) (by decide +kernel)
theorem fl_X2_15 : ∀ (a : Array Value) (U : State), Wd U → (Cond.fieldLink RX2 15 (TX2 1).1 (TX2 1).2.1 (TX2 1).2.2.1).before a U = true := fun a U h => h.use a 89 (by decide +kernel) (by decide +kernel)
theorem fl_X2_18 : ∀ (a : Array Value) (U : State), Wd U → (Cond.fieldLink RX2 18 (TX2 2).1 (TX2 2).2.1 (TX2 2).2.2.1).before a U = true := fun a U h => h.use a 91 (by decide +kernel) (by decide +kernel)
theorem fl_X2_22 : ∀ (a : Array Value) (U : State), Wd U → (Cond.fieldLink RX2 22 (TX2 3).1 (TX2 3).2.1 (TX2 3).2.2.1).before a U = true := fun a U h => h.use a 94 (by decide +kernel) (by decide +kernel)
theorem fl_X2_26 : ∀ (a : Array Value) (U : State), Wd U → (Cond.fieldLink RX2 26 (TX2 4).1 (TX2 4).2.1 (TX2 4).2.2.1).before a U = true := fun a U h => h.use a 96 (by decide +kernel) (by decide +kernel)
theorem fl_X2_33 : ∀ (a : Array Value) (U : State), Wd U → (Cond.fieldLink RX2 33 (TX2 5).1 (TX2 5).2.1 (TX2 5).2.2.1).before a U = true := fun a U h => h.use a 98 (by decide +kernel) (by decide +kernel)
theorem fl_X2_37 : ∀ (a : Array Value) (U : State), Wd U → (Cond.fieldLink RX2 37 (TX2 6).1 (TX2 6).2.1 (TX2 6).2.2.1).before a U = true := fun a U h => h.use a 101 (by decide +kernel) (by decide +kernel)
theorem fl_X2_40 : ∀ (a : Array Value) (U : State), Wd U → (Cond.fieldLink RX2 40 (TX2 7).1 (TX2 7).2.1 (TX2 7).2.2.1).before a U = true := fun a U h => h.use a 103 (by decide +kernel) (by decide +kernel)
theorem fl_X2_43 : ∀ (a : Array Value) (U : State), Wd U → (Cond.fieldLink RX2 43 (TX2 8).1 (TX2 8).2.1 (TX2 8).2.2.1).before a U = true := fun a U h => h.use a 105 (by decide +kernel) (by decide +kernel)
theorem fl_X2_46 : ∀ (a : Array Value) (U : State), Wd U → (Cond.fieldLink RX2 46 (TX2 9).1 (TX2 9).2.1 (TX2 9).2.2.1).before a U = true := fun a U h => h.use a 107 (by decide +kernel) (by decide +kernel)
theorem yf_X2_define : YF yX2_define 4 := ⟨⟨by decide +kernel, by decide +kernel⟩, by decide +kernel⟩
theorem me_X2_define : MeV yX2_define cX2_define 5 none := fun a U h => ⟨h.use a 495 (by decide +kernel) (by decide +kernel), h.use a 496 (by decide +kernel) (by decide +kernel), h.use a 25 (by decide +kernel) (by decide +kernel), h.use a 497 (by decide +kernel) (by decide +kernel)⟩
theorem lk_X2_29 : Lk RX2 29 yX2_define := fun a U h => h.use a 494 (by decide +kernel) (by decide +kernel)
theorem lk_X1_33 : ∀ (a : Array Value) (U : State), Wd U → (Cond.methodLink RX1 33 arraycopyName).before a U = true ∧ (Cond.native arraycopyName).before a U = true ∧ (Cond.static arraycopyName).before a U = true ∧ (Cond.initialized "java/lang/System").before a U = true := fun a U h => ⟨h.use a 498 (by decide +kernel) (by decide +kernel), h.use a 500 (by decide +kernel) (by decide +kernel), h.use a 499 (by decide +kernel) (by decide +kernel), h.use a 30 (by decide +kernel) (by decide +kernel)⟩
theorem yf_X2_copyFrom : YF yX2_copyFrom 1 := ⟨⟨by decide +kernel, by decide +kernel⟩, by decide +kernel⟩
theorem me_X2_copyFrom : MeV yX2_copyFrom cX2_copyFrom 3 none := fun a U h => ⟨h.use a 491 (by decide +kernel) (by decide +kernel), h.use a 492 (by decide +kernel) (by decide +kernel), h.use a 25 (by decide +kernel) (by decide +kernel), h.use a 493 (by decide +kernel) (by decide +kernel)⟩
theorem lk_X1_25 : Lk RX1 25 yX2_copyFrom := fun a U h => h.use a 490 (by decide +kernel) (by decide +kernel)
theorem fl_X3_11 : ∀ (a : Array Value) (U : State), Wd U → (Cond.fieldLink RX3 11 (TX3 0).1 (TX3 0).2.1 (TX3 0).2.2.1).before a U = true := fun a U h => h.use a 147 (by decide +kernel) (by decide +kernel)
theorem yf_X1_copyFrom : YF yX1_copyFrom 1 := ⟨⟨by decide +kernel, by decide +kernel⟩, by decide +kernel⟩
theorem me_X1_copyFrom : MeV yX1_copyFrom cX1_copyFrom 3 none := fun a U h => ⟨h.use a 487 (by decide +kernel) (by decide +kernel), h.use a 488 (by decide +kernel) (by decide +kernel), h.use a 24 (by decide +kernel) (by decide +kernel), h.use a 489 (by decide +kernel) (by decide +kernel)⟩
theorem lk_X3_277 : Lk RX3 277 yX1_copyFrom := fun a U h => h.use a 486 (by decide +kernel) (by decide +kernel)
theorem yf_X3_save : YF yX3_save 0 := ⟨⟨by decide +kernel, by decide +kernel⟩, by decide +kernel⟩
theorem me_X3_save : MeV yX3_save cX3_save 3 (some (.object RX1)) := fun a U h => ⟨h.use a 484 (by decide +kernel) (by decide +kernel), h.use a 17 (by decide +kernel) (by decide +kernel), h.use a 22 (by decide +kernel) (by decide +kernel), h.use a 485 (by decide +kernel) (by decide +kernel)⟩
theorem lk_X3_45 : Lk RX3 45 yX3_save := fun a U h => h.use a 482 (by decide +kernel) (by decide +kernel)
theorem yf_X3_bestLetter : YF yX3_bestLetter 1 := ⟨⟨by decide +kernel, by decide +kernel⟩, by decide +kernel⟩
theorem me_X3_bestLetter : MeV yX3_bestLetter cX3_bestLetter 9 (some .int) := fun a U h => ⟨h.use a 507 (by decide +kernel) (by decide +kernel), h.use a 18 (by decide +kernel) (by decide +kernel), h.use a 22 (by decide +kernel) (by decide +kernel), h.use a 508 (by decide +kernel) (by decide +kernel)⟩
theorem lk_X3_219 : Lk RX3 219 yX3_bestLetter := fun a U h => h.use a 505 (by decide +kernel) (by decide +kernel)
theorem lk_X3_70 : Lk RX3 70 yX2_define := fun a U h => h.use a 524 (by decide +kernel) (by decide +kernel)
theorem yf_X2_refuse : YF yX2_refuse 1 := ⟨⟨by decide +kernel, by decide +kernel⟩, by decide +kernel⟩
theorem me_X2_refuse : MeV yX2_refuse cX2_refuse 2 (some .int) := fun a U h => ⟨h.use a 521 (by decide +kernel) (by decide +kernel), h.use a 522 (by decide +kernel) (by decide +kernel), h.use a 25 (by decide +kernel) (by decide +kernel), h.use a 523 (by decide +kernel) (by decide +kernel)⟩
theorem lk_X3_63 : Lk RX3 63 yX2_refuse := fun a U h => h.use a 520 (by decide +kernel) (by decide +kernel)
theorem yf_X1_setValue : YF yX1_setValue 3 := ⟨⟨by decide +kernel, by decide +kernel⟩, by decide +kernel⟩
theorem me_X1_setValue : MeV yX1_setValue cX1_setValue 4 none := fun a U h => ⟨h.use a 534 (by decide +kernel) (by decide +kernel), h.use a 535 (by decide +kernel) (by decide +kernel), h.use a 24 (by decide +kernel) (by decide +kernel), h.use a 536 (by decide +kernel) (by decide +kernel)⟩
theorem lk_X1_44 : Lk RX1 44 yX1_setValue := fun a U h => h.use a 533 (by decide +kernel) (by decide +kernel)
theorem yf_X1_shiftValues : YF yX1_shiftValues 3 := ⟨⟨by decide +kernel, by decide +kernel⟩, by decide +kernel⟩
theorem me_X1_shiftValues : MeV yX1_shiftValues cX1_shiftValues 5 none := fun a U h => ⟨h.use a 530 (by decide +kernel) (by decide +kernel), h.use a 531 (by decide +kernel) (by decide +kernel), h.use a 24 (by decide +kernel) (by decide +kernel), h.use a 532 (by decide +kernel) (by decide +kernel)⟩
theorem lk_X3_78 : Lk RX3 78 yX1_shiftValues := fun a U h => h.use a 529 (by decide +kernel) (by decide +kernel)
theorem yf_X2_makeSpare : YF yX2_makeSpare 1 := ⟨⟨by decide +kernel, by decide +kernel⟩, by decide +kernel⟩
theorem me_X2_makeSpare : MeV yX2_makeSpare cX2_makeSpare 2 none := fun a U h => ⟨h.use a 538 (by decide +kernel) (by decide +kernel), h.use a 539 (by decide +kernel) (by decide +kernel), h.use a 25 (by decide +kernel) (by decide +kernel), h.use a 540 (by decide +kernel) (by decide +kernel)⟩
theorem lk_X3_82 : Lk RX3 82 yX2_makeSpare := fun a U h => h.use a 537 (by decide +kernel) (by decide +kernel)
theorem yf_X1_tableOf : YF yX1_tableOf 1 := ⟨⟨by decide +kernel, by decide +kernel⟩, by decide +kernel⟩
theorem me_X1_tableOf : MeV yX1_tableOf cX1_tableOf 2 (some .int) := fun a U h => ⟨h.use a 559 (by decide +kernel) (by decide +kernel), h.use a 19 (by decide +kernel) (by decide +kernel), h.use a 24 (by decide +kernel) (by decide +kernel), h.use a 560 (by decide +kernel) (by decide +kernel)⟩
theorem lk_X1_48 : Lk RX1 48 yX1_tableOf := fun a U h => h.use a 557 (by decide +kernel) (by decide +kernel)
theorem yf_X1_insertRow : YF yX1_insertRow 1 := ⟨⟨by decide +kernel, by decide +kernel⟩, by decide +kernel⟩
theorem me_X1_insertRow : MeV yX1_insertRow cX1_insertRow 4 (some .int) := fun a U h => ⟨h.use a 554 (by decide +kernel) (by decide +kernel), h.use a 555 (by decide +kernel) (by decide +kernel), h.use a 24 (by decide +kernel) (by decide +kernel), h.use a 556 (by decide +kernel) (by decide +kernel)⟩
theorem lk_X3_113 : Lk RX3 113 yX1_insertRow := fun a U h => h.use a 553 (by decide +kernel) (by decide +kernel)
theorem lk_X3_119 : Lk RX3 119 yX1_ownerOf := fun a U h => h.use a 565 (by decide +kernel) (by decide +kernel)
theorem yf_X3_fits : YF yX3_fits 2 := ⟨⟨by decide +kernel, by decide +kernel⟩, by decide +kernel⟩
theorem me_X3_fits : MeS yX3_fits cX3_fits 2 (some .boolean) := fun a U h => ⟨h.use a 567 (by decide +kernel) (by decide +kernel), h.use a 22 (by decide +kernel) (by decide +kernel), h.use a 568 (by decide +kernel) (by decide +kernel)⟩
theorem lk_X3_123 : Lk RX3 123 yX3_fits := fun a U h => h.use a 566 (by decide +kernel) (by decide +kernel)
theorem lk_X3_131 : Lk RX3 131 yX1_setValue := fun a U h => h.use a 569 (by decide +kernel) (by decide +kernel)
theorem yf_X1_copyRow : YF yX1_copyRow 3 := ⟨⟨by decide +kernel, by decide +kernel⟩, by decide +kernel⟩
theorem me_X1_copyRow : MeV yX1_copyRow cX1_copyRow 4 none := fun a U h => ⟨h.use a 580 (by decide +kernel) (by decide +kernel), h.use a 20 (by decide +kernel) (by decide +kernel), h.use a 24 (by decide +kernel) (by decide +kernel), h.use a 581 (by decide +kernel) (by decide +kernel)⟩
theorem lk_X1_52 : Lk RX1 52 yX1_copyRow := fun a U h => h.use a 578 (by decide +kernel) (by decide +kernel)
theorem yf_X1_removeRows : YF yX1_removeRows 2 := ⟨⟨by decide +kernel, by decide +kernel⟩, by decide +kernel⟩
theorem me_X1_removeRows : MeV yX1_removeRows cX1_removeRows 6 none := fun a U h => ⟨h.use a 575 (by decide +kernel) (by decide +kernel), h.use a 576 (by decide +kernel) (by decide +kernel), h.use a 24 (by decide +kernel) (by decide +kernel), h.use a 577 (by decide +kernel) (by decide +kernel)⟩
theorem lk_X3_137 : Lk RX3 137 yX1_removeRows := fun a U h => h.use a 574 (by decide +kernel) (by decide +kernel)
theorem yf_X1_orderRowsOf : YF yX1_orderRowsOf 1 := ⟨⟨by decide +kernel, by decide +kernel⟩, by decide +kernel⟩
theorem me_X1_orderRowsOf : MeV yX1_orderRowsOf cX1_orderRowsOf 4 none := fun a U h => ⟨h.use a 587 (by decide +kernel) (by decide +kernel), h.use a 588 (by decide +kernel) (by decide +kernel), h.use a 24 (by decide +kernel) (by decide +kernel), h.use a 589 (by decide +kernel) (by decide +kernel)⟩
theorem lk_X3_141 : Lk RX3 141 yX1_orderRowsOf := fun a U h => h.use a 586 (by decide +kernel) (by decide +kernel)
end
section
/-! functions read off the bytecode (written by dec.py) -/
def fu : Nat := 10000
def J_X3_isTenant_14  (v1 : Int32) : Option Int32 :=
  ck (isB v1) (some v1)
def J_X3_isTenant_13   : Option Int32 :=
  J_X3_isTenant_14 0
def F_X3_isTenant (p1 : Int32) (m0 : Mem) : Option Int32 :=
  (if p1 < 0 then J_X3_isTenant_13 else (if 3 ≤ p1 then J_X3_isTenant_13 else J_X3_isTenant_14 1))
def F_X3_require (p1 : Int32) (m0 : Mem) : Option (Unit ⊕ Nat) :=
  (if p1 = 0 then some (.inr 0) else some (.inl ()))
def J_X3_asNumber_9  (v1 : Int32) : Option Int32 :=
  some v1
def F_X3_asNumber (p1 : Int32) (m0 : Mem) : Option Int32 :=
  (if p1 = 0 then J_X3_asNumber_9 0 else J_X3_asNumber_9 1)
def C_X1_rowsOf_39  (v1 : Int32) : Option Int32 :=
  some v1
def J_X1_rowsOf_28 (m0 : Mem) (v3 : Int32) (v4 : Int32) (kb4_5 : Int32 → Int32 → Option Int32) (v9 : Int32) : Option Int32 :=
  bo (F_X3_asNumber v9 m0) fun v11 => bd (v3 + v11) fun v12 => bd (v4 + 1) fun v13 => kb4_5 v12 v13
def L_X1_rowsOf_4 (i0 : Nat) (p1 : Int32) (m0 : Mem) : Nat → Int32 → Int32 → Option Int32
  | 0, _, _ => none
  | n6 + 1, v3, v4 => bd (m0.1 (1, i0, 0, 0) 3) fun v7 => (if v7 ≤ v4 then C_X1_rowsOf_39 v3 else ck (ib v4 120) (bd (m0.1 (1, i0, 0, 2) (Int32.toNatClampNeg v4)) fun v8 => (if v8 = p1 then (J_X1_rowsOf_28 m0 v3 v4 (fun w0 w1 => L_X1_rowsOf_4 i0 p1 m0 n6 w0 w1)) 1 else (J_X1_rowsOf_28 m0 v3 v4 (fun w0 w1 => L_X1_rowsOf_4 i0 p1 m0 n6 w0 w1)) 0)))
def F_X1_rowsOf (i0 : Nat) (p1 : Int32) (m0 : Mem) : Option Int32 :=
  L_X1_rowsOf_4 i0 p1 m0 fu 0 0
def C_X2_meanings_37  (v1 : Int32) : Option Int32 :=
  some v1
def J_X2_meanings_26 (m0 : Mem) (v3 : Int32) (v4 : Int32) (kb4_5 : Int32 → Int32 → Option Int32) (v8 : Int32) : Option Int32 :=
  bo (F_X3_asNumber v8 m0) fun v10 => bd (v3 + v10) fun v11 => bd (v4 + 1) fun v12 => kb4_5 v11 v12
def L_X2_meanings_4 (i0 : Nat) (j0 : Nat) (m0 : Mem) : Nat → Int32 → Int32 → Option Int32
  | 0, _, _ => none
  | n6 + 1, v3, v4 => (if 8 ≤ v4 then C_X2_meanings_37 v3 else ck (ib v4 8) (bd (m0.1 (2, i0, j0, 1) (Int32.toNatClampNeg v4)) fun v7 => (if v7 = (-1) then (J_X2_meanings_26 m0 v3 v4 (fun w0 w1 => L_X2_meanings_4 i0 j0 m0 n6 w0 w1)) 0 else (J_X2_meanings_26 m0 v3 v4 (fun w0 w1 => L_X2_meanings_4 i0 j0 m0 n6 w0 w1)) 1)))
def F_X2_meanings (i0 : Nat) (j0 : Nat) (m0 : Mem) : Option Int32 :=
  L_X2_meanings_4 i0 j0 m0 fu 0 0
def J_X3_tenant_22 (p1 : Int32) (p2 : Int32) (m0 : Mem) (v2 : Int32) : Option (Int32 ⊕ Nat) :=
  bts (F_X3_require v2 m0) (fun c => some (.inr c)) fun _ => bp (m0.2.1 6) 7 fun q4 => ck (ib p1 3) (bp (Int32.toNatClampNeg p1) 3 fun q5 => (if p2 = 0 then bp (m0.2.1 6) 7 fun q6 => bo (F_X1_rowsOf q6 p1 m0) fun v7 => some (.inl v7) else (if p2 = 1 then bo (F_X2_meanings q4 q5 m0) fun v8 => some (.inl v8) else (if p2 = 2 then bd (m0.1 (2, q4, q5, 0) 3) fun v9 => some (.inl v9) else (if p2 = 3 then bd (m0.1 (2, q4, q5, 0) 4) fun v10 => some (.inl v10) else (if p2 = 4 then bd (m0.1 (2, q4, q5, 0) 5) fun v11 => bo (F_X3_asNumber v11 m0) fun v12 => some (.inl v12) else (if p2 = 5 then bd (m0.1 (2, q4, q5, 0) 6) fun v13 => some (.inl v13) else (if p2 = 6 then bd (m0.1 (2, q4, q5, 0) 7) fun v14 => some (.inl v14) else (if p2 = 7 then bd (m0.1 (2, q4, q5, 0) 8) fun v15 => some (.inl v15) else bd (m0.1 (2, q4, q5, 0) 9) fun v16 => some (.inl v16))))))))))
def J_X3_tenant_21 (p1 : Int32) (p2 : Int32) (m0 : Mem)  : Option (Int32 ⊕ Nat) :=
  (J_X3_tenant_22 p1 p2 m0) 0
def F_X3_tenant (p1 : Int32) (p2 : Int32) (m0 : Mem) : Option (Int32 ⊕ Nat) :=
  bo (F_X3_isTenant p1 m0) fun v1 => (if v1 = 0 then (J_X3_tenant_21 p1 p2 m0) else (if p2 < 0 then (J_X3_tenant_21 p1 p2 m0) else (if 8 < p2 then (J_X3_tenant_21 p1 p2 m0) else (J_X3_tenant_22 p1 p2 m0) 1)))
def F_X1_ownerOf (i0 : Nat) (p1 : Int32) (m0 : Mem) : Option Nat :=
  ck (ib p1 120) (bd (m0.1 (1, i0, 0, 2) (Int32.toNatClampNeg p1)) fun v1 => ck (ib v1 3) (bp (Int32.toNatClampNeg v1) 3 fun q2 => some q2))
def C_X1_tableRows_40  (v1 : Int32) : Option Int32 :=
  some v1
def J_X1_tableRows_29 (m0 : Mem) (v3 : Int32) (v4 : Int32) (kb4_5 : Int32 → Int32 → Option Int32) (v10 : Int32) : Option Int32 :=
  bo (F_X3_asNumber v10 m0) fun v12 => bd (v3 + v12) fun v13 => bd (v4 + 1) fun v14 => kb4_5 v13 v14
def L_X1_tableRows_4 (i0 : Nat) (m0 : Mem) : Nat → Int32 → Int32 → Option Int32
  | 0, _, _ => none
  | n6 + 1, v3, v4 => bd (m0.1 (1, i0, 0, 0) 3) fun v7 => (if v7 ≤ v4 then C_X1_tableRows_40 v3 else bo (F_X1_ownerOf i0 v4 m0) fun q8 => bp q8 3 fun q8 => bd (m0.1 (2, i0, q8, 0) 5) fun v9 => (if v9 = 0 then (J_X1_tableRows_29 m0 v3 v4 (fun w0 w1 => L_X1_tableRows_4 i0 m0 n6 w0 w1)) 1 else (J_X1_tableRows_29 m0 v3 v4 (fun w0 w1 => L_X1_tableRows_4 i0 m0 n6 w0 w1)) 0))
def F_X1_tableRows (i0 : Nat) (m0 : Mem) : Option Int32 :=
  L_X1_tableRows_4 i0 m0 fu 0 0
def J_X1_valueAt_22   : Option Int32 :=
  some (-1000000)
def F_X1_valueAt (i0 : Nat) (p1 : Int32) (p2 : Int32) (m0 : Mem) : Option Int32 :=
  (if p1 < 0 then J_X1_valueAt_22 else bd (m0.1 (1, i0, 0, 0) 3) fun v2 => (if v2 ≤ p1 then J_X1_valueAt_22 else (if p2 < 0 then J_X1_valueAt_22 else (if p2 < 8 then bd (p1 * 8) fun v3 => bd (v3 + p2) fun v4 => ck (ib v4 960) (bd (m0.1 (1, i0, 0, 3) (Int32.toNatClampNeg v4)) fun v5 => some v5) else J_X1_valueAt_22))))
def C_X1_valuesIn_38  (v1 : Int32) : Option Int32 :=
  some v1
def J_X1_valuesIn_27 (m0 : Mem) (v3 : Int32) (v4 : Int32) (kb4_5 : Int32 → Int32 → Option Int32) (v8 : Int32) : Option Int32 :=
  bo (F_X3_asNumber v8 m0) fun v10 => bd (v3 + v10) fun v11 => bd (v4 + 1) fun v12 => kb4_5 v11 v12
def L_X1_valuesIn_4 (i0 : Nat) (p1 : Int32) (m0 : Mem) : Nat → Int32 → Int32 → Option Int32
  | 0, _, _ => none
  | n6 + 1, v3, v4 => (if 8 ≤ v4 then C_X1_valuesIn_38 v3 else bo (F_X1_valueAt i0 p1 v4 m0) fun v7 => (if v7 = (-1000000) then (J_X1_valuesIn_27 m0 v3 v4 (fun w0 w1 => L_X1_valuesIn_4 i0 p1 m0 n6 w0 w1)) 0 else (J_X1_valuesIn_27 m0 v3 v4 (fun w0 w1 => L_X1_valuesIn_4 i0 p1 m0 n6 w0 w1)) 1))
def F_X1_valuesIn (i0 : Nat) (p1 : Int32) (m0 : Mem) : Option Int32 :=
  L_X1_valuesIn_4 i0 p1 m0 fu 0 0
def C_X1_tableValues_41  (v1 : Int32) : Option Int32 :=
  some v1
def J_X1_tableValues_33 (v3 : Int32) (v4 : Int32) (kb4_5 : Int32 → Int32 → Option Int32) (v10 : Int32) : Option Int32 :=
  bd (v3 + v10) fun v12 => bd (v4 + 1) fun v13 => kb4_5 v12 v13
def L_X1_tableValues_4 (i0 : Nat) (m0 : Mem) : Nat → Int32 → Int32 → Option Int32
  | 0, _, _ => none
  | n6 + 1, v3, v4 => bd (m0.1 (1, i0, 0, 0) 3) fun v7 => (if v7 ≤ v4 then C_X1_tableValues_41 v3 else bo (F_X1_ownerOf i0 v4 m0) fun q8 => bp q8 3 fun q8 => bd (m0.1 (2, i0, q8, 0) 5) fun v9 => (if v9 = 0 then bo (F_X1_valuesIn i0 v4 m0) fun v14 => (J_X1_tableValues_33 v3 v4 (fun w0 w1 => L_X1_tableValues_4 i0 m0 n6 w0 w1)) v14 else (J_X1_tableValues_33 v3 v4 (fun w0 w1 => L_X1_tableValues_4 i0 m0 n6 w0 w1)) 0))
def F_X1_tableValues (i0 : Nat) (m0 : Mem) : Option Int32 :=
  L_X1_tableValues_4 i0 m0 fu 0 0
def C_X1_columnsWithMeanings_89  (v1 : Int32) : Option Int32 :=
  some v1
def J_X1_columnsWithMeanings_78 (m0 : Mem) (v3 : Int32) (v4 : Int32) (kb5_5 : Int32 → Int32 → Option Int32) (v9 : Int32) : Option Int32 :=
  bo (F_X3_asNumber v9 m0) fun v11 => bd (v3 + v11) fun v12 => bd (v4 + 1) fun v13 => kb5_5 v12 v13
def J_X1_columnsWithMeanings_77 (m0 : Mem) (v3 : Int32) (v4 : Int32) (kb5_5 : Int32 → Int32 → Option Int32)  : Option Int32 :=
  (J_X1_columnsWithMeanings_78 m0 v3 v4 kb5_5) 0
def C_X1_columnsWithMeanings_60 (p1 : Int32) (p2 : Int32) (m0 : Mem) (v3 : Int32) (v4 : Int32) (kb5_5 : Int32 → Int32 → Option Int32) (v7 : Int32) : Option Int32 :=
  (if v7 < p1 then (J_X1_columnsWithMeanings_77 m0 v3 v4 kb5_5) else (if p2 < v7 then (J_X1_columnsWithMeanings_77 m0 v3 v4 kb5_5) else (J_X1_columnsWithMeanings_78 m0 v3 v4 kb5_5) 1))
def J_X1_columnsWithMeanings_48 (m0 : Mem) (v15 : Int32) (v16 : Int32) (kb18_17 : Int32 → Int32 → Option Int32) (v21 : Int32) : Option Int32 :=
  bo (F_X3_asNumber v21 m0) fun v23 => bd (v15 + v23) fun v24 => bd (v16 + 1) fun v25 => kb18_17 v24 v25
def L_X1_columnsWithMeanings_18 (i0 : Nat) (p1 : Int32) (p2 : Int32) (m0 : Mem) (v3 : Int32) (v4 : Int32) (kb5_5 : Int32 → Int32 → Option Int32) : Nat → Int32 → Int32 → Option Int32
  | 0, _, _ => none
  | n18 + 1, v15, v16 => (if 3 ≤ v16 then (C_X1_columnsWithMeanings_60 p1 p2 m0 v3 v4 kb5_5) v15 else ck (ib v16 3) (bp (Int32.toNatClampNeg v16) 3 fun q19 => ck (ib v4 8) (bd (m0.1 (2, i0, q19, 1) (Int32.toNatClampNeg v4)) fun v20 => (if v20 = (-1) then (J_X1_columnsWithMeanings_48 m0 v15 v16 (fun w0 w1 => L_X1_columnsWithMeanings_18 i0 p1 p2 m0 v3 v4 kb5_5 n18 w0 w1)) 0 else (J_X1_columnsWithMeanings_48 m0 v15 v16 (fun w0 w1 => L_X1_columnsWithMeanings_18 i0 p1 p2 m0 v3 v4 kb5_5 n18 w0 w1)) 1))))
def L_X1_columnsWithMeanings_5 (i0 : Nat) (p1 : Int32) (p2 : Int32) (m0 : Mem) : Nat → Int32 → Int32 → Option Int32
  | 0, _, _ => none
  | n6 + 1, v3, v4 => (if 8 ≤ v4 then C_X1_columnsWithMeanings_89 v3 else L_X1_columnsWithMeanings_18 i0 p1 p2 m0 v3 v4 (fun w0 w1 => L_X1_columnsWithMeanings_5 i0 p1 p2 m0 n6 w0 w1) fu 0 0)
def F_X1_columnsWithMeanings (i0 : Nat) (p1 : Int32) (p2 : Int32) (m0 : Mem) : Option Int32 :=
  L_X1_columnsWithMeanings_5 i0 p1 p2 m0 fu 0 0
def C_X1_indexes_46  (v1 : Int32) : Option Int32 :=
  some v1
def C_X1_indexes_40 (v4 : Int32) (kb4_5 : Int32 → Int32 → Option Int32) (v7 : Int32) : Option Int32 :=
  bd (v4 + 1) fun v9 => kb4_5 v7 v9
def L_X1_indexes_11 (i0 : Nat) (m0 : Mem) (v4 : Int32) (kb4_5 : Int32 → Int32 → Option Int32) : Nat → Int32 → Int32 → Option Int32
  | 0, _, _ => none
  | n13 + 1, v10, v11 => (if 8 ≤ v11 then (C_X1_indexes_40 v4 kb4_5) v10 else ck (ib v4 3) (bp (Int32.toNatClampNeg v4) 3 fun q14 => ck (ib v11 8) (bd (m0.1 (2, i0, q14, 3) (Int32.toNatClampNeg v11)) fun v15 => bo (F_X3_asNumber v15 m0) fun v16 => bd (v10 + v16) fun v17 => bd (v11 + 1) fun v18 => (fun w0 w1 => L_X1_indexes_11 i0 m0 v4 kb4_5 n13 w0 w1) v17 v18)))
def L_X1_indexes_4 (i0 : Nat) (m0 : Mem) : Nat → Int32 → Int32 → Option Int32
  | 0, _, _ => none
  | n6 + 1, v3, v4 => (if 3 ≤ v4 then C_X1_indexes_46 v3 else L_X1_indexes_11 i0 m0 v4 (fun w0 w1 => L_X1_indexes_4 i0 m0 n6 w0 w1) fu v3 0)
def F_X1_indexes (i0 : Nat) (m0 : Mem) : Option Int32 :=
  L_X1_indexes_4 i0 m0 fu 0 0
def C_X1_movedTenants_30  (v1 : Int32) : Option Int32 :=
  some v1
def L_X1_movedTenants_4 (i0 : Nat) (m0 : Mem) : Nat → Int32 → Int32 → Option Int32
  | 0, _, _ => none
  | n6 + 1, v3, v4 => (if 3 ≤ v4 then C_X1_movedTenants_30 v3 else ck (ib v4 3) (bp (Int32.toNatClampNeg v4) 3 fun q7 => bd (m0.1 (2, i0, q7, 0) 5) fun v8 => bo (F_X3_asNumber v8 m0) fun v9 => bd (v3 + v9) fun v10 => bd (v4 + 1) fun v11 => (fun w0 w1 => L_X1_movedTenants_4 i0 m0 n6 w0 w1) v10 v11))
def F_X1_movedTenants (i0 : Nat) (m0 : Mem) : Option Int32 :=
  L_X1_movedTenants_4 i0 m0 fu 0 0
def J_X3_count_15 (p1 : Int32) (m0 : Mem) (v1 : Int32) : Option (Int32 ⊕ Nat) :=
  bts (F_X3_require v1 m0) (fun c => some (.inr c)) fun _ => (if p1 = 0 then bp (m0.2.1 6) 7 fun q3 => bo (F_X1_tableRows q3 m0) fun v4 => some (.inl v4) else (if p1 = 1 then bp (m0.2.1 6) 7 fun q5 => bd (m0.1 (1, q5, 0, 0) 3) fun v6 => some (.inl v6) else (if p1 = 2 then bp (m0.2.1 6) 7 fun q7 => bo (F_X1_tableValues q7 m0) fun v8 => some (.inl v8) else (if p1 = 3 then bp (m0.2.1 6) 7 fun q9 => bo (F_X1_columnsWithMeanings q9 2 3 m0) fun v10 => some (.inl v10) else (if p1 = 4 then bp (m0.2.1 6) 7 fun q11 => bo (F_X1_columnsWithMeanings q11 0 0 m0) fun v12 => some (.inl v12) else (if p1 = 5 then bp (m0.2.1 6) 7 fun q13 => bo (F_X1_indexes q13 m0) fun v14 => some (.inl v14) else (if p1 = 6 then bp (m0.2.1 6) 7 fun q15 => bo (F_X1_movedTenants q15 m0) fun v16 => some (.inl v16) else bd (m0.1 (0, 0, 0, 0) 5) fun v17 => some (.inl v17))))))))
def J_X3_count_14 (p1 : Int32) (m0 : Mem)  : Option (Int32 ⊕ Nat) :=
  (J_X3_count_15 p1 m0) 0
def F_X3_count (p1 : Int32) (m0 : Mem) : Option (Int32 ⊕ Nat) :=
  (if p1 < 0 then (J_X3_count_14 p1 m0) else (if 7 < p1 then (J_X3_count_14 p1 m0) else (J_X3_count_15 p1 m0) 1))
def J_X3_requireRow_15   : Option (Unit ⊕ Nat) :=
  some (.inr 2)
def F_X3_requireRow (p1 : Int32) (m0 : Mem) : Option (Unit ⊕ Nat) :=
  (if p1 < 0 then J_X3_requireRow_15 else bp (m0.2.1 6) 7 fun q2 => bd (m0.1 (1, q2, 0, 0) 3) fun v3 => (if p1 < v3 then some (.inl ()) else J_X3_requireRow_15))
def J_X3_rowOf_79  (v6 : Int32) : Option (Int32 ⊕ Nat) :=
  some (.inl v6)
def J_X3_rowOf_20 (p1 : Int32) (p2 : Int32) (m0 : Mem) (v1 : Int32) : Option (Int32 ⊕ Nat) :=
  bts (F_X3_require v1 m0) (fun c => some (.inr c)) fun _ => (if p2 = 0 then bp (m0.2.1 6) 7 fun q11 => ck (ib p1 120) (bd (m0.1 (1, q11, 0, 2) (Int32.toNatClampNeg p1)) fun v12 => some (.inl v12)) else (if p2 = 9 then bp (m0.2.1 6) 7 fun q9 => bo (F_X1_valuesIn q9 p1 m0) fun v10 => some (.inl v10) else bp (m0.2.1 6) 7 fun q3 => bd (p2 - 1) fun v4 => bo (F_X1_valueAt q3 p1 v4 m0) fun v5 => (if v5 = (-1000000) then J_X3_rowOf_79 (-1) else bd (v5 + 10000) fun v8 => J_X3_rowOf_79 v8)))
def J_X3_rowOf_19 (p1 : Int32) (p2 : Int32) (m0 : Mem)  : Option (Int32 ⊕ Nat) :=
  (J_X3_rowOf_20 p1 p2 m0) 0
def F_X3_rowOf (p1 : Int32) (p2 : Int32) (m0 : Mem) : Option (Int32 ⊕ Nat) :=
  bts (F_X3_requireRow p1 m0) (fun c => some (.inr c)) fun _ => (if p2 < 0 then (J_X3_rowOf_19 p1 p2 m0) else (if 9 < p2 then (J_X3_rowOf_19 p1 p2 m0) else (J_X3_rowOf_20 p1 p2 m0) 1))
def C_X1_rowsWith_56  (v1 : Int32) : Option Int32 :=
  some v1
def J_X1_rowsWith_44 (m0 : Mem) (v3 : Int32) (v4 : Int32) (kb6_5 : Int32 → Int32 → Option Int32) (v9 : Int32) : Option Int32 :=
  bo (F_X3_asNumber v9 m0) fun v11 => bd (v3 + v11) fun v12 => bd (v4 + 1) fun v13 => kb6_5 v12 v13
def J_X1_rowsWith_43 (m0 : Mem) (v3 : Int32) (v4 : Int32) (kb6_5 : Int32 → Int32 → Option Int32)  : Option Int32 :=
  (J_X1_rowsWith_44 m0 v3 v4 kb6_5) 0
def L_X1_rowsWith_6 (i0 : Nat) (p1 : Int32) (p2 : Int32) (p3 : Int32) (m0 : Mem) : Nat → Int32 → Int32 → Option Int32
  | 0, _, _ => none
  | n6 + 1, v3, v4 => bd (m0.1 (1, i0, 0, 0) 3) fun v7 => (if v7 ≤ v4 then C_X1_rowsWith_56 v3 else ck (ib v4 120) (bd (m0.1 (1, i0, 0, 2) (Int32.toNatClampNeg v4)) fun v8 => (if v8 = p1 then bo (F_X1_valueAt i0 v4 p2 m0) fun v15 => (if v15 = p3 then (J_X1_rowsWith_44 m0 v3 v4 (fun w0 w1 => L_X1_rowsWith_6 i0 p1 p2 p3 m0 n6 w0 w1)) 1 else (J_X1_rowsWith_43 m0 v3 v4 (fun w0 w1 => L_X1_rowsWith_6 i0 p1 p2 p3 m0 n6 w0 w1))) else (J_X1_rowsWith_43 m0 v3 v4 (fun w0 w1 => L_X1_rowsWith_6 i0 p1 p2 p3 m0 n6 w0 w1)))))
def F_X1_rowsWith (i0 : Nat) (p1 : Int32) (p2 : Int32) (p3 : Int32) (m0 : Mem) : Option Int32 :=
  L_X1_rowsWith_6 i0 p1 p2 p3 m0 fu 0 0
def F_X1_rowsWithValue (i0 : Nat) (p1 : Int32) (p2 : Int32) (m0 : Mem) : Option Int32 :=
  bo (F_X1_rowsOf i0 p1 m0) fun v1 => bo (F_X1_rowsWith i0 p1 p2 (-1000000) m0) fun v2 => bd (v1 - v2) fun v3 => some v3
def C_X1_sumOf_56  (v1 : Int32) : Option Int32 :=
  some v1
def J_X1_sumOf_48 (v3 : Int32) (v4 : Int32) (kb5_5 : Int32 → Int32 → Option Int32) (v10 : Int32) : Option Int32 :=
  bd (v3 + v10) fun v12 => bd (v4 + 1) fun v13 => kb5_5 v12 v13
def J_X1_sumOf_47 (v3 : Int32) (v4 : Int32) (kb5_5 : Int32 → Int32 → Option Int32)  : Option Int32 :=
  (J_X1_sumOf_48 v3 v4 kb5_5) 0
def L_X1_sumOf_5 (i0 : Nat) (p1 : Int32) (p2 : Int32) (m0 : Mem) : Nat → Int32 → Int32 → Option Int32
  | 0, _, _ => none
  | n6 + 1, v3, v4 => bd (m0.1 (1, i0, 0, 0) 3) fun v7 => (if v7 ≤ v4 then C_X1_sumOf_56 v3 else bo (F_X1_valueAt i0 v4 p2 m0) fun v8 => ck (ib v4 120) (bd (m0.1 (1, i0, 0, 2) (Int32.toNatClampNeg v4)) fun v9 => (if v9 = p1 then (if v8 = (-1000000) then (J_X1_sumOf_47 v3 v4 (fun w0 w1 => L_X1_sumOf_5 i0 p1 p2 m0 n6 w0 w1)) else (J_X1_sumOf_48 v3 v4 (fun w0 w1 => L_X1_sumOf_5 i0 p1 p2 m0 n6 w0 w1)) v8) else (J_X1_sumOf_47 v3 v4 (fun w0 w1 => L_X1_sumOf_5 i0 p1 p2 m0 n6 w0 w1)))))
def F_X1_sumOf (i0 : Nat) (p1 : Int32) (p2 : Int32) (m0 : Mem) : Option Int32 :=
  L_X1_sumOf_5 i0 p1 p2 m0 fu 0 0
def C_X1_standsAhead_48   : Option Int32 :=
  ck (isB 0) (some 0)
def J_X1_standsAhead_42 (v3 : Int32) (kb11_4 : Int32 → Option Int32)  : Option Int32 :=
  bd (v3 + 1) fun v8 => kb11_4 v8
def L_X1_standsAhead_11 (i0 : Nat) (p1 : Int32) (p2 : Int32) (p3 : Int32) (m0 : Mem) (v1 : Int32) : Nat → Int32 → Option Int32
  | 0, _ => none
  | n5 + 1, v3 => (if p3 ≤ v3 then C_X1_standsAhead_48 else ck (ib v3 120) (bd (m0.1 (1, i0, 0, 2) (Int32.toNatClampNeg v3)) fun v6 => (if v6 = p1 then bo (F_X1_valueAt i0 v3 p2 m0) fun v9 => (if v9 = v1 then ck (isB 1) (some 1) else (J_X1_standsAhead_42 v3 (fun w0 => L_X1_standsAhead_11 i0 p1 p2 p3 m0 v1 n5 w0))) else (J_X1_standsAhead_42 v3 (fun w0 => L_X1_standsAhead_11 i0 p1 p2 p3 m0 v1 n5 w0)))))
def F_X1_standsAhead (i0 : Nat) (p1 : Int32) (p2 : Int32) (p3 : Int32) (m0 : Mem) : Option Int32 :=
  bo (F_X1_valueAt i0 p3 p2 m0) fun v1 => L_X1_standsAhead_11 i0 p1 p2 p3 m0 v1 fu 0
def C_X1_unlikeValues_65  (v1 : Int32) : Option Int32 :=
  some v1
def J_X1_unlikeValues_59 (v4 : Int32) (kb5_5 : Int32 → Int32 → Option Int32) (v9 : Int32) : Option Int32 :=
  bd (v4 + 1) fun v11 => kb5_5 v9 v11
def J_X1_unlikeValues_54 (m0 : Mem) (v3 : Int32) (v4 : Int32) (kb5_5 : Int32 → Int32 → Option Int32) (v14 : Int32) : Option Int32 :=
  bo (F_X3_asNumber v14 m0) fun v16 => bd (v3 + v16) fun v17 => (J_X1_unlikeValues_59 v4 kb5_5) v17
def L_X1_unlikeValues_5 (i0 : Nat) (p1 : Int32) (p2 : Int32) (m0 : Mem) : Nat → Int32 → Int32 → Option Int32
  | 0, _, _ => none
  | n6 + 1, v3, v4 => bd (m0.1 (1, i0, 0, 0) 3) fun v7 => (if v7 ≤ v4 then C_X1_unlikeValues_65 v3 else ck (ib v4 120) (bd (m0.1 (1, i0, 0, 2) (Int32.toNatClampNeg v4)) fun v8 => (if v8 = p1 then bo (F_X1_valueAt i0 v4 p2 m0) fun v12 => (if v12 = (-1000000) then (J_X1_unlikeValues_59 v4 (fun w0 w1 => L_X1_unlikeValues_5 i0 p1 p2 m0 n6 w0 w1)) v3 else bo (F_X1_standsAhead i0 p1 p2 v4 m0) fun v13 => (if v13 = 0 then (J_X1_unlikeValues_54 m0 v3 v4 (fun w0 w1 => L_X1_unlikeValues_5 i0 p1 p2 m0 n6 w0 w1)) 1 else (J_X1_unlikeValues_54 m0 v3 v4 (fun w0 w1 => L_X1_unlikeValues_5 i0 p1 p2 m0 n6 w0 w1)) 0)) else (J_X1_unlikeValues_59 v4 (fun w0 w1 => L_X1_unlikeValues_5 i0 p1 p2 m0 n6 w0 w1)) v3)))
def F_X1_unlikeValues (i0 : Nat) (p1 : Int32) (p2 : Int32) (m0 : Mem) : Option Int32 :=
  L_X1_unlikeValues_5 i0 p1 p2 m0 fu 0 0
def J_X3_column_31 (p1 : Int32) (p2 : Int32) (p3 : Int32) (m0 : Mem) (v2 : Int32) : Option (Int32 ⊕ Nat) :=
  bts (F_X3_require v2 m0) (fun c => some (.inr c)) fun _ => bp (m0.2.1 6) 7 fun q4 => ck (ib p1 3) (bp (Int32.toNatClampNeg p1) 3 fun q5 => ck (ib p2 8) (bd (m0.1 (2, q4, q5, 1) (Int32.toNatClampNeg p2)) fun v6 => (if v6 = (-1) then some (.inl (-1)) else (if p3 = 0 then ck (ib p2 8) (bd (m0.1 (2, q4, q5, 1) (Int32.toNatClampNeg p2)) fun v7 => some (.inl v7)) else (if p3 = 1 then ck (ib p2 8) (bd (m0.1 (2, q4, q5, 2) (Int32.toNatClampNeg p2)) fun v8 => some (.inl v8)) else (if p3 = 2 then ck (ib p2 8) (bd (m0.1 (2, q4, q5, 3) (Int32.toNatClampNeg p2)) fun v9 => bo (F_X3_asNumber v9 m0) fun v10 => some (.inl v10)) else (if p3 = 3 then bp (m0.2.1 6) 7 fun q11 => bo (F_X1_rowsWithValue q11 p1 p2 m0) fun v12 => some (.inl v12) else (if p3 = 4 then bp (m0.2.1 6) 7 fun q13 => bo (F_X1_sumOf q13 p1 p2 m0) fun v14 => bd (v14 + 1000000) fun v15 => some (.inl v15) else bp (m0.2.1 6) 7 fun q16 => bo (F_X1_unlikeValues q16 p1 p2 m0) fun v17 => some (.inl v17)))))))))
def J_X3_column_30 (p1 : Int32) (p2 : Int32) (p3 : Int32) (m0 : Mem)  : Option (Int32 ⊕ Nat) :=
  (J_X3_column_31 p1 p2 p3 m0) 0
def F_X3_column (p1 : Int32) (p2 : Int32) (p3 : Int32) (m0 : Mem) : Option (Int32 ⊕ Nat) :=
  bo (F_X3_isTenant p1 m0) fun v1 => (if v1 = 0 then (J_X3_column_30 p1 p2 p3 m0) else (if p2 < 0 then (J_X3_column_30 p1 p2 p3 m0) else (if 8 ≤ p2 then (J_X3_column_30 p1 p2 p3 m0) else (if p3 < 0 then (J_X3_column_30 p1 p2 p3 m0) else (if 5 < p3 then (J_X3_column_30 p1 p2 p3 m0) else (J_X3_column_31 p1 p2 p3 m0) 1)))))
def J_X3_fullness_30  (v4 : UInt64) : Option UInt64 :=
  some v4
def F_X3_fullness (m0 : Mem) : Option UInt64 :=
  bp (m0.2.1 6) 7 fun q1 => bo (F_X1_tableRows q1 m0) fun v2 => bd (8 * v2) fun v3 => (if 0 < v3 then bp (m0.2.1 6) 7 fun q6 => bo (F_X1_tableValues q6 m0) fun v7 => bd (FP.i2d v7) fun v8 => bd (FP.i2d v3) fun v9 => ck (nn (FP.ddiv v8 v9)) (bd (FP.ddiv v8 v9) fun v10 => J_X3_fullness_30 v10) else J_X3_fullness_30 0)
def J_X3_append_17 (p1 : Int32) (m0 : Mem) (v1 : Int32) : Option ((Int32 ⊕ Nat) × Mem) :=
  bts (F_X3_require v1 m0) (fun c => some (.inr c, m0)) fun _ => bd (m0.1 (0, 0, 0, 0) 6) fun v3 => (if v3 < 40 then bd (m0.1 (0, 0, 0, 0) 6) fun v4 => ck (ib v4 40) (bd (wI m0 (0, 0, 0, 2) (Int32.toNatClampNeg v4) p1) fun m5 => bd (m5.1 (0, 0, 0, 0) 6) fun v6 => bd (v6 + 1) fun v7 => bd (wI m5 (0, 0, 0, 0) 6 v7) fun m8 => bd (m8.1 (0, 0, 0, 0) 6) fun v9 => some (.inl v9, m8)) else some (.inr 1, m0))
def J_X3_append_16 (p1 : Int32) (m0 : Mem)  : Option ((Int32 ⊕ Nat) × Mem) :=
  (J_X3_append_17 p1 m0) 0
def F_X3_append (p1 : Int32) (m0 : Mem) : Option ((Int32 ⊕ Nat) × Mem) :=
  (if p1 < 33 then (J_X3_append_16 p1 m0) else (if 126 < p1 then (J_X3_append_16 p1 m0) else (J_X3_append_17 p1 m0) 1))
def J_X3_isLetter_15  (v1 : Int32) : Option Int32 :=
  ck (isB v1) (some v1)
def J_X3_isLetter_14   : Option Int32 :=
  J_X3_isLetter_15 0
def F_X3_isLetter (p1 : Int32) (m0 : Mem) : Option Int32 :=
  (if p1 < 0 then J_X3_isLetter_14 else (if 8 ≤ p1 then J_X3_isLetter_14 else J_X3_isLetter_15 1))
def J_X0_takeLetter_21 (m0 : Mem)  : Option (Int32 × Mem) :=
  ck (isB 0) (some (0, m0))
def F_X0_takeLetter (p1 : Int32) (m0 : Mem) : Option (Int32 × Mem) :=
  (if p1 < 97 then (J_X0_takeLetter_21 m0) else (if 104 < p1 then (J_X0_takeLetter_21 m0) else bd (m0.1 (0, 0, 0, 3) 3) fun v2 => (if v2 < 10 then bd (m0.1 (0, 0, 0, 3) 3) fun v3 => bd (p1 - 97) fun v4 => ck (ib v3 10) (bd (wI m0 (0, 0, 0, 5) (Int32.toNatClampNeg v3) v4) fun m5 => bd (m5.1 (0, 0, 0, 3) 3) fun v6 => ck (ib v6 10) (bd (wI m5 (0, 0, 0, 6) (Int32.toNatClampNeg v6) 0) fun m7 => bd (m7.1 (0, 0, 0, 3) 3) fun v8 => ck (ib v8 10) (bd (wI m7 (0, 0, 0, 7) (Int32.toNatClampNeg v8) 0) fun m9 => ck (isB 0) (bd (wI m9 (0, 0, 0, 3) 5 0) fun m10 => bd (m10.1 (0, 0, 0, 3) 3) fun v11 => bd (v11 + 1) fun v12 => bd (wI m10 (0, 0, 0, 3) 3 v12) fun m13 => bd (wI m13 (0, 0, 0, 3) 4 1) fun m14 => ck (isB 1) (some (1, m14)))))) else (J_X0_takeLetter_21 m0))))
def J_X0_takeSign_25 (m0 : Mem)  : Option (Int32 × Mem) :=
  ck (isB 0) (some (0, m0))
def J_X0_takeSign_27 (p1 : Int32) (m0 : Mem)  : Option (Int32 × Mem) :=
  bd (m0.1 (0, 0, 0, 3) 3) fun v4 => bd (v4 - 1) fun v5 => ck (ib v5 10) (bd (wI m0 (0, 0, 0, 6) (Int32.toNatClampNeg v5) p1) fun m6 => bd (wI m6 (0, 0, 0, 3) 4 2) fun m7 => ck (isB 1) (some (1, m7)))
def F_X0_takeSign (p1 : Int32) (m0 : Mem) : Option (Int32 × Mem) :=
  bd (m0.1 (0, 0, 0, 3) 3) fun v1 => (if v1 ≤ 0 then (J_X0_takeSign_25 m0) else (if p1 = 61 then (J_X0_takeSign_27 p1 m0) else (if p1 = 60 then (J_X0_takeSign_27 p1 m0) else (if p1 = 62 then (J_X0_takeSign_27 p1 m0) else (J_X0_takeSign_25 m0)))))
def F_X0_takeMinus (p1 : Int32) (m0 : Mem) : Option (Int32 × Mem) :=
  (if p1 = 45 then ck (isB 1) (bd (wI m0 (0, 0, 0, 3) 5 1) fun m1 => bd (wI m1 (0, 0, 0, 3) 4 3) fun m2 => ck (isB 1) (some (1, m2))) else ck (isB 0) (some (0, m0)))
def J_X0_takeDigit_19 (m0 : Mem)  : Option (Int32 × Mem) :=
  ck (isB 0) (some (0, m0))
def J_X0_takeDigit_63 (m0 : Mem) (v5 : Int32) (v9 : Int32) (v11 : Int32) : Option (Int32 × Mem) :=
  bd (v9 + v11) fun v13 => ck (ib v5 10) (bd (wI m0 (0, 0, 0, 7) (Int32.toNatClampNeg v5) v13) fun m14 => bd (wI m14 (0, 0, 0, 3) 4 4) fun m15 => ck (isB 1) (some (1, m15)))
def F_X0_takeDigit (p1 : Int32) (m0 : Mem) : Option (Int32 × Mem) :=
  bd (m0.1 (0, 0, 0, 3) 3) fun v1 => (if v1 ≤ 0 then (J_X0_takeDigit_19 m0) else (if p1 < 48 then (J_X0_takeDigit_19 m0) else (if p1 ≤ 57 then bd (p1 - 48) fun v3 => bd (m0.1 (0, 0, 0, 3) 3) fun v4 => bd (v4 - 1) fun v5 => bd (m0.1 (0, 0, 0, 3) 3) fun v6 => bd (v6 - 1) fun v7 => ck (ib v7 10) (bd (m0.1 (0, 0, 0, 7) (Int32.toNatClampNeg v7)) fun v8 => bd (v8 * 10) fun v9 => bd (m0.1 (0, 0, 0, 3) 5) fun v10 => (if v10 = 0 then (J_X0_takeDigit_63 m0 v5 v9) v3 else bd (-v3) fun v16 => (J_X0_takeDigit_63 m0 v5 v9) v16)) else (J_X0_takeDigit_19 m0))))
def F_X0_takeAnd (p1 : Int32) (m0 : Mem) : Option (Int32 × Mem) :=
  (if p1 = 38 then bd (wI m0 (0, 0, 0, 3) 4 0) fun m1 => ck (isB 1) (some (1, m1)) else ck (isB 0) (some (0, m0)))
def J_X0_mayGrow_42  (v4 : Int32) : Option Int32 :=
  ck (isB v4) (some v4)
def J_X0_mayGrow_41   : Option Int32 :=
  J_X0_mayGrow_42 0
def J_X0_mayGrow_25  (v2 : Int32) : Option Int32 :=
  (if v2 ≤ 0 then J_X0_mayGrow_41 else (if 1000 ≤ v2 then J_X0_mayGrow_41 else J_X0_mayGrow_42 1))
def F_X0_mayGrow (m0 : Mem) : Option Int32 :=
  bd (m0.1 (0, 0, 0, 3) 3) fun v1 => (if 0 < v1 then bd (m0.1 (0, 0, 0, 3) 3) fun v7 => bd (v7 - 1) fun v8 => ck (ib v8 10) (bd (m0.1 (0, 0, 0, 7) (Int32.toNatClampNeg v8)) fun v9 => bd (if 0 ≤ v9 then v9 else 0 - v9) fun v10 => J_X0_mayGrow_25 v10) else J_X0_mayGrow_25 0)
def J_X0_take_73  (v8 : Int32) (m9 : Mem) : Option (Int32 × Mem) :=
  ck (isB v8) (some (v8, m9))
def J_X0_take_68  (m11 : Mem) : Option (Int32 × Mem) :=
  J_X0_take_73 1 m11
def J_X0_take_108  (v19 : Int32) (m20 : Mem) : Option (Int32 × Mem) :=
  ck (isB v19) (some (v19, m20))
def J_X0_take_103  (m22 : Mem) : Option (Int32 × Mem) :=
  J_X0_take_108 1 m22
def J_X0_take_107  (m25 : Mem) : Option (Int32 × Mem) :=
  J_X0_take_108 0 m25
def F_X0_take (p1 : Int32) (m0 : Mem) : Option (Int32 × Mem) :=
  bd (m0.1 (0, 0, 0, 3) 4) fun v1 => (if v1 = 0 then bm (F_X0_takeLetter p1 m0) fun v2 m3 => ck (isB v2) (some (v2, m3)) else (if v1 = 1 then bm (F_X0_takeSign p1 m0) fun v4 m5 => ck (isB v4) (some (v4, m5)) else (if v1 = 2 then bm (F_X0_takeMinus p1 m0) fun v6 m7 => (if v6 = 0 then bm (F_X0_takeDigit p1 m7) fun v13 m14 => (if v13 = 0 then J_X0_take_73 0 m14 else J_X0_take_68 m14) else J_X0_take_68 m7) else (if v1 = 3 then bm (F_X0_takeDigit p1 m0) fun v15 m16 => ck (isB v15) (some (v15, m16)) else (if v1 = 4 then bm (F_X0_takeAnd p1 m0) fun v17 m18 => (if v17 = 0 then bo (F_X0_mayGrow m18) fun v24 => (if v24 = 0 then J_X0_take_107 m18 else bm (F_X0_takeDigit p1 m18) fun v27 m28 => (if v27 = 0 then J_X0_take_107 m28 else J_X0_take_103 m28)) else J_X0_take_103 m18) else ck (isB 0) (some (0, m0)))))))
def C_X0_read_46 (p2 : Int32) (m3 : Mem) : Option (Int32 × Mem) :=
  some (p2, m3)
def L_X0_read_12 (p2 : Int32) : Nat → Int32 → Mem → Option (Int32 × Mem)
  | 0, _, _ => none
  | n8 + 1, v5, m6 => (if p2 ≤ v5 then (C_X0_read_46 p2) m6 else (if 40 ≤ v5 then (C_X0_read_46 p2) m6 else ck (ib v5 40) (bd (m6.1 (0, 0, 0, 2) (Int32.toNatClampNeg v5)) fun v9 => bm (F_X0_take v9 m6) fun v10 m11 => (if v10 = 0 then bd (wI m11 (0, 0, 0, 3) 4 5) fun m13 => some (v5, m13) else bd (v5 + 1) fun v12 => (fun w0 w1 => L_X0_read_12 p2 n8 w0 w1) v12 m11))))
def F_X0_read (p2 : Int32) (m0 : Mem) : Option (Int32 × Mem) :=
  bd (wI m0 (0, 0, 0, 3) 3 0) fun m1 => bd (wI m1 (0, 0, 0, 3) 4 0) fun m2 => L_X0_read_12 p2 fu 0 m2
def J_X0_isWhole_13  (v2 : Int32) : Option Int32 :=
  ck (isB v2) (some v2)
def F_X0_isWhole (m0 : Mem) : Option Int32 :=
  bd (m0.1 (0, 0, 0, 3) 4) fun v1 => (if v1 = 4 then J_X0_isWhole_13 1 else J_X0_isWhole_13 0)
def F_X3_readQuestion (m0 : Mem) : Option (Int32 × Mem) :=
  bd (m0.1 (0, 0, 0, 0) 6) fun v1 => bm (F_X0_read v1 m0) fun v2 m3 => bo (F_X0_isWhole m3) fun v4 => ck (isB v4) (some (v4, m3))
def C_X2_columnOf_26   : Option Int32 :=
  some (-1)
def L_X2_columnOf_2 (i0 : Nat) (j0 : Nat) (p1 : Int32) (m0 : Mem) : Nat → Int32 → Option Int32
  | 0, _ => none
  | n4 + 1, v2 => (if 8 ≤ v2 then C_X2_columnOf_26 else ck (ib v2 8) (bd (m0.1 (2, i0, j0, 1) (Int32.toNatClampNeg v2)) fun v5 => (if v5 = p1 then some v2 else bd (v2 + 1) fun v6 => (fun w0 => L_X2_columnOf_2 i0 j0 p1 m0 n4 w0) v6)))
def F_X2_columnOf (i0 : Nat) (j0 : Nat) (p1 : Int32) (m0 : Mem) : Option Int32 :=
  L_X2_columnOf_2 i0 j0 p1 m0 fu 0
def J_X0_allows_63  (v3 : Int32) : Option Int32 :=
  ck (isB v3) (some v3)
def J_X0_allows_47  (v6 : Int32) : Option Int32 :=
  ck (isB v6) (some v6)
def J_X0_allows_79  (v9 : Int32) : Option Int32 :=
  ck (isB v9) (some v9)
def F_X0_allows (p1 : Int32) (p2 : Int32) (m0 : Mem) : Option Int32 :=
  ck (ib p1 10) (bd (m0.1 (0, 0, 0, 6) (Int32.toNatClampNeg p1)) fun v1 => (if v1 = 60 then ck (ib p1 10) (bd (m0.1 (0, 0, 0, 7) (Int32.toNatClampNeg p1)) fun v2 => (if v2 ≤ p2 then J_X0_allows_63 0 else J_X0_allows_63 1)) else (if v1 = 61 then ck (ib p1 10) (bd (m0.1 (0, 0, 0, 7) (Int32.toNatClampNeg p1)) fun v5 => (if p2 = v5 then J_X0_allows_47 1 else J_X0_allows_47 0)) else ck (ib p1 10) (bd (m0.1 (0, 0, 0, 7) (Int32.toNatClampNeg p1)) fun v8 => (if p2 ≤ v8 then J_X0_allows_79 0 else J_X0_allows_79 1)))))
def C_X3_isAnswer_64   : Option Int32 :=
  ck (isB 1) (some 1)
def J_X3_isAnswer_56   : Option Int32 :=
  ck (isB 0) (some 0)
def L_X3_isAnswer_2 (i2 : Nat) (j2 : Nat) (p1 : Int32) (m0 : Mem) : Nat → Int32 → Option Int32
  | 0, _ => none
  | n4 + 1, v2 => bd (m0.1 (0, 0, 0, 3) 3) fun v5 => (if v5 ≤ v2 then C_X3_isAnswer_64 else bp (m0.2.1 6) 7 fun q6 => ck (ib v2 10) (bd (m0.1 (0, 0, 0, 5) (Int32.toNatClampNeg v2)) fun v7 => bo (F_X2_columnOf i2 j2 v7 m0) fun v8 => bo (F_X1_valueAt q6 p1 v8 m0) fun v9 => (if v9 = (-1000000) then J_X3_isAnswer_56 else bo (F_X0_allows v2 v9 m0) fun v11 => (if v11 = 0 then J_X3_isAnswer_56 else bd (v2 + 1) fun v12 => (fun w0 => L_X3_isAnswer_2 i2 j2 p1 m0 n4 w0) v12))))
def F_X3_isAnswer (i2 : Nat) (j2 : Nat) (p1 : Int32) (m0 : Mem) : Option Int32 :=
  L_X3_isAnswer_2 i2 j2 p1 m0 fu 0
def C_X3_collectAnswers_67  (v1 : Int32) (m2 : Mem) : Option (Int32 × Mem) :=
  some (v1, m2)
def J_X3_collectAnswers_61 (v5 : Int32) (kb4_7 : Int32 → Int32 → Mem → Option (Int32 × Mem)) (v13 : Int32) (m14 : Mem) : Option (Int32 × Mem) :=
  bd (v5 + 1) fun v16 => kb4_7 v13 v16 m14
def L_X3_collectAnswers_4 (p1 : Int32) : Nat → Int32 → Int32 → Mem → Option (Int32 × Mem)
  | 0, _, _, _ => none
  | n8 + 1, v4, v5, m6 => bp (m6.2.1 6) 7 fun q9 => bd (m6.1 (1, q9, 0, 0) 3) fun v10 => (if v10 ≤ v5 then C_X3_collectAnswers_67 v4 m6 else (if 120 ≤ v5 then C_X3_collectAnswers_67 v4 m6 else bp (m6.2.1 6) 7 fun q11 => ck (ib v5 120) (bd (m6.1 (1, q11, 0, 2) (Int32.toNatClampNeg v5)) fun v12 => (if v12 = p1 then bp (m6.2.1 6) 7 fun q17 => ck (ib p1 3) (bp (Int32.toNatClampNeg p1) 3 fun q18 => bo (F_X3_isAnswer q17 q18 v5 m6) fun v19 => (if v19 = 0 then (J_X3_collectAnswers_61 v5 (fun w0 w1 w2 => L_X3_collectAnswers_4 p1 n8 w0 w1 w2)) v4 m6 else ck (ib v4 120) (bd (wI m6 (0, 0, 0, 4) (Int32.toNatClampNeg v4) v5) fun m20 => bd (v4 + 1) fun v21 => (J_X3_collectAnswers_61 v5 (fun w0 w1 w2 => L_X3_collectAnswers_4 p1 n8 w0 w1 w2)) v21 m20))) else (J_X3_collectAnswers_61 v5 (fun w0 w1 w2 => L_X3_collectAnswers_4 p1 n8 w0 w1 w2)) v4 m6))))
def F_X3_collectAnswers (p1 : Int32) (m0 : Mem) : Option (Int32 × Mem) :=
  L_X3_collectAnswers_4 p1 fu 0 0 m0
def J_X3_comesBefore_50  (v5 : Int32) : Option Int32 :=
  ck (isB v5) (some v5)
def J_X3_comesBefore_45   : Option Int32 :=
  J_X3_comesBefore_50 1
def F_X3_comesBefore (p1 : Int32) (p2 : Int32) (p3 : Int32) (m0 : Mem) : Option Int32 :=
  bp (m0.2.1 6) 7 fun q1 => bo (F_X1_valueAt q1 p1 p3 m0) fun v2 => bp (m0.2.1 6) 7 fun q3 => bo (F_X1_valueAt q3 p2 p3 m0) fun v4 => (if v2 = (-1000000) then ck (isB 0) (some 0) else (if v4 = (-1000000) then J_X3_comesBefore_45 else (if v4 ≤ v2 then J_X3_comesBefore_50 0 else J_X3_comesBefore_45)))
def C_X3_sortAnswers_79  (m1 : Mem) : Option (Unit × Mem) :=
  some ((), m1)
def C_X3_sortAnswers_64 (v3 : Int32) (kb2_5 : Int32 → Mem → Option (Unit × Mem)) (v7 : Int32) (v8 : Int32) (m9 : Mem) : Option (Unit × Mem) :=
  ck (ib v8 120) (bd (wI m9 (0, 0, 0, 4) (Int32.toNatClampNeg v8) v7) fun m11 => bd (v3 + 1) fun v12 => kb2_5 v12 m11)
def L_X3_sortAnswers_18 (p2 : Int32) (v3 : Int32) (kb2_5 : Int32 → Mem → Option (Unit × Mem)) (v7 : Int32) : Nat → Int32 → Mem → Option (Unit × Mem)
  | 0, _, _ => none
  | n16 + 1, v13, m14 => (if v13 ≤ 0 then (C_X3_sortAnswers_64 v3 kb2_5 v7) v13 m14 else bd (v13 - 1) fun v17 => ck (ib v17 120) (bd (m14.1 (0, 0, 0, 4) (Int32.toNatClampNeg v17)) fun v18 => bo (F_X3_comesBefore v7 v18 p2 m14) fun v19 => (if v19 = 0 then (C_X3_sortAnswers_64 v3 kb2_5 v7) v13 m14 else bd (v13 - 1) fun v20 => ck (ib v20 120) (bd (m14.1 (0, 0, 0, 4) (Int32.toNatClampNeg v20)) fun v21 => ck (ib v13 120) (bd (wI m14 (0, 0, 0, 4) (Int32.toNatClampNeg v13) v21) fun m22 => bd (v13 + (-1)) fun v23 => (fun w0 w1 => L_X3_sortAnswers_18 p2 v3 kb2_5 v7 n16 w0 w1) v23 m22)))))
def L_X3_sortAnswers_2 (p1 : Int32) (p2 : Int32) : Nat → Int32 → Mem → Option (Unit × Mem)
  | 0, _, _ => none
  | n6 + 1, v3, m4 => (if p1 ≤ v3 then C_X3_sortAnswers_79 m4 else ck (ib v3 120) (bd (m4.1 (0, 0, 0, 4) (Int32.toNatClampNeg v3)) fun v7 => L_X3_sortAnswers_18 p2 v3 (fun w0 w1 => L_X3_sortAnswers_2 p1 p2 n6 w0 w1) v7 fu v3 m4))
def F_X3_sortAnswers (p1 : Int32) (p2 : Int32) (m0 : Mem) : Option (Unit × Mem) :=
  L_X3_sortAnswers_2 p1 p2 fu 1 m0
def J_X3_answerAt_25  (v1 : Int32) : Option Int32 :=
  some v1
def J_X3_answerAt_24   : Option Int32 :=
  J_X3_answerAt_25 (-1)
def F_X3_answerAt (p1 : Int32) (p2 : Int32) (m0 : Mem) : Option Int32 :=
  (if p1 < 0 then J_X3_answerAt_24 else (if p2 ≤ p1 then J_X3_answerAt_24 else (if 120 ≤ p1 then J_X3_answerAt_24 else ck (ib p1 120) (bd (m0.1 (0, 0, 0, 4) (Int32.toNatClampNeg p1)) fun v4 => J_X3_answerAt_25 v4))))
def J_X3_answer_71 (p3 : Int32) (v6 : Int32) (m8 : Mem) : Option ((Int32 ⊕ Nat) × Mem) :=
  bo (F_X3_answerAt p3 v6 m8) fun v10 => some (.inl v10, m8)
def J_X3_answer_28 (p1 : Int32) (p2 : Int32) (p3 : Int32) (m0 : Mem) (v2 : Int32) : Option ((Int32 ⊕ Nat) × Mem) :=
  bts (F_X3_require v2 m0) (fun c => some (.inr c, m0)) fun _ => bm (F_X3_readQuestion m0) fun v4 m5 => (if v4 = 0 then some (.inl (-1), m5) else bm (F_X3_collectAnswers p1 m5) fun v6 m7 => (if p2 = (-1) then (J_X3_answer_71 p3 v6) m7 else bp (m7.2.1 6) 7 fun q11 => ck (ib p1 3) (bp (Int32.toNatClampNeg p1) 3 fun q12 => bo (F_X2_columnOf q11 q12 p2 m7) fun v13 => bm (F_X3_sortAnswers v6 v13 m7) fun _ m14 => (J_X3_answer_71 p3 v6) m14)))
def J_X3_answer_27 (p1 : Int32) (p2 : Int32) (p3 : Int32) (m0 : Mem)  : Option ((Int32 ⊕ Nat) × Mem) :=
  (J_X3_answer_28 p1 p2 p3 m0) 0
def J_X3_answer_19 (p1 : Int32) (p2 : Int32) (p3 : Int32) (m0 : Mem)  : Option ((Int32 ⊕ Nat) × Mem) :=
  (if p3 < 0 then (J_X3_answer_27 p1 p2 p3 m0) else (J_X3_answer_28 p1 p2 p3 m0) 1)
def F_X3_answer (p1 : Int32) (p2 : Int32) (p3 : Int32) (m0 : Mem) : Option ((Int32 ⊕ Nat) × Mem) :=
  bo (F_X3_isTenant p1 m0) fun v1 => (if v1 = 0 then (J_X3_answer_27 p1 p2 p3 m0) else (if p2 = (-1) then (J_X3_answer_19 p1 p2 p3 m0) else bo (F_X3_isLetter p2 m0) fun v17 => (if v17 = 0 then (J_X3_answer_27 p1 p2 p3 m0) else (J_X3_answer_19 p1 p2 p3 m0))))
def C_X3_rowsToLookAt_140  (v5 : Int32) : Option Int32 :=
  some v5
def J_X3_rowsToLookAt_134 (v8 : Int32) (kb36_9 : Int32 → Int32 → Option Int32) (v15 : Int32) : Option Int32 :=
  bd (v8 + 1) fun v17 => kb36_9 v15 v17
def J_X3_rowsToLookAt_107 (p1 : Int32) (m0 : Mem) (v7 : Int32) (v8 : Int32) (kb36_9 : Int32 → Int32 → Option Int32) (v13 : Int32)  : Option Int32 :=
  bp (m0.2.1 6) 7 fun q20 => ck (ib v8 10) (bd (m0.1 (0, 0, 0, 7) (Int32.toNatClampNeg v8)) fun v21 => bo (F_X1_rowsWith q20 p1 v13 v21 m0) fun v22 => bd (if v22 < v7 then v22 else v7) fun v23 => (J_X3_rowsToLookAt_134 v8 kb36_9) v23)
def L_X3_rowsToLookAt_36 (p1 : Int32) (p3 : Int32) (m0 : Mem) (q1 : Nat) (q2 : Nat) : Nat → Int32 → Int32 → Option Int32
  | 0, _, _ => none
  | n10 + 1, v7, v8 => bd (m0.1 (0, 0, 0, 3) 3) fun v11 => (if v11 ≤ v8 then C_X3_rowsToLookAt_140 v7 else ck (ib v8 10) (bd (m0.1 (0, 0, 0, 5) (Int32.toNatClampNeg v8)) fun v12 => bo (F_X2_columnOf q1 q2 v12 m0) fun v13 => ck (ib v8 10) (bd (m0.1 (0, 0, 0, 6) (Int32.toNatClampNeg v8)) fun v14 => (if v14 = 61 then (if v13 = (-1) then (J_X3_rowsToLookAt_134 v8 (fun w0 w1 => L_X3_rowsToLookAt_36 p1 p3 m0 q1 q2 n10 w0 w1)) v7 else ck (ib v13 8) (bd (m0.1 (2, q1, q2, 3) (Int32.toNatClampNeg v13)) fun v18 => (if v18 = 0 then (if v12 = p3 then (J_X3_rowsToLookAt_107 p1 m0 v7 v8 (fun w0 w1 => L_X3_rowsToLookAt_36 p1 p3 m0 q1 q2 n10 w0 w1) v13) else (J_X3_rowsToLookAt_134 v8 (fun w0 w1 => L_X3_rowsToLookAt_36 p1 p3 m0 q1 q2 n10 w0 w1)) v7) else (J_X3_rowsToLookAt_107 p1 m0 v7 v8 (fun w0 w1 => L_X3_rowsToLookAt_36 p1 p3 m0 q1 q2 n10 w0 w1) v13)))) else (J_X3_rowsToLookAt_134 v8 (fun w0 w1 => L_X3_rowsToLookAt_36 p1 p3 m0 q1 q2 n10 w0 w1)) v7))))
def F_X3_rowsToLookAt (p1 : Int32) (p2 : Int32) (p3 : Int32) (m0 : Mem) : Option Int32 :=
  (if p2 = 0 then bp (m0.2.1 6) 7 fun q1 => ck (ib p1 3) (bp (Int32.toNatClampNeg p1) 3 fun q2 => bp (m0.2.1 6) 7 fun q3 => bo (F_X1_tableRows q3 m0) fun v4 => L_X3_rowsToLookAt_36 p1 p3 m0 q1 q2 fu v4 0) else bp (m0.2.1 6) 7 fun q24 => bo (F_X1_rowsOf q24 p1 m0) fun v25 => some v25)
def J_X3_looked_42 (p1 : Int32) (m3 : Mem) (v4 : Int32) : Option ((Int32 ⊕ Nat) × Mem) :=
  bo (F_X3_rowsToLookAt p1 v4 (-1) m3) fun v6 => some (.inl v6, m3)
def J_X3_looked_37 (p1 : Int32) (m3 : Mem)  : Option ((Int32 ⊕ Nat) × Mem) :=
  (J_X3_looked_42 p1 m3) 1
def F_X3_looked (p1 : Int32) (p2 : Int32) (m0 : Mem) : Option ((Int32 ⊕ Nat) × Mem) :=
  bo (F_X3_isTenant p1 m0) fun v1 => bts (F_X3_require v1 m0) (fun c => some (.inr c, m0)) fun _ => bm (F_X3_readQuestion m0) fun v2 m3 => (if v2 = 0 then some (.inl (-1), m3) else (if p2 = 0 then bp (m3.2.1 6) 7 fun q8 => ck (ib p1 3) (bp (Int32.toNatClampNeg p1) 3 fun q9 => bd (m3.1 (2, q8, q9, 0) 5) fun v10 => (if v10 = 0 then (J_X3_looked_42 p1 m3) 0 else (J_X3_looked_37 p1 m3))) else (J_X3_looked_37 p1 m3)))
def J_X2_define_32  (m1 : Mem) : Option (Unit × Mem) :=
  some ((), m1)
def F_X2_define (i0 : Nat) (j0 : Nat) (p1 : Int32) (p2 : Int32) (p3 : Int32) (p4 : Int32) (m0 : Mem) : Option (Unit × Mem) :=
  (if p1 < 0 then J_X2_define_32 m0 else (if 8 ≤ p1 then J_X2_define_32 m0 else ck (ib p1 8) (bd (wI m0 (2, i0, j0, 1) (Int32.toNatClampNeg p1) p2) fun m3 => ck (ib p1 8) (bd (wI m3 (2, i0, j0, 2) (Int32.toNatClampNeg p1) p3) fun m4 => ck (ib p1 8) (ck (isB p4) (bd (wI m4 (2, i0, j0, 3) (Int32.toNatClampNeg p1) p4) fun m5 => J_X2_define_32 m5))))))
def C_X2_copyFrom_37 (i0 : Nat) (j0 : Nat) (i1 : Nat) (j1 : Nat) (m1 : Mem) : Option (Unit × Mem) :=
  bd (m1.1 (2, i1, j1, 0) 3) fun v3 => bd (wI m1 (2, i0, j0, 0) 3 v3) fun m4 => bd (m4.1 (2, i1, j1, 0) 4) fun v5 => bd (wI m4 (2, i0, j0, 0) 4 v5) fun m6 => bd (m6.1 (2, i1, j1, 0) 5) fun v7 => ck (isB v7) (bd (wI m6 (2, i0, j0, 0) 5 v7) fun m8 => bd (m8.1 (2, i1, j1, 0) 6) fun v9 => bd (wI m8 (2, i0, j0, 0) 6 v9) fun m10 => bd (m10.1 (2, i1, j1, 0) 7) fun v11 => bd (wI m10 (2, i0, j0, 0) 7 v11) fun m12 => bd (m12.1 (2, i1, j1, 0) 8) fun v13 => bd (wI m12 (2, i0, j0, 0) 8 v13) fun m14 => bd (m14.1 (2, i1, j1, 0) 9) fun v15 => bd (wI m14 (2, i0, j0, 0) 9 v15) fun m16 => some ((), m16))
def L_X2_copyFrom_2 (i0 : Nat) (j0 : Nat) (i1 : Nat) (j1 : Nat) : Nat → Int32 → Mem → Option (Unit × Mem)
  | 0, _, _ => none
  | n20 + 1, v17, m18 => (if 8 ≤ v17 then (C_X2_copyFrom_37 i0 j0 i1 j1) m18 else ck (ib v17 8) (bd (m18.1 (2, i1, j1, 1) (Int32.toNatClampNeg v17)) fun v21 => ck (ib v17 8) (bd (m18.1 (2, i1, j1, 2) (Int32.toNatClampNeg v17)) fun v22 => ck (ib v17 8) (bd (m18.1 (2, i1, j1, 3) (Int32.toNatClampNeg v17)) fun v23 => bm (F_X2_define i0 j0 v17 v21 v22 v23 m18) fun _ m24 => bd (v17 + 1) fun v25 => (fun w0 w1 => L_X2_copyFrom_2 i0 j0 i1 j1 n20 w0 w1) v25 m24))))
def F_X2_copyFrom (i0 : Nat) (j0 : Nat) (i1 : Nat) (j1 : Nat) (m0 : Mem) : Option (Unit × Mem) :=
  L_X2_copyFrom_2 i0 j0 i1 j1 fu 0 m0
def C_X1_copyFrom_28 (i0 : Nat) (i1 : Nat) (m1 : Mem) : Option (Unit × Mem) :=
  bd (m1.1 (1, i1, 0, 0) 3) fun v3 => bd (wI m1 (1, i0, 0, 0) 3 v3) fun m4 => bd (m4.1 (1, i0, 0, 0) 3) fun v5 => ck (!decide (0 < 0) && !decide (0 < 0) && !decide (v5 < 0) && decide ((Int32.toNatClampNeg 0) + (Int32.toNatClampNeg v5) ≤ 120) && decide ((Int32.toNatClampNeg 0) + (Int32.toNatClampNeg v5) ≤ 120)) (bd (wA m4 (1, i0, 0, 2) (va_cpy (m4.1 (1, i1, 0, 2)) (m4.1 (1, i0, 0, 2)) (Int32.toNatClampNeg 0) (Int32.toNatClampNeg 0) (Int32.toNatClampNeg v5))) fun m6 => bd (m6.1 (1, i0, 0, 0) 3) fun v7 => bd (v7 * 8) fun v8 => ck (!decide (0 < 0) && !decide (0 < 0) && !decide (v8 < 0) && decide ((Int32.toNatClampNeg 0) + (Int32.toNatClampNeg v8) ≤ 960) && decide ((Int32.toNatClampNeg 0) + (Int32.toNatClampNeg v8) ≤ 960)) (bd (wA m6 (1, i0, 0, 3) (va_cpy (m6.1 (1, i1, 0, 3)) (m6.1 (1, i0, 0, 3)) (Int32.toNatClampNeg 0) (Int32.toNatClampNeg 0) (Int32.toNatClampNeg v8))) fun m9 => some ((), m9)))
def L_X1_copyFrom_2 (i0 : Nat) (i1 : Nat) : Nat → Int32 → Mem → Option (Unit × Mem)
  | 0, _, _ => none
  | n13 + 1, v10, m11 => (if 3 ≤ v10 then (C_X1_copyFrom_28 i0 i1) m11 else ck (ib v10 3) (bp (Int32.toNatClampNeg v10) 3 fun q14 => ck (ib v10 3) (bp (Int32.toNatClampNeg v10) 3 fun q15 => bm (F_X2_copyFrom i0 q14 i1 q15 m11) fun _ m16 => bd (v10 + 1) fun v17 => (fun w0 w1 => L_X1_copyFrom_2 i0 i1 n13 w0 w1) v17 m16)))
def F_X1_copyFrom (i0 : Nat) (i1 : Nat) (m0 : Mem) : Option (Unit × Mem) :=
  L_X1_copyFrom_2 i0 i1 fu 0 m0
def J_X3_save_56  (m2 : Mem) : Option (Nat × Mem) :=
  bd (m2.1 (0, 0, 0, 0) 5) fun v4 => ck (ib v4 6) (bp (m2.2.1 (Int32.toNatClampNeg v4)) 7 fun q5 => bp (m2.2.1 6) 7 fun q6 => bm (F_X1_copyFrom q5 q6 m2) fun _ m7 => bd (m7.1 (0, 0, 0, 0) 5) fun v8 => bd (v8 + 1) fun v9 => bd (wI m7 (0, 0, 0, 0) 5 v9) fun m10 => some (q5, m10))
def C_X3_save_44 (q11 : Nat) (m12 : Mem) : Option (Nat × Mem) :=
  ck (ib 5 6) (bd (wP m12 (Int32.toNatClampNeg 5) q11) fun m14 => bd (wI m14 (0, 0, 0, 0) 5 5) fun m15 => J_X3_save_56 m15)
def L_X3_save_18 (q11 : Nat) : Nat → Int32 → Mem → Option (Nat × Mem)
  | 0, _, _ => none
  | n19 + 1, v16, m17 => (if 6 ≤ v16 then (C_X3_save_44 q11) m17 else bd (v16 - 1) fun v20 => ck (ib v16 6) (bp (m17.2.1 (Int32.toNatClampNeg v16)) 7 fun q21 => ck (ib v20 6) (bd (wP m17 (Int32.toNatClampNeg v20) q21) fun m22 => bd (v16 + 1) fun v23 => (fun w0 w1 => L_X3_save_18 q11 n19 w0 w1) v23 m22)))
def F_X3_save (m0 : Mem) : Option (Nat × Mem) :=
  bd (m0.1 (0, 0, 0, 0) 5) fun v1 => (if v1 < 6 then J_X3_save_56 m0 else ck (ib 0 6) (bp (m0.2.1 (Int32.toNatClampNeg 0)) 7 fun q11 => L_X3_save_18 q11 fu 1 m0))
def J_X3_ask_19 (p1 : Int32) (v2 : Int32) (m3 : Mem) : Option ((Int32 ⊕ Nat) × Mem) :=
  bts (F_X3_require v2 m3) (fun c => some (.inr c, m3)) fun _ => bm (F_X3_save m3) fun q5 m6 => bp q5 7 fun q5 => bp (m6.2.1 6) 7 fun q7 => ck (ib p1 3) (bp (Int32.toNatClampNeg p1) 3 fun q8 => bm (F_X3_collectAnswers p1 m6) fun v9 m10 => bd (m10.1 (2, q7, q8, 0) 6) fun v11 => bd (v11 + 1) fun v12 => bd (wI m10 (2, q7, q8, 0) 6 v12) fun m13 => bd (m13.1 (2, q7, q8, 0) 7) fun v14 => bd (m13.1 (2, q7, q8, 0) 5) fun v15 => bo (F_X3_rowsToLookAt p1 v15 (-1) m13) fun v16 => bd (v14 + v16) fun v17 => bd (wI m13 (2, q7, q8, 0) 7 v17) fun m18 => bd (m18.1 (2, q7, q8, 0) 8) fun v19 => bd (v19 + v9) fun v20 => bd (wI m18 (2, q7, q8, 0) 8 v20) fun m21 => some (.inl v9, m21))
def J_X3_ask_18 (p1 : Int32) (m22 : Mem) : Option ((Int32 ⊕ Nat) × Mem) :=
  (J_X3_ask_19 p1) 0 m22
def F_X3_ask (p1 : Int32) (m0 : Mem) : Option ((Int32 ⊕ Nat) × Mem) :=
  bo (F_X3_isTenant p1 m0) fun v1 => (if v1 = 0 then (J_X3_ask_18 p1) m0 else bm (F_X3_readQuestion m0) fun v24 m25 => (if v24 = 0 then (J_X3_ask_18 p1) m25 else (J_X3_ask_19 p1) 1 m25))
def C_X3_bestLetter_123  (v5 : Int32) : Option Int32 :=
  some v5
def J_X3_bestLetter_117 (v9 : Int32) (kb27_10 : Int32 → Int32 → Int32 → Option Int32) (v16 : Int32) (v17 : Int32) : Option Int32 :=
  bd (v9 + 1) fun v19 => kb27_10 v16 v17 v19
def L_X3_bestLetter_27 (p1 : Int32) (m0 : Mem) (q1 : Nat) (q2 : Nat) : Nat → Int32 → Int32 → Int32 → Option Int32
  | 0, _, _, _ => none
  | n11 + 1, v7, v8, v9 => bd (m0.1 (0, 0, 0, 3) 3) fun v12 => (if v12 ≤ v9 then C_X3_bestLetter_123 v7 else ck (ib v9 10) (bd (m0.1 (0, 0, 0, 5) (Int32.toNatClampNeg v9)) fun v13 => bo (F_X2_columnOf q1 q2 v13 m0) fun v14 => ck (ib v9 10) (bd (m0.1 (0, 0, 0, 6) (Int32.toNatClampNeg v9)) fun v15 => (if v15 = 61 then (if v14 = (-1) then (J_X3_bestLetter_117 v9 (fun w0 w1 w2 => L_X3_bestLetter_27 p1 m0 q1 q2 n11 w0 w1 w2)) v7 v8 else ck (ib v14 8) (bd (m0.1 (2, q1, q2, 3) (Int32.toNatClampNeg v14)) fun v20 => (if v20 = 0 then bd (m0.1 (2, q1, q2, 0) 5) fun v21 => bo (F_X3_rowsToLookAt p1 v21 v13 m0) fun v22 => (if v8 ≤ v22 then (J_X3_bestLetter_117 v9 (fun w0 w1 w2 => L_X3_bestLetter_27 p1 m0 q1 q2 n11 w0 w1 w2)) v7 v8 else (J_X3_bestLetter_117 v9 (fun w0 w1 w2 => L_X3_bestLetter_27 p1 m0 q1 q2 n11 w0 w1 w2)) v13 v22) else (J_X3_bestLetter_117 v9 (fun w0 w1 w2 => L_X3_bestLetter_27 p1 m0 q1 q2 n11 w0 w1 w2)) v7 v8))) else (J_X3_bestLetter_117 v9 (fun w0 w1 w2 => L_X3_bestLetter_27 p1 m0 q1 q2 n11 w0 w1 w2)) v7 v8))))
def F_X3_bestLetter (p1 : Int32) (m0 : Mem) : Option Int32 :=
  bp (m0.2.1 6) 7 fun q1 => ck (ib p1 3) (bp (Int32.toNatClampNeg p1) 3 fun q2 => bd (m0.1 (2, q1, q2, 0) 5) fun v3 => bo (F_X3_rowsToLookAt p1 v3 (-1) m0) fun v4 => L_X3_bestLetter_27 p1 m0 q1 q2 fu (-1) v4 0)
def J_X3_bestIndex_23 (m3 : Mem) (v4 : Int32) : Option ((Int32 ⊕ Nat) × Mem) :=
  some (.inl v4, m3)
def F_X3_bestIndex (p1 : Int32) (m0 : Mem) : Option ((Int32 ⊕ Nat) × Mem) :=
  bo (F_X3_isTenant p1 m0) fun v1 => bts (F_X3_require v1 m0) (fun c => some (.inr c, m0)) fun _ => bm (F_X3_readQuestion m0) fun v2 m3 => (if v2 = 0 then (J_X3_bestIndex_23 m3) (-1) else bo (F_X3_bestLetter p1 m3) fun v6 => (J_X3_bestIndex_23 m3) v6)
def F_X3_clearBuffer (m0 : Mem) : Option (Int32 × Mem) :=
  bd (m0.1 (0, 0, 0, 0) 6) fun v1 => bd (wI m0 (0, 0, 0, 0) 6 0) fun m2 => some (v1, m2)
def F_X2_refuse (i0 : Nat) (j0 : Nat) (p1 : Int32) (m0 : Mem) : Option (Int32 × Mem) :=
  bd (m0.1 (2, i0, j0, 0) 9) fun v1 => bd (v1 + 1) fun v2 => bd (wI m0 (2, i0, j0, 0) 9 v2) fun m3 => bd (-p1) fun v4 => bd (v4 - 1) fun v5 => some (v5, m3)
def J_X3_mean_28 (p1 : Int32) (p2 : Int32) (p3 : Int32) (m0 : Mem) (v2 : Int32) : Option ((Int32 ⊕ Nat) × Mem) :=
  bts (F_X3_require v2 m0) (fun c => some (.inr c, m0)) fun _ => bm (F_X3_save m0) fun q4 m5 => bp q4 7 fun q4 => bp (m5.2.1 6) 7 fun q6 => ck (ib p1 3) (bp (Int32.toNatClampNeg p1) 3 fun q7 => bo (F_X2_meanings q6 q7 m5) fun v8 => bd (m5.1 (2, q6, q7, 0) 4) fun v9 => (if v8 < v9 then bo (F_X2_columnOf q6 q7 p2 m5) fun v10 => (if v10 = (-1) then bo (F_X2_columnOf q6 q7 (-1) m5) fun v11 => (if v11 = (-1) then bm (F_X2_refuse q6 q7 4 m5) fun v13 m14 => some (.inl v13, m14) else bm (F_X2_define q6 q7 v11 p2 p3 0 m5) fun _ m12 => some (.inl v11, m12)) else bm (F_X2_refuse q6 q7 3 m5) fun v15 m16 => some (.inl v15, m16)) else bm (F_X2_refuse q6 q7 1 m5) fun v17 m18 => some (.inl v17, m18)))
def J_X3_mean_27 (p1 : Int32) (p2 : Int32) (p3 : Int32) (m0 : Mem)  : Option ((Int32 ⊕ Nat) × Mem) :=
  (J_X3_mean_28 p1 p2 p3 m0) 0
def F_X3_mean (p1 : Int32) (p2 : Int32) (p3 : Int32) (m0 : Mem) : Option ((Int32 ⊕ Nat) × Mem) :=
  bo (F_X3_isTenant p1 m0) fun v1 => (if v1 = 0 then (J_X3_mean_27 p1 p2 p3 m0) else bo (F_X3_isLetter p2 m0) fun v20 => (if v20 = 0 then (J_X3_mean_27 p1 p2 p3 m0) else (if p3 < 0 then (J_X3_mean_27 p1 p2 p3 m0) else (if 2 < p3 then (J_X3_mean_27 p1 p2 p3 m0) else (J_X3_mean_28 p1 p2 p3 m0) 1))))
def J_X1_setValue_34  (m1 : Mem) : Option (Unit × Mem) :=
  some ((), m1)
def F_X1_setValue (i0 : Nat) (p1 : Int32) (p2 : Int32) (p3 : Int32) (m0 : Mem) : Option (Unit × Mem) :=
  (if p1 < 0 then J_X1_setValue_34 m0 else bd (m0.1 (1, i0, 0, 0) 3) fun v3 => (if v3 ≤ p1 then J_X1_setValue_34 m0 else (if p2 < 0 then J_X1_setValue_34 m0 else (if 8 ≤ p2 then J_X1_setValue_34 m0 else bd (p1 * 8) fun v4 => bd (v4 + p2) fun v5 => ck (ib v5 960) (bd (wI m0 (1, i0, 0, 3) (Int32.toNatClampNeg v5) p3) fun m6 => J_X1_setValue_34 m6)))))
def C_X1_shiftValues_52  (m1 : Mem) : Option (Unit × Mem) :=
  some ((), m1)
def J_X1_shiftValues_46 (v3 : Int32) (kb3_5 : Int32 → Mem → Option (Unit × Mem)) (m9 : Mem) : Option (Unit × Mem) :=
  bd (v3 + 1) fun v11 => kb3_5 v11 m9
def L_X1_shiftValues_3 (i0 : Nat) (p1 : Int32) (p2 : Int32) (p3 : Int32) : Nat → Int32 → Mem → Option (Unit × Mem)
  | 0, _, _ => none
  | n6 + 1, v3, m4 => bd (m4.1 (1, i0, 0, 0) 3) fun v7 => (if v7 ≤ v3 then C_X1_shiftValues_52 m4 else ck (ib v3 120) (bd (m4.1 (1, i0, 0, 2) (Int32.toNatClampNeg v3)) fun v8 => (if v8 = p1 then bo (F_X1_valueAt i0 v3 p2 m4) fun v12 => bm (F_X1_setValue i0 v3 p3 v12 m4) fun _ m13 => bm (F_X1_setValue i0 v3 p2 (-1000000) m13) fun _ m14 => (J_X1_shiftValues_46 v3 (fun w0 w1 => L_X1_shiftValues_3 i0 p1 p2 p3 n6 w0 w1)) m14 else (J_X1_shiftValues_46 v3 (fun w0 w1 => L_X1_shiftValues_3 i0 p1 p2 p3 n6 w0 w1)) m4)))
def F_X1_shiftValues (i0 : Nat) (p1 : Int32) (p2 : Int32) (p3 : Int32) (m0 : Mem) : Option (Unit × Mem) :=
  L_X1_shiftValues_3 i0 p1 p2 p3 fu 0 m0
def F_X2_makeSpare (i0 : Nat) (j0 : Nat) (p1 : Int32) (m0 : Mem) : Option (Unit × Mem) :=
  bm (F_X2_define i0 j0 p1 (-1) 0 0 m0) fun _ m1 => some ((), m1)
def J_X3_forget_19 (p1 : Int32) (p2 : Int32) (m0 : Mem) (v2 : Int32) : Option ((Int32 ⊕ Nat) × Mem) :=
  bts (F_X3_require v2 m0) (fun c => some (.inr c, m0)) fun _ => bm (F_X3_save m0) fun q4 m5 => bp q4 7 fun q4 => bp (m5.2.1 6) 7 fun q6 => ck (ib p1 3) (bp (Int32.toNatClampNeg p1) 3 fun q7 => bo (F_X2_columnOf q6 q7 p2 m5) fun v8 => (if v8 = (-1) then bm (F_X2_refuse q6 q7 5 m5) fun v14 m15 => some (.inl v14, m15) else bp (m5.2.1 6) 7 fun q9 => bo (F_X1_rowsWithValue q9 p1 v8 m5) fun v10 => bp (m5.2.1 6) 7 fun q11 => bm (F_X1_shiftValues q11 p1 v8 (-1) m5) fun _ m12 => bm (F_X2_makeSpare q6 q7 v8 m12) fun _ m13 => some (.inl v10, m13)))
def J_X3_forget_18 (p1 : Int32) (p2 : Int32) (m0 : Mem)  : Option ((Int32 ⊕ Nat) × Mem) :=
  (J_X3_forget_19 p1 p2 m0) 0
def F_X3_forget (p1 : Int32) (p2 : Int32) (m0 : Mem) : Option ((Int32 ⊕ Nat) × Mem) :=
  bo (F_X3_isTenant p1 m0) fun v1 => (if v1 = 0 then (J_X3_forget_18 p1 p2 m0) else bo (F_X3_isLetter p2 m0) fun v17 => (if v17 = 0 then (J_X3_forget_18 p1 p2 m0) else (J_X3_forget_19 p1 p2 m0) 1))
def C_X3_pack_109  (v6 : Int32) (m7 : Mem) : Option ((Int32 ⊕ Nat) × Mem) :=
  some (.inl v6, m7)
def J_X3_pack_103 (v11 : Int32) (kb30_13 : Int32 → Int32 → Int32 → Mem → Option ((Int32 ⊕ Nat) × Mem)) (v16 : Int32) (v17 : Int32) (m18 : Mem) : Option ((Int32 ⊕ Nat) × Mem) :=
  bd (v11 + 1) fun v20 => kb30_13 v16 v17 v20 m18
def J_X3_pack_100 (v9 : Int32) (v11 : Int32) (kb30_13 : Int32 → Int32 → Int32 → Mem → Option ((Int32 ⊕ Nat) × Mem)) (v21 : Int32) (m22 : Mem) : Option ((Int32 ⊕ Nat) × Mem) :=
  bd (v9 + 1) fun v24 => (J_X3_pack_103 v11 kb30_13) v24 v21 m22
def L_X3_pack_30 (p1 : Int32) (q4 : Nat) (q5 : Nat) : Nat → Int32 → Int32 → Int32 → Mem → Option ((Int32 ⊕ Nat) × Mem)
  | 0, _, _, _, _ => none
  | n14 + 1, v9, v10, v11, m12 => (if 8 ≤ v11 then C_X3_pack_109 v10 m12 else ck (ib v11 8) (bd (m12.1 (2, q4, q5, 1) (Int32.toNatClampNeg v11)) fun v15 => (if v15 = (-1) then (J_X3_pack_103 v11 (fun w0 w1 w2 w3 => L_X3_pack_30 p1 q4 q5 n14 w0 w1 w2 w3)) v9 v10 m12 else (if v11 ≤ v9 then (J_X3_pack_100 v9 v11 (fun w0 w1 w2 w3 => L_X3_pack_30 p1 q4 q5 n14 w0 w1 w2 w3)) v10 m12 else ck (ib v11 8) (bd (m12.1 (2, q4, q5, 1) (Int32.toNatClampNeg v11)) fun v25 => ck (ib v11 8) (bd (m12.1 (2, q4, q5, 2) (Int32.toNatClampNeg v11)) fun v26 => ck (ib v11 8) (bd (m12.1 (2, q4, q5, 3) (Int32.toNatClampNeg v11)) fun v27 => bm (F_X2_define q4 q5 v9 v25 v26 v27 m12) fun _ m28 => bm (F_X2_makeSpare q4 q5 v11 m28) fun _ m29 => bp (m29.2.1 6) 7 fun q30 => bm (F_X1_shiftValues q30 p1 v11 v9 m29) fun _ m31 => bd (v10 + 1) fun v32 => (J_X3_pack_100 v9 v11 (fun w0 w1 w2 w3 => L_X3_pack_30 p1 q4 q5 n14 w0 w1 w2 w3)) v32 m31)))))))
def F_X3_pack (p1 : Int32) (m0 : Mem) : Option ((Int32 ⊕ Nat) × Mem) :=
  bo (F_X3_isTenant p1 m0) fun v1 => bts (F_X3_require v1 m0) (fun c => some (.inr c, m0)) fun _ => bm (F_X3_save m0) fun q2 m3 => bp q2 7 fun q2 => bp (m3.2.1 6) 7 fun q4 => ck (ib p1 3) (bp (Int32.toNatClampNeg p1) 3 fun q5 => L_X3_pack_30 p1 q4 q5 fu 0 0 0 m3)
def J_X3_index_77 (m5 : Mem) (q6 : Nat) (q7 : Nat) (v8 : Int32) (v10 : Int32) : Option ((Int32 ⊕ Nat) × Mem) :=
  ck (ib v8 8) (ck (isB v10) (bd (wI m5 (2, q6, q7, 3) (Int32.toNatClampNeg v8) v10) fun m12 => ck (ib v8 8) (bd (m12.1 (2, q6, q7, 3) (Int32.toNatClampNeg v8)) fun v13 => bo (F_X3_asNumber v13 m12) fun v14 => some (.inl v14, m12))))
def J_X3_index_19 (p1 : Int32) (p2 : Int32) (m0 : Mem) (v2 : Int32) : Option ((Int32 ⊕ Nat) × Mem) :=
  bts (F_X3_require v2 m0) (fun c => some (.inr c, m0)) fun _ => bm (F_X3_save m0) fun q4 m5 => bp q4 7 fun q4 => bp (m5.2.1 6) 7 fun q6 => ck (ib p1 3) (bp (Int32.toNatClampNeg p1) 3 fun q7 => bo (F_X2_columnOf q6 q7 p2 m5) fun v8 => (if v8 = (-1) then bm (F_X2_refuse q6 q7 5 m5) fun v15 m16 => some (.inl v15, m16) else ck (ib v8 8) (bd (m5.1 (2, q6, q7, 3) (Int32.toNatClampNeg v8)) fun v9 => (if v9 = 0 then (J_X3_index_77 m5 q6 q7 v8) 1 else (J_X3_index_77 m5 q6 q7 v8) 0))))
def J_X3_index_18 (p1 : Int32) (p2 : Int32) (m0 : Mem)  : Option ((Int32 ⊕ Nat) × Mem) :=
  (J_X3_index_19 p1 p2 m0) 0
def F_X3_index (p1 : Int32) (p2 : Int32) (m0 : Mem) : Option ((Int32 ⊕ Nat) × Mem) :=
  bo (F_X3_isTenant p1 m0) fun v1 => (if v1 = 0 then (J_X3_index_18 p1 p2 m0) else bo (F_X3_isLetter p2 m0) fun v18 => (if v18 = 0 then (J_X3_index_18 p1 p2 m0) else (J_X3_index_19 p1 p2 m0) 1))
def J_X1_tableOf_19  (v3 : Int32) : Option Int32 :=
  some v3
def F_X1_tableOf (i0 : Nat) (p1 : Int32) (m0 : Mem) : Option Int32 :=
  ck (ib p1 3) (bp (Int32.toNatClampNeg p1) 3 fun q1 => bd (m0.1 (2, i0, q1, 0) 5) fun v2 => (if v2 = 0 then J_X1_tableOf_19 0 else bd (p1 + 1) fun v5 => J_X1_tableOf_19 v5))
def C_X1_insertRow_135 (v2 : Int32) (m19 : Mem) : Option (Int32 × Mem) :=
  some (v2, m19)
def L_X1_insertRow_115 (i0 : Nat) (v2 : Int32) : Nat → Int32 → Mem → Option (Int32 × Mem)
  | 0, _, _ => none
  | n24 + 1, v21, m22 => (if 8 ≤ v21 then (C_X1_insertRow_135 v2) m22 else bm (F_X1_setValue i0 v2 v21 (-1000000) m22) fun _ m25 => bd (v21 + 1) fun v26 => (fun w0 w1 => L_X1_insertRow_115 i0 v2 n24 w0 w1) v26 m25)
def C_X1_insertRow_45 (i0 : Nat) (p1 : Int32) (m0 : Mem) (v2 : Int32) : Option (Int32 × Mem) :=
  bd (v2 + 1) fun v4 => bd (m0.1 (1, i0, 0, 0) 3) fun v5 => bd (v5 - v2) fun v6 => ck (!decide (v2 < 0) && !decide (v4 < 0) && !decide (v6 < 0) && decide ((Int32.toNatClampNeg v2) + (Int32.toNatClampNeg v6) ≤ 120) && decide ((Int32.toNatClampNeg v4) + (Int32.toNatClampNeg v6) ≤ 120)) (bd (wA m0 (1, i0, 0, 2) (va_cpy (m0.1 (1, i0, 0, 2)) (m0.1 (1, i0, 0, 2)) (Int32.toNatClampNeg v2) (Int32.toNatClampNeg v4) (Int32.toNatClampNeg v6))) fun m7 => bd (v2 * 8) fun v8 => bd (v2 + 1) fun v9 => bd (v9 * 8) fun v10 => bd (m7.1 (1, i0, 0, 0) 3) fun v11 => bd (v11 - v2) fun v12 => bd (v12 * 8) fun v13 => ck (!decide (v8 < 0) && !decide (v10 < 0) && !decide (v13 < 0) && decide ((Int32.toNatClampNeg v8) + (Int32.toNatClampNeg v13) ≤ 960) && decide ((Int32.toNatClampNeg v10) + (Int32.toNatClampNeg v13) ≤ 960)) (bd (wA m7 (1, i0, 0, 3) (va_cpy (m7.1 (1, i0, 0, 3)) (m7.1 (1, i0, 0, 3)) (Int32.toNatClampNeg v8) (Int32.toNatClampNeg v10) (Int32.toNatClampNeg v13))) fun m14 => bd (m14.1 (1, i0, 0, 0) 3) fun v15 => bd (v15 + 1) fun v16 => bd (wI m14 (1, i0, 0, 0) 3 v16) fun m17 => ck (ib v2 120) (bd (wI m17 (1, i0, 0, 2) (Int32.toNatClampNeg v2) p1) fun m18 => L_X1_insertRow_115 i0 v2 fu 0 m18)))
def L_X1_insertRow_13 (i0 : Nat) (p1 : Int32) (m0 : Mem) : Nat → Int32 → Option (Int32 × Mem)
  | 0, _ => none
  | n29 + 1, v27 => bd (m0.1 (1, i0, 0, 0) 3) fun v30 => (if v30 ≤ v27 then (C_X1_insertRow_45 i0 p1 m0) v27 else ck (ib v27 120) (bd (m0.1 (1, i0, 0, 2) (Int32.toNatClampNeg v27)) fun v31 => bo (F_X1_tableOf i0 v31 m0) fun v32 => bo (F_X1_tableOf i0 p1 m0) fun v33 => (if v33 < v32 then (C_X1_insertRow_45 i0 p1 m0) v27 else bd (v27 + 1) fun v34 => (fun w0 => L_X1_insertRow_13 i0 p1 m0 n29 w0) v34)))
def F_X1_insertRow (i0 : Nat) (p1 : Int32) (m0 : Mem) : Option (Int32 × Mem) :=
  bd (m0.1 (1, i0, 0, 0) 3) fun v1 => (if v1 < 120 then L_X1_insertRow_13 i0 p1 m0 fu 0 else some ((-1), m0))
def J_X3_row_68 (p1 : Int32) (m3 : Mem)  : Option ((Int32 ⊕ Nat) × Mem) :=
  bp (m3.2.1 6) 7 fun q11 => bm (F_X1_insertRow q11 p1 m3) fun v12 m13 => some (.inl v12, m13)
def F_X3_row (p1 : Int32) (m0 : Mem) : Option ((Int32 ⊕ Nat) × Mem) :=
  bo (F_X3_isTenant p1 m0) fun v1 => bts (F_X3_require v1 m0) (fun c => some (.inr c, m0)) fun _ => bm (F_X3_save m0) fun q2 m3 => bp q2 7 fun q2 => bp (m3.2.1 6) 7 fun q4 => ck (ib p1 3) (bp (Int32.toNatClampNeg p1) 3 fun q5 => bp (m3.2.1 6) 7 fun q6 => bo (F_X1_rowsOf q6 p1 m3) fun v7 => bd (m3.1 (2, q4, q5, 0) 3) fun v8 => (if v7 < v8 then bd (m3.1 (2, q4, q5, 0) 5) fun v9 => (if v9 = 0 then bp (m3.2.1 6) 7 fun q14 => bo (F_X1_tableRows q14 m3) fun v15 => (if v15 < 40 then (J_X3_row_68 p1 m3) else bm (F_X2_refuse q4 q5 2 m3) fun v16 m17 => some (.inl v16, m17)) else (J_X3_row_68 p1 m3)) else bm (F_X2_refuse q4 q5 1 m3) fun v18 m19 => some (.inl v18, m19)))
def J_X3_fits_47  (v1 : Int32) : Option Int32 :=
  ck (isB v1) (some v1)
def J_X3_fits_46   : Option Int32 :=
  J_X3_fits_47 0
def J_X3_fits_62  (v4 : Int32) : Option Int32 :=
  ck (isB v4) (some v4)
def J_X3_fits_57   : Option Int32 :=
  J_X3_fits_62 1
def J_X3_fits_79  (v7 : Int32) : Option Int32 :=
  ck (isB v7) (some v7)
def J_X3_fits_78   : Option Int32 :=
  J_X3_fits_79 0
def F_X3_fits (p1 : Int32) (p2 : Int32) (m0 : Mem) : Option Int32 :=
  (if p1 = 0 then (if p2 < (-999) then J_X3_fits_46 else (if 999 < p2 then J_X3_fits_46 else J_X3_fits_47 1)) else (if p1 = 1 then (if p2 = 0 then J_X3_fits_57 else (if p2 = 1 then J_X3_fits_57 else J_X3_fits_62 0)) else (if p2 < 0 then J_X3_fits_78 else (if 3650 < p2 then J_X3_fits_78 else J_X3_fits_79 1))))
def J_X3_put_113 (p1 : Int32) (p3 : Int32) (m5 : Mem) (v8 : Int32) (v13 : Int32) : Option ((Int32 ⊕ Nat) × Mem) :=
  bp (m5.2.1 6) 7 fun q15 => bm (F_X1_setValue q15 p1 v8 p3 m5) fun _ m16 => bo (F_X3_asNumber v13 m16) fun v17 => some (.inl v17, m16)
def J_X3_put_31 (p1 : Int32) (p2 : Int32) (p3 : Int32) (m0 : Mem) (v2 : Int32) : Option ((Int32 ⊕ Nat) × Mem) :=
  bts (F_X3_require v2 m0) (fun c => some (.inr c, m0)) fun _ => bm (F_X3_save m0) fun q4 m5 => bp q4 7 fun q4 => bp (m5.2.1 6) 7 fun q6 => bo (F_X1_ownerOf q6 p1 m5) fun q7 => bp q7 3 fun q7 => bo (F_X2_columnOf q6 q7 p2 m5) fun v8 => (if v8 = (-1) then bm (F_X2_refuse q6 q7 5 m5) fun v20 m21 => some (.inl v20, m21) else ck (ib v8 8) (bd (m5.1 (2, q6, q7, 2) (Int32.toNatClampNeg v8)) fun v9 => bo (F_X3_fits v9 p3 m5) fun v10 => (if v10 = 0 then bm (F_X2_refuse q6 q7 6 m5) fun v18 m19 => some (.inl v18, m19) else bp (m5.2.1 6) 7 fun q11 => bo (F_X1_valueAt q11 p1 v8 m5) fun v12 => (if v12 = (-1000000) then (J_X3_put_113 p1 p3 m5 v8) 0 else (J_X3_put_113 p1 p3 m5 v8) 1))))
def J_X3_put_30 (p1 : Int32) (p2 : Int32) (p3 : Int32) (m0 : Mem)  : Option ((Int32 ⊕ Nat) × Mem) :=
  (J_X3_put_31 p1 p2 p3 m0) 0
def F_X3_put (p1 : Int32) (p2 : Int32) (p3 : Int32) (m0 : Mem) : Option ((Int32 ⊕ Nat) × Mem) :=
  bts (F_X3_requireRow p1 m0) (fun c => some (.inr c, m0)) fun _ => bo (F_X3_isLetter p2 m0) fun v1 => (if v1 = 0 then (J_X3_put_30 p1 p2 p3 m0) else (if p3 < (-9999) then (J_X3_put_30 p1 p2 p3 m0) else (if 9999 < p3 then (J_X3_put_30 p1 p2 p3 m0) else (J_X3_put_31 p1 p2 p3 m0) 1)))
def F_X1_copyRow (i0 : Nat) (i1 : Nat) (p2 : Int32) (p3 : Int32) (m0 : Mem) : Option (Unit × Mem) :=
  ck (ib p2 120) (bd (m0.1 (1, i1, 0, 2) (Int32.toNatClampNeg p2)) fun v1 => ck (ib p3 120) (bd (wI m0 (1, i0, 0, 2) (Int32.toNatClampNeg p3) v1) fun m2 => bd (p2 * 8) fun v3 => bd (p3 * 8) fun v4 => ck (!decide (v3 < 0) && !decide (v4 < 0) && !decide (8 < 0) && decide ((Int32.toNatClampNeg v3) + (Int32.toNatClampNeg 8) ≤ 960) && decide ((Int32.toNatClampNeg v4) + (Int32.toNatClampNeg 8) ≤ 960)) (bd (wA m2 (1, i0, 0, 3) (va_cpy (m2.1 (1, i1, 0, 3)) (m2.1 (1, i0, 0, 3)) (Int32.toNatClampNeg v3) (Int32.toNatClampNeg v4) (Int32.toNatClampNeg 8))) fun m5 => some ((), m5))))
def C_X1_removeRows_62 (i0 : Nat) (v1 : Int32) (m2 : Mem) : Option (Unit × Mem) :=
  bd (wI m2 (1, i0, 0, 0) 3 v1) fun m4 => some ((), m4)
def J_X1_removeRows_56 (v7 : Int32) (kb8_9 : Int32 → Int32 → Int32 → Mem → Option (Unit × Mem)) (v12 : Int32) (v13 : Int32) (m14 : Mem) : Option (Unit × Mem) :=
  bd (v7 + 1) fun v16 => kb8_9 v12 v13 v16 m14
def J_X1_removeRows_45 (i0 : Nat) (v5 : Int32) (v6 : Int32) (v7 : Int32) (m8 : Mem) (kb8_9 : Int32 → Int32 → Int32 → Mem → Option (Unit × Mem))  : Option (Unit × Mem) :=
  bm (F_X1_copyRow i0 i0 v7 v5 m8) fun _ m18 => bd (v5 + 1) fun v19 => (J_X1_removeRows_56 v7 kb8_9) v19 v6 m18
def L_X1_removeRows_8 (i0 : Nat) (p2 : Int32) : Nat → Int32 → Int32 → Int32 → Mem → Option (Unit × Mem)
  | 0, _, _, _, _ => none
  | n10 + 1, v5, v6, v7, m8 => bd (m8.1 (1, i0, 0, 0) 3) fun v11 => (if v11 ≤ v7 then (C_X1_removeRows_62 i0) v5 m8 else (if p2 ≤ v6 then (J_X1_removeRows_45 i0 v5 v6 v7 m8 (fun w0 w1 w2 w3 => L_X1_removeRows_8 i0 p2 n10 w0 w1 w2 w3)) else (if 120 ≤ v6 then (J_X1_removeRows_45 i0 v5 v6 v7 m8 (fun w0 w1 w2 w3 => L_X1_removeRows_8 i0 p2 n10 w0 w1 w2 w3)) else ck (ib v6 120) (bd (m8.1 (0, 0, 0, 4) (Int32.toNatClampNeg v6)) fun v20 => (if v20 = v7 then bd (v6 + 1) fun v21 => (J_X1_removeRows_56 v7 (fun w0 w1 w2 w3 => L_X1_removeRows_8 i0 p2 n10 w0 w1 w2 w3)) v5 v21 m8 else (J_X1_removeRows_45 i0 v5 v6 v7 m8 (fun w0 w1 w2 w3 => L_X1_removeRows_8 i0 p2 n10 w0 w1 w2 w3)))))))
def F_X1_removeRows (i0 : Nat) (p2 : Int32) (m0 : Mem) : Option (Unit × Mem) :=
  L_X1_removeRows_8 i0 p2 fu 0 0 0 m0
def F_X3_remove (p1 : Int32) (m0 : Mem) : Option ((Int32 ⊕ Nat) × Mem) :=
  bts (F_X3_requireRow p1 m0) (fun c => some (.inr c, m0)) fun _ => bm (F_X3_save m0) fun q1 m2 => bp q1 7 fun q1 => bp (m2.2.1 6) 7 fun q3 => ck (ib p1 120) (bd (m2.1 (1, q3, 0, 2) (Int32.toNatClampNeg p1)) fun v4 => ck (ib 0 120) (bd (wI m2 (0, 0, 0, 4) (Int32.toNatClampNeg 0) p1) fun m5 => bp (m5.2.1 6) 7 fun q6 => bm (F_X1_removeRows q6 1 m5) fun _ m7 => some (.inl v4, m7)))
def C_X1_orderRowsOf_68  (m2 : Mem) : Option (Unit × Mem) :=
  some ((), m2)
def C_X1_orderRowsOf_62 (v4 : Int32) (kb7_6 : Int32 → Mem → Option (Unit × Mem)) (m8 : Mem) : Option (Unit × Mem) :=
  bd (v4 + 1) fun v10 => kb7_6 v10 m8
def J_X1_orderRowsOf_56 (v11 : Int32) (kb14_13 : Int32 → Mem → Option (Unit × Mem)) (m18 : Mem) : Option (Unit × Mem) :=
  bd (v11 + 1) fun v20 => kb14_13 v20 m18
def L_X1_orderRowsOf_14 (i0 : Nat) (i1 : Nat) (v4 : Int32) (kb7_6 : Int32 → Mem → Option (Unit × Mem)) : Nat → Int32 → Mem → Option (Unit × Mem)
  | 0, _, _ => none
  | n14 + 1, v11, m12 => bd (m12.1 (1, i1, 0, 0) 3) fun v15 => (if v15 ≤ v11 then (C_X1_orderRowsOf_62 v4 kb7_6) m12 else ck (ib v11 120) (bd (m12.1 (1, i1, 0, 2) (Int32.toNatClampNeg v11)) fun v16 => bo (F_X1_tableOf i0 v16 m12) fun v17 => (if v17 = v4 then bd (m12.1 (1, i0, 0, 0) 3) fun v21 => bm (F_X1_copyRow i0 i1 v11 v21 m12) fun _ m22 => bd (m22.1 (1, i0, 0, 0) 3) fun v23 => bd (v23 + 1) fun v24 => bd (wI m22 (1, i0, 0, 0) 3 v24) fun m25 => (J_X1_orderRowsOf_56 v11 (fun w0 w1 => L_X1_orderRowsOf_14 i0 i1 v4 kb7_6 n14 w0 w1)) m25 else (J_X1_orderRowsOf_56 v11 (fun w0 w1 => L_X1_orderRowsOf_14 i0 i1 v4 kb7_6 n14 w0 w1)) m12)))
def L_X1_orderRowsOf_7 (i0 : Nat) (i1 : Nat) : Nat → Int32 → Mem → Option (Unit × Mem)
  | 0, _, _ => none
  | n7 + 1, v4, m5 => (if 3 < v4 then C_X1_orderRowsOf_68 m5 else L_X1_orderRowsOf_14 i0 i1 v4 (fun w0 w1 => L_X1_orderRowsOf_7 i0 i1 n7 w0 w1) fu 0 m5)
def F_X1_orderRowsOf (i0 : Nat) (i1 : Nat) (m0 : Mem) : Option (Unit × Mem) :=
  bd (wI m0 (1, i0, 0, 0) 3 0) fun m1 => L_X1_orderRowsOf_7 i0 i1 fu 0 m1
def J_X3_move_69 (q2 : Nat) (m3 : Mem) (q4 : Nat) (q5 : Nat) (v9 : Int32) : Option ((Int32 ⊕ Nat) × Mem) :=
  ck (isB v9) (bd (wI m3 (2, q4, q5, 0) 5 v9) fun m11 => bp (m11.2.1 6) 7 fun q12 => bm (F_X1_orderRowsOf q12 q2 m11) fun _ m13 => bd (m13.1 (2, q4, q5, 0) 5) fun v14 => bo (F_X3_asNumber v14 m13) fun v15 => some (.inl v15, m13))
def J_X3_move_56 (q2 : Nat) (m3 : Mem) (q4 : Nat) (q5 : Nat)  : Option ((Int32 ⊕ Nat) × Mem) :=
  bd (m3.1 (2, q4, q5, 0) 5) fun v8 => (if v8 = 0 then (J_X3_move_69 q2 m3 q4 q5) 1 else (J_X3_move_69 q2 m3 q4 q5) 0)
def F_X3_move (p1 : Int32) (m0 : Mem) : Option ((Int32 ⊕ Nat) × Mem) :=
  bo (F_X3_isTenant p1 m0) fun v1 => bts (F_X3_require v1 m0) (fun c => some (.inr c, m0)) fun _ => bm (F_X3_save m0) fun q2 m3 => bp q2 7 fun q2 => bp (m3.2.1 6) 7 fun q4 => ck (ib p1 3) (bp (Int32.toNatClampNeg p1) 3 fun q5 => bd (m3.1 (2, q4, q5, 0) 5) fun v6 => (if v6 = 0 then (J_X3_move_56 q2 m3 q4 q5) else bp (m3.2.1 6) 7 fun q16 => bo (F_X1_tableRows q16 m3) fun v17 => bp (m3.2.1 6) 7 fun q18 => bo (F_X1_rowsOf q18 p1 m3) fun v19 => bd (v17 + v19) fun v20 => (if v20 ≤ 40 then (J_X3_move_56 q2 m3 q4 q5) else bm (F_X2_refuse q4 q5 2 m3) fun v21 m22 => some (.inl v21, m22))))
def J_X3_limit_88 (v8 : Int32) (m10 : Mem) : Option ((Int32 ⊕ Nat) × Mem) :=
  some (.inl v8, m10)
def J_X3_limit_67 (p2 : Int32) (p3 : Int32) (m5 : Mem) (q6 : Nat) (q7 : Nat) (v8 : Int32) : Option ((Int32 ⊕ Nat) × Mem) :=
  (if p2 = 0 then bd (wI m5 (2, q6, q7, 0) 3 p3) fun m12 => (J_X3_limit_88 v8) m12 else bd (wI m5 (2, q6, q7, 0) 4 p3) fun m13 => (J_X3_limit_88 v8) m13)
def J_X3_limit_31 (p1 : Int32) (p2 : Int32) (p3 : Int32) (m0 : Mem) (v2 : Int32) : Option ((Int32 ⊕ Nat) × Mem) :=
  bts (F_X3_require v2 m0) (fun c => some (.inr c, m0)) fun _ => bm (F_X3_save m0) fun q4 m5 => bp q4 7 fun q4 => bp (m5.2.1 6) 7 fun q6 => ck (ib p1 3) (bp (Int32.toNatClampNeg p1) 3 fun q7 => (if p2 = 0 then bd (m5.1 (2, q6, q7, 0) 3) fun v14 => (J_X3_limit_67 p2 p3 m5 q6 q7) v14 else bd (m5.1 (2, q6, q7, 0) 4) fun v15 => (J_X3_limit_67 p2 p3 m5 q6 q7) v15))
def J_X3_limit_30 (p1 : Int32) (p2 : Int32) (p3 : Int32) (m0 : Mem)  : Option ((Int32 ⊕ Nat) × Mem) :=
  (J_X3_limit_31 p1 p2 p3 m0) 0
def J_X3_limit_23 (p1 : Int32) (p2 : Int32) (p3 : Int32) (m0 : Mem) (v17 : Int32) : Option ((Int32 ⊕ Nat) × Mem) :=
  (if v17 < p3 then (J_X3_limit_30 p1 p2 p3 m0) else (J_X3_limit_31 p1 p2 p3 m0) 1)
def F_X3_limit (p1 : Int32) (p2 : Int32) (p3 : Int32) (m0 : Mem) : Option ((Int32 ⊕ Nat) × Mem) :=
  bo (F_X3_isTenant p1 m0) fun v1 => (if v1 = 0 then (J_X3_limit_30 p1 p2 p3 m0) else (if p3 < 0 then (J_X3_limit_30 p1 p2 p3 m0) else (if p2 = 0 then (J_X3_limit_23 p1 p2 p3 m0) 40 else (J_X3_limit_23 p1 p2 p3 m0) 8)))
def F_X3_undo (m0 : Mem) : Option ((Int32 ⊕ Nat) × Mem) :=
  bd (m0.1 (0, 0, 0, 0) 5) fun v1 => (if 0 < v1 then bd (m0.1 (0, 0, 0, 0) 5) fun v2 => bd (v2 - 1) fun v3 => bd (wI m0 (0, 0, 0, 0) 5 v3) fun m4 => bd (m4.1 (0, 0, 0, 0) 5) fun v5 => ck (ib v5 6) (bp (m4.2.1 (Int32.toNatClampNeg v5)) 7 fun q6 => bd (m4.1 (0, 0, 0, 0) 5) fun v7 => bp (m4.2.1 6) 7 fun q8 => ck (ib v7 6) (bd (wP m4 (Int32.toNatClampNeg v7) q8) fun m9 => bd (wP m9 6 q6) fun m10 => bd (m10.1 (0, 0, 0, 0) 5) fun v11 => some (.inl v11, m10))) else some (.inr 1, m0))
end
section
/-! the walks (written by dec.py) -/
set_option maxHeartbeats 4000000 in
set_option maxRecDepth 100000 in
theorem c_X3_isTenant (l : Launch) (hlf : l.stackTraces = false) (X : XW)  (p1 : Int32) (m0 : Mem) (rv : Int32) (hF : F_X3_isTenant p1 m0 = some rv) : MX X l yX3_isTenant cX3_isTenant 1 (some .boolean) 0 [.int p1] m0 (QI X rv m0) := by
  refine startZ hlf (by decide +kernel) rfl [(0, .int p1)] rfl (Nat.le_of_ble_eq_true rfl) (fun K hk hR => ?_)
  unfold F_X3_isTenant at hF
  refine r_iload_n hk 0 (dtX3_isTenant_0 0 (0, .iload_n 0, 1) rfl) rfl ?_
  have j14_2 : ∀ (v1 : Int32), J_X3_isTenant_14 v1 = some rv → G X K 14 [] [.int v1] m0 := by
    intro v1 hF
    unfold J_X3_isTenant_14 at hF
    obtain ⟨hz, hF⟩ := ck_some hF
    cases Option.some.inj hF
    exact hR _ _ hz (dtX3_isTenant_0 8 (14, .ireturn, 1) rfl)
  have j13_3 : J_X3_isTenant_13 = some rv → G X K 13 [] [] m0 := by
    intro hF
    unfold J_X3_isTenant_13 at hF
    refine r_iconst (v := 0) hk (dtX3_isTenant_0 7 (13, .iconst 0, 1) rfl) (by decide) ?_
    exact r_sub hk [] rfl (j14_2 0 hF)
  refine r_if_lt hk 13 hF (dtX3_isTenant_0 1 (1, .ifCond .lt 12, 3) rfl) (by decide) (fun hF => ?_) (fun hF => ?_)
  · exact r_sub hk [] rfl (j13_3 hF)
  · refine r_iload_n hk 0 (dtX3_isTenant_0 2 (4, .iload_n 0, 1) rfl) rfl ?_
    refine r_iconst (v := 3) hk (dtX3_isTenant_0 3 (5, .iconst 3, 1) rfl) (by decide) ?_
    refine r_icmp_ge hk 13 hF (dtX3_isTenant_0 4 (6, .if_icmp .ge 7, 3) rfl) (by decide) (fun hF => ?_) (fun hF => ?_)
    · exact r_sub hk [] rfl (j13_3 hF)
    · refine r_iconst (v := 1) hk (dtX3_isTenant_0 5 (9, .iconst 1, 1) rfl) (by decide) ?_
      refine r_goto hk 14 (dtX3_isTenant_0 6 (10, .goto 4, 3) rfl) (by decide) ?_
      exact r_sub hk [] rfl (j14_2 1 hF)
set_option maxHeartbeats 4000000 in
set_option maxRecDepth 100000 in
theorem c_X3_require (l : Launch) (hlf : l.stackTraces = false) (X : XW)  (p1 : Int32) (m0 : Mem) (rv : Unit ⊕ Nat) (hF : F_X3_require p1 m0 = some rv) : MT X l yX3_require cX3_require 1 none 7 [.int p1] m0 rv m0 (QTV X rv m0) := by
  refine startTV hlf (by decide +kernel) rfl [(0, .int p1)] rfl (Nat.le_of_ble_eq_true rfl) (fun K hk hR hX => ?_)
  unfold F_X3_require at hF
  refine r_iload_n hk 0 (dtX3_require_0 0 (0, .iload_n 0, 1) rfl) rfl ?_
  refine r_if_ne hk 15 hF (dtX3_require_0 1 (1, .ifCond .ne 14, 3) rfl) (by decide) (fun hF => ?_) (fun hF => ?_)
  · cases Option.some.inj hF
    exact hR () rfl _ _ (dtX3_require_0 7 (15, .return_, 1) rfl)
  · cases Option.some.inj hF
    exact (hX 0 rfl).2.2.2 _ _ _ _ _ _ _ th_X3_267_271 th_X3_267_271_g (hk.2.2.2.2.2.1.2.2.2.2.2.2.1) (by decide) (Nat.le_of_ble_eq_true rfl) (dtX3_require_0 2 (4, .new 267, 3) rfl) (dtX3_require_0 3 (7, .dup, 1) rfl) (dtX3_require_0 4 (8, .ldc_w 269, 3) rfl) (dtX3_require_0 5 (11, .invokespecial 271, 3) rfl) (dtX3_require_0 6 (14, .athrow, 1) rfl)
set_option maxHeartbeats 4000000 in
set_option maxRecDepth 100000 in
theorem c_X3_asNumber (l : Launch) (hlf : l.stackTraces = false) (X : XW)  (p1 : Int32) (m0 : Mem) (rv : Int32) (hF : F_X3_asNumber p1 m0 = some rv) : MX X l yX3_asNumber cX3_asNumber 1 (some .int) 0 [.int p1] m0 (QI X rv m0) := by
  refine startI hlf (by decide +kernel) rfl [(0, .int p1)] rfl (Nat.le_of_ble_eq_true rfl) (fun K hk hR => ?_)
  unfold F_X3_asNumber at hF
  refine r_iload_n hk 0 (dtX3_asNumber_0 0 (0, .iload_n 0, 1) rfl) rfl ?_
  have j9_2 : ∀ (v1 : Int32), J_X3_asNumber_9 v1 = some rv → G X K 9 [] [.int v1] m0 := by
    intro v1 hF
    unfold J_X3_asNumber_9 at hF
    cases Option.some.inj hF
    exact hR _ _ (dtX3_asNumber_0 5 (9, .ireturn, 1) rfl)
  refine r_if_eq hk 8 hF (dtX3_asNumber_0 1 (1, .ifCond .eq 7, 3) rfl) (by decide) (fun hF => ?_) (fun hF => ?_)
  · refine r_iconst (v := 0) hk (dtX3_asNumber_0 4 (8, .iconst 0, 1) rfl) (by decide) ?_
    exact r_sub hk [] rfl (j9_2 0 hF)
  · refine r_iconst (v := 1) hk (dtX3_asNumber_0 2 (4, .iconst 1, 1) rfl) (by decide) ?_
    refine r_goto hk 9 (dtX3_asNumber_0 3 (5, .goto 4, 3) rfl) (by decide) ?_
    exact r_sub hk [] rfl (j9_2 1 hF)
set_option maxHeartbeats 4000000 in
set_option maxRecDepth 100000 in
theorem c_X1_rowsOf (l : Launch) (hlf : l.stackTraces = false) (X : XW) (i0 : Nat) (hi0 : i0 < 7) (p1 : Int32) (m0 : Mem) (rv : Int32) (hF : F_X1_rowsOf i0 p1 m0 = some rv) : MX X l yX1_rowsOf cX1_rowsOf 4 (some .int) 1 [.ref (xad X (1, i0, 0, 0)), .int p1] m0 (QI X rv m0) := by
  refine startI hlf (by decide +kernel) rfl [(0, .ref (xad X (1, i0, 0, 0))), (1, .int p1)] rfl (Nat.le_of_ble_eq_true rfl) (fun K hk hR => ?_)
  unfold F_X1_rowsOf at hF
  refine r_iconst (v := 0) hk (dtX1_rowsOf_0 0 (0, .iconst 0, 1) rfl) (by decide) ?_
  refine r_istore_n hk [(2, .int 0), (0, .ref (xad X (1, i0, 0, 0))), (1, .int p1)] (dtX1_rowsOf_0 1 (1, .istore_n 2, 1) rfl) (by decide) rfl ?_
  refine r_iconst (v := 0) hk (dtX1_rowsOf_0 2 (2, .iconst 0, 1) rfl) (by decide) ?_
  refine r_istore_n hk [(3, .int 0), (2, .int 0), (0, .ref (xad X (1, i0, 0, 0))), (1, .int p1)] (dtX1_rowsOf_0 3 (3, .istore_n 3, 1) rfl) (by decide) rfl ?_
  have e39_2 : ∀ (v1 : Int32), C_X1_rowsOf_39 v1 = some rv → G X K 39 [(2, .int v1)] [] m0 := by
    intro v1 hF
    unfold C_X1_rowsOf_39 at hF
    refine r_iload_n hk 0 (dtX1_rowsOf_0 23 (39, .iload_n 2, 1) rfl) rfl ?_
    cases Option.some.inj hF
    exact hR _ _ (dtX1_rowsOf_0 24 (40, .ireturn, 1) rfl)
  have l6 : ∀ (n6 : Nat) (v3 : Int32) (v4 : Int32), L_X1_rowsOf_4 i0 p1 m0 n6 v3 v4 = some rv → G X K 4 [(0, .ref (xad X (1, i0, 0, 0))), (1, .int p1), (2, .int v3), (3, .int v4)] [] m0 := by
    intro n6
    induction n6 with
    | zero => intro v3 v4 hF; exact nomatch (show (none : Option Int32) = some rv from hF)
    | succ n6 ih6 =>
      intro v3 v4 hF
      rw [L_X1_rowsOf_4] at hF
      refine r_iload_n hk 3 (dtX1_rowsOf_0 4 (4, .iload_n 3, 1) rfl) rfl ?_
      refine r_aload_n hk 0 (dtX1_rowsOf_0 5 (5, .aload_n 0, 1) rfl) rfl ?_
      refine r_getI hk (k := 3) (fsX1 X i0) cbX1 (by decide) fl_X1_29 (in_st i0 hi0 0 (by decide)) (fun _ => rfl) (fun _ _ => rfl) hF (dtX1_rowsOf_0 6 (6, .getfield 29, 3) rfl) (fun v7 hF => ?_)
      refine r_icmp_ge hk 39 hF (dtX1_rowsOf_0 7 (9, .if_icmp .ge 30, 3) rfl) (by decide) (fun hF => ?_) (fun hF => ?_)
      · exact r_sub hk [2] rfl (e39_2 v3 hF)
      · refine r_iload_n hk 2 (dtX1_rowsOf_0 8 (12, .iload_n 2, 1) rfl) rfl ?_
        refine r_aload_n hk 0 (dtX1_rowsOf_0 9 (13, .aload_n 0, 1) rfl) rfl ?_
        refine r_getR hk (k := 1) (fsX1 X i0) cbX1 (by decide) fl_X1_17 (in_st i0 hi0 0 (by decide)) (fun _ => rfl) (fun _ _ => rfl) (dtX1_rowsOf_0 10 (14, .getfield 17, 3) rfl) ?_
        refine r_iload_n hk 3 (dtX1_rowsOf_0 11 (17, .iload_n 3, 1) rfl) rfl ?_
        refine r_iald hk (in_st i0 hi0 2 (by decide)) (fun _ => rfl) hF (dtX1_rowsOf_0 12 (18, .iaload, 1) rfl) (fun v8 hF => ?_)
        refine r_iload_n hk 1 (dtX1_rowsOf_0 13 (19, .iload_n 1, 1) rfl) rfl ?_
        have j28_10 : ∀ (v9 : Int32), (J_X1_rowsOf_28 m0 v3 v4 (fun w0 w1 => L_X1_rowsOf_4 i0 p1 m0 n6 w0 w1)) v9 = some rv → G X K 28 [(0, .ref (xad X (1, i0, 0, 0))), (1, .int p1), (3, .int v4)] [.int v9, .int v3] m0 := by
          intro v9 hF
          unfold J_X1_rowsOf_28 at hF
          refine r_callI hF (fun v11 h H locs ls hH hS hl => run_SN hk (c_X3_asNumber (kl K) hk.2.2.2.2.2.2.2.2.2.2.2 X  v9 m0 v11 h) lk_X1_64 me_X3_asNumber yf_X3_asNumber (by decide) (by decide) rfl (Nat.le_of_ble_eq_true rfl) rfl (dtX1_rowsOf_0 18 (28, .invokestatic 64, 3) rfl) hH hS hl) (fun v11 hF => ?_)
          refine r_iadd hk hF (dtX1_rowsOf_0 19 (31, .iadd, 1) rfl) (fun v12 hF => ?_)
          refine r_istore_n hk [(2, .int v12), (0, .ref (xad X (1, i0, 0, 0))), (1, .int p1), (3, .int v4)] (dtX1_rowsOf_0 20 (32, .istore_n 2, 1) rfl) (by decide) rfl ?_
          refine r_iinc hk 1 3 (fun v13 => [(3, .int v13), (2, .int v12), (0, .ref (xad X (1, i0, 0, 0))), (1, .int p1)]) hF (dtX1_rowsOf_0 21 (33, .iinc 3 1, 3) rfl) rfl (by decide) (by decide) (fun _ => rfl) (fun v13 hF => ?_)
          refine r_goto hk 4 (dtX1_rowsOf_0 22 (36, .goto (-32), 3) rfl) (by decide) ?_
          exact r_sub hk [2, 3, 1, 0] rfl (ih6 v12 v13 hF)
        refine r_icmp_ne hk 27 hF (dtX1_rowsOf_0 14 (20, .if_icmp .ne 7, 3) rfl) (by decide) (fun hF => ?_) (fun hF => ?_)
        · refine r_iconst (v := 0) hk (dtX1_rowsOf_0 17 (27, .iconst 0, 1) rfl) (by decide) ?_
          exact r_sub hk [0, 1, 3] rfl (j28_10 0 hF)
        · refine r_iconst (v := 1) hk (dtX1_rowsOf_0 15 (23, .iconst 1, 1) rfl) (by decide) ?_
          refine r_goto hk 28 (dtX1_rowsOf_0 16 (24, .goto 4, 3) rfl) (by decide) ?_
          exact r_sub hk [0, 1, 3] rfl (j28_10 1 hF)
  exact r_sub hk [2, 3, 1, 0] rfl (l6 fu 0 0 hF)
set_option maxHeartbeats 4000000 in
set_option maxRecDepth 100000 in
theorem c_X2_meanings (l : Launch) (hlf : l.stackTraces = false) (X : XW) (i0 : Nat) (hi0 : i0 < 7) (j0 : Nat) (hj0 : j0 < 3)  (m0 : Mem) (rv : Int32) (hF : F_X2_meanings i0 j0 m0 = some rv) : MX X l yX2_meanings cX2_meanings 3 (some .int) 1 [.ref (xad X (2, i0, j0, 0))] m0 (QI X rv m0) := by
  refine startI hlf (by decide +kernel) rfl [(0, .ref (xad X (2, i0, j0, 0)))] rfl (Nat.le_of_ble_eq_true rfl) (fun K hk hR => ?_)
  unfold F_X2_meanings at hF
  refine r_iconst (v := 0) hk (dtX2_meanings_0 0 (0, .iconst 0, 1) rfl) (by decide) ?_
  refine r_istore_n hk [(1, .int 0), (0, .ref (xad X (2, i0, j0, 0)))] (dtX2_meanings_0 1 (1, .istore_n 1, 1) rfl) (by decide) rfl ?_
  refine r_iconst (v := 0) hk (dtX2_meanings_0 2 (2, .iconst 0, 1) rfl) (by decide) ?_
  refine r_istore_n hk [(2, .int 0), (1, .int 0), (0, .ref (xad X (2, i0, j0, 0)))] (dtX2_meanings_0 3 (3, .istore_n 2, 1) rfl) (by decide) rfl ?_
  have e37_2 : ∀ (v1 : Int32), C_X2_meanings_37 v1 = some rv → G X K 37 [(1, .int v1)] [] m0 := by
    intro v1 hF
    unfold C_X2_meanings_37 at hF
    refine r_iload_n hk 0 (dtX2_meanings_0 22 (37, .iload_n 1, 1) rfl) rfl ?_
    cases Option.some.inj hF
    exact hR _ _ (dtX2_meanings_0 23 (38, .ireturn, 1) rfl)
  have l6 : ∀ (n6 : Nat) (v3 : Int32) (v4 : Int32), L_X2_meanings_4 i0 j0 m0 n6 v3 v4 = some rv → G X K 4 [(0, .ref (xad X (2, i0, j0, 0))), (1, .int v3), (2, .int v4)] [] m0 := by
    intro n6
    induction n6 with
    | zero => intro v3 v4 hF; exact nomatch (show (none : Option Int32) = some rv from hF)
    | succ n6 ih6 =>
      intro v3 v4 hF
      rw [L_X2_meanings_4] at hF
      refine r_iload_n hk 2 (dtX2_meanings_0 4 (4, .iload_n 2, 1) rfl) rfl ?_
      refine r_bipush (v := 8) hk (dtX2_meanings_0 5 (5, .bipush 8, 2) rfl) (by decide) ?_
      refine r_icmp_ge hk 37 hF (dtX2_meanings_0 6 (7, .if_icmp .ge 30, 3) rfl) (by decide) (fun hF => ?_) (fun hF => ?_)
      · exact r_sub hk [1] rfl (e37_2 v3 hF)
      · refine r_iload_n hk 1 (dtX2_meanings_0 7 (10, .iload_n 1, 1) rfl) rfl ?_
        refine r_aload_n hk 0 (dtX2_meanings_0 8 (11, .aload_n 0, 1) rfl) rfl ?_
        refine r_getR hk (k := 0) (fsX2 X i0 j0) cbX2 (by decide) fl_X2_9 (in_tn i0 hi0 j0 hj0 0 (by decide)) (fun _ => rfl) (fun _ _ => rfl) (dtX2_meanings_0 9 (12, .getfield 9, 3) rfl) ?_
        refine r_iload_n hk 2 (dtX2_meanings_0 10 (15, .iload_n 2, 1) rfl) rfl ?_
        refine r_iald hk (in_tn i0 hi0 j0 hj0 1 (by decide)) (fun _ => rfl) hF (dtX2_meanings_0 11 (16, .iaload, 1) rfl) (fun v7 hF => ?_)
        refine r_iconst (v := (-1)) hk (dtX2_meanings_0 12 (17, .iconst (-1), 1) rfl) (by decide) ?_
        have j26_9 : ∀ (v8 : Int32), (J_X2_meanings_26 m0 v3 v4 (fun w0 w1 => L_X2_meanings_4 i0 j0 m0 n6 w0 w1)) v8 = some rv → G X K 26 [(0, .ref (xad X (2, i0, j0, 0))), (2, .int v4)] [.int v8, .int v3] m0 := by
          intro v8 hF
          unfold J_X2_meanings_26 at hF
          refine r_callI hF (fun v10 h H locs ls hH hS hl => run_SN hk (c_X3_asNumber (kl K) hk.2.2.2.2.2.2.2.2.2.2.2 X  v8 m0 v10 h) lk_X2_49 me_X3_asNumber yf_X3_asNumber (by decide) (by decide) rfl (Nat.le_of_ble_eq_true rfl) rfl (dtX2_meanings_0 17 (26, .invokestatic 49, 3) rfl) hH hS hl) (fun v10 hF => ?_)
          refine r_iadd hk hF (dtX2_meanings_0 18 (29, .iadd, 1) rfl) (fun v11 hF => ?_)
          refine r_istore_n hk [(1, .int v11), (0, .ref (xad X (2, i0, j0, 0))), (2, .int v4)] (dtX2_meanings_0 19 (30, .istore_n 1, 1) rfl) (by decide) rfl ?_
          refine r_iinc hk 1 2 (fun v12 => [(2, .int v12), (1, .int v11), (0, .ref (xad X (2, i0, j0, 0)))]) hF (dtX2_meanings_0 20 (31, .iinc 2 1, 3) rfl) rfl (by decide) (by decide) (fun _ => rfl) (fun v12 hF => ?_)
          refine r_goto hk 4 (dtX2_meanings_0 21 (34, .goto (-30), 3) rfl) (by decide) ?_
          exact r_sub hk [2, 1, 0] rfl (ih6 v11 v12 hF)
        refine r_icmp_eq hk 25 hF (dtX2_meanings_0 13 (18, .if_icmp .eq 7, 3) rfl) (by decide) (fun hF => ?_) (fun hF => ?_)
        · refine r_iconst (v := 0) hk (dtX2_meanings_0 16 (25, .iconst 0, 1) rfl) (by decide) ?_
          exact r_sub hk [0, 2] rfl (j26_9 0 hF)
        · refine r_iconst (v := 1) hk (dtX2_meanings_0 14 (21, .iconst 1, 1) rfl) (by decide) ?_
          refine r_goto hk 26 (dtX2_meanings_0 15 (22, .goto 4, 3) rfl) (by decide) ?_
          exact r_sub hk [0, 2] rfl (j26_9 1 hF)
  exact r_sub hk [2, 1, 0] rfl (l6 fu 0 0 hF)
set_option maxHeartbeats 4000000 in
set_option maxRecDepth 100000 in
theorem c_X3_tenant (l : Launch) (hlf : l.stackTraces = false) (X : XW)  (p1 : Int32) (p2 : Int32) (m0 : Mem) (rv : Int32 ⊕ Nat) (hF : F_X3_tenant p1 p2 m0 = some rv) : MT X l yX3_tenant cX3_tenant 4 (some .int) 8 [.ref (xad X (0, 0, 0, 0)), .int p1, .int p2] m0 rv m0 (QTI X rv m0) := by
  refine startTI hlf (by decide +kernel) rfl [(0, .ref (xad X (0, 0, 0, 0))), (1, .int p1), (2, .int p2)] rfl (Nat.le_of_ble_eq_true rfl) (fun K hk hR hX => ?_)
  unfold F_X3_tenant at hF
  refine r_iload_n hk 1 (dtX3_tenant_0 0 (0, .iload_n 1, 1) rfl) rfl ?_
  refine r_callI hF (fun v1 h H locs ls hH hS hl => run_S hk (c_X3_isTenant (kl K) hk.2.2.2.2.2.2.2.2.2.2.2 X  p1 m0 v1 h) lk_X3_34 me_X3_isTenant yf_X3_isTenant (by decide) (by decide) rfl (Nat.le_of_ble_eq_true rfl) rfl (dtX3_tenant_0 1 (1, .invokestatic 34, 3) rfl) hH hS hl) (fun v1 hF => ?_)
  have j22_3 : ∀ (v2 : Int32), (J_X3_tenant_22 p1 p2 m0) v2 = some rv → G X K 22 [(0, .ref (xad X (0, 0, 0, 0))), (1, .int p1), (2, .int p2)] [.int v2] m0 := by
    intro v2 hF
    unfold J_X3_tenant_22 at hF
    refine r_callVts hk hF (fun c h => by cases Option.some.inj h; exact hX c rfl) (fun R h hf H locs ls hH hS hl => runT_S hk (c_X3_require (kl K) hk.2.2.2.2.2.2.2.2.2.2.2 X  v2 m0 R h) lk_X3_41 me_X3_require yf_X3_require (by decide) (by decide) rfl (Nat.le_of_ble_eq_true rfl) rfl (dtX3_tenant_0 11 (22, .invokestatic 41, 3) rfl) hf hH hS hl) (fun _ hF => ?_)
    refine r_aload_n hk 0 (dtX3_tenant_0 12 (25, .aload_n 0, 1) rfl) rfl ?_
    refine r_getS hk fl_X3_30 hF (dtX3_tenant_0 13 (26, .getfield 30, 3) rfl) (fun q4 hq4 hF => ?_)
    refine r_getR hk (k := 0) (fsX1 X q4) cbX1 (by decide) fl_X3_49 (in_st q4 hq4 0 (by decide)) (fun _ => rfl) (fun _ _ => rfl) (dtX3_tenant_0 14 (29, .getfield 49, 3) rfl) ?_
    refine r_iload_n hk 1 (dtX3_tenant_0 15 (32, .iload_n 1, 1) rfl) rfl ?_
    refine r_aldT hk hq4 hF (dtX3_tenant_0 16 (33, .aaload, 1) rfl) (fun q5 hq5 hF => ?_)
    refine r_astore_n hk [(3, .ref (xad X (2, q4, q5, 0))), (0, .ref (xad X (0, 0, 0, 0))), (1, .int p1), (2, .int p2)] (dtX3_tenant_0 17 (34, .astore_n 3, 1) rfl) (by decide) rfl ?_
    refine r_iload_n hk 3 (dtX3_tenant_0 18 (35, .iload_n 2, 1) rfl) rfl ?_
    by_cases hs36_0 : p2 = 0
    · rw [if_pos hs36_0] at hF
      refine r_tabIn hk 84 (dtX3_tenant_0 19 (36, .tableswitch 95 0 7 #[48, 57, 62, 67, 72, 80, 85, 90], 48) rfl) (by rw [hs36_0]; decide) (by rw [hs36_0]; decide) (by rw [hs36_0]; rfl) (by decide) ?_
      refine r_aload_n hk 1 (dtX3_tenant_0 20 (84, .aload_n 0, 1) rfl) rfl ?_
      refine r_getS hk fl_X3_30 hF (dtX3_tenant_0 21 (85, .getfield 30, 3) rfl) (fun q6 hq6 hF => ?_)
      refine r_iload_n hk 2 (dtX3_tenant_0 22 (88, .iload_n 1, 1) rfl) rfl ?_
      refine r_callI hF (fun v7 h H locs ls hH hS hl => run_V (y := yX1_rowsOf) hk (in_st q6 hq6 0 (by decide)) rfl rfl (c_X1_rowsOf (kl K) hk.2.2.2.2.2.2.2.2.2.2.2 X q6 hq6 p1 m0 v7 h) lk_X3_100 me_X1_rowsOf yf_X1_rowsOf (by decide) (by decide) rfl (Nat.le_of_ble_eq_true rfl) rfl (dtX3_tenant_0 23 (89, .invokevirtual 100, 3) rfl) hH hS hl) (fun v7 hF => ?_)
      cases Option.some.inj hF
      exact hR v7 rfl _ _ (dtX3_tenant_0 24 (92, .ireturn, 1) rfl)
    · rw [if_neg hs36_0] at hF
      by_cases hs36_1 : p2 = 1
      · rw [if_pos hs36_1] at hF
        refine r_tabIn hk 93 (dtX3_tenant_0 19 (36, .tableswitch 95 0 7 #[48, 57, 62, 67, 72, 80, 85, 90], 48) rfl) (by rw [hs36_1]; decide) (by rw [hs36_1]; decide) (by rw [hs36_1]; rfl) (by decide) ?_
        refine r_aload_n hk 0 (dtX3_tenant_0 25 (93, .aload_n 3, 1) rfl) rfl ?_
        refine r_callI hF (fun v8 h H locs ls hH hS hl => run_V (y := yX2_meanings) hk (in_tn q4 hq4 q5 hq5 0 (by decide)) rfl rfl (c_X2_meanings (kl K) hk.2.2.2.2.2.2.2.2.2.2.2 X q4 hq4 q5 hq5  m0 v8 h) lk_X3_53 me_X2_meanings yf_X2_meanings (by decide) (by decide) rfl (Nat.le_of_ble_eq_true rfl) rfl (dtX3_tenant_0 26 (94, .invokevirtual 53, 3) rfl) hH hS hl) (fun v8 hF => ?_)
        cases Option.some.inj hF
        exact hR v8 rfl _ _ (dtX3_tenant_0 27 (97, .ireturn, 1) rfl)
      · rw [if_neg hs36_1] at hF
        by_cases hs36_2 : p2 = 2
        · rw [if_pos hs36_2] at hF
          refine r_tabIn hk 98 (dtX3_tenant_0 19 (36, .tableswitch 95 0 7 #[48, 57, 62, 67, 72, 80, 85, 90], 48) rfl) (by rw [hs36_2]; decide) (by rw [hs36_2]; decide) (by rw [hs36_2]; rfl) (by decide) ?_
          refine r_aload_n hk 0 (dtX3_tenant_0 28 (98, .aload_n 3, 1) rfl) rfl ?_
          refine r_getI hk (k := 3) (fsX2 X q4 q5) cbX2 (by decide) fl_X3_103 (in_tn q4 hq4 q5 hq5 0 (by decide)) (fun _ => rfl) (fun _ _ => rfl) hF (dtX3_tenant_0 29 (99, .getfield 103, 3) rfl) (fun v9 hF => ?_)
          cases Option.some.inj hF
          exact hR v9 rfl _ _ (dtX3_tenant_0 30 (102, .ireturn, 1) rfl)
        · rw [if_neg hs36_2] at hF
          by_cases hs36_3 : p2 = 3
          · rw [if_pos hs36_3] at hF
            refine r_tabIn hk 103 (dtX3_tenant_0 19 (36, .tableswitch 95 0 7 #[48, 57, 62, 67, 72, 80, 85, 90], 48) rfl) (by rw [hs36_3]; decide) (by rw [hs36_3]; decide) (by rw [hs36_3]; rfl) (by decide) ?_
            refine r_aload_n hk 0 (dtX3_tenant_0 31 (103, .aload_n 3, 1) rfl) rfl ?_
            refine r_getI hk (k := 4) (fsX2 X q4 q5) cbX2 (by decide) fl_X3_59 (in_tn q4 hq4 q5 hq5 0 (by decide)) (fun _ => rfl) (fun _ _ => rfl) hF (dtX3_tenant_0 32 (104, .getfield 59, 3) rfl) (fun v10 hF => ?_)
            cases Option.some.inj hF
            exact hR v10 rfl _ _ (dtX3_tenant_0 33 (107, .ireturn, 1) rfl)
          · rw [if_neg hs36_3] at hF
            by_cases hs36_4 : p2 = 4
            · rw [if_pos hs36_4] at hF
              refine r_tabIn hk 108 (dtX3_tenant_0 19 (36, .tableswitch 95 0 7 #[48, 57, 62, 67, 72, 80, 85, 90], 48) rfl) (by rw [hs36_4]; decide) (by rw [hs36_4]; decide) (by rw [hs36_4]; rfl) (by decide) ?_
              refine r_aload_n hk 0 (dtX3_tenant_0 34 (108, .aload_n 3, 1) rfl) rfl ?_
              refine r_getI hk (k := 5) (fsX2 X q4 q5) cbX2 (by decide) fl_X3_106 (in_tn q4 hq4 q5 hq5 0 (by decide)) (fun _ => rfl) (fun _ _ => rfl) hF (dtX3_tenant_0 35 (109, .getfield 106, 3) rfl) (fun v11 hF => ?_)
              refine r_callI hF (fun v12 h H locs ls hH hS hl => run_S hk (c_X3_asNumber (kl K) hk.2.2.2.2.2.2.2.2.2.2.2 X  v11 m0 v12 h) lk_X3_96 me_X3_asNumber yf_X3_asNumber (by decide) (by decide) rfl (Nat.le_of_ble_eq_true rfl) rfl (dtX3_tenant_0 36 (112, .invokestatic 96, 3) rfl) hH hS hl) (fun v12 hF => ?_)
              cases Option.some.inj hF
              exact hR v12 rfl _ _ (dtX3_tenant_0 37 (115, .ireturn, 1) rfl)
            · rw [if_neg hs36_4] at hF
              by_cases hs36_5 : p2 = 5
              · rw [if_pos hs36_5] at hF
                refine r_tabIn hk 116 (dtX3_tenant_0 19 (36, .tableswitch 95 0 7 #[48, 57, 62, 67, 72, 80, 85, 90], 48) rfl) (by rw [hs36_5]; decide) (by rw [hs36_5]; decide) (by rw [hs36_5]; rfl) (by decide) ?_
                refine r_aload_n hk 0 (dtX3_tenant_0 38 (116, .aload_n 3, 1) rfl) rfl ?_
                refine r_getI hk (k := 6) (fsX2 X q4 q5) cbX2 (by decide) fl_X3_166 (in_tn q4 hq4 q5 hq5 0 (by decide)) (fun _ => rfl) (fun _ _ => rfl) hF (dtX3_tenant_0 39 (117, .getfield 166, 3) rfl) (fun v13 hF => ?_)
                cases Option.some.inj hF
                exact hR v13 rfl _ _ (dtX3_tenant_0 40 (120, .ireturn, 1) rfl)
              · rw [if_neg hs36_5] at hF
                by_cases hs36_6 : p2 = 6
                · rw [if_pos hs36_6] at hF
                  refine r_tabIn hk 121 (dtX3_tenant_0 19 (36, .tableswitch 95 0 7 #[48, 57, 62, 67, 72, 80, 85, 90], 48) rfl) (by rw [hs36_6]; decide) (by rw [hs36_6]; decide) (by rw [hs36_6]; rfl) (by decide) ?_
                  refine r_aload_n hk 0 (dtX3_tenant_0 41 (121, .aload_n 3, 1) rfl) rfl ?_
                  refine r_getI hk (k := 7) (fsX2 X q4 q5) cbX2 (by decide) fl_X3_169 (in_tn q4 hq4 q5 hq5 0 (by decide)) (fun _ => rfl) (fun _ _ => rfl) hF (dtX3_tenant_0 42 (122, .getfield 169, 3) rfl) (fun v14 hF => ?_)
                  cases Option.some.inj hF
                  exact hR v14 rfl _ _ (dtX3_tenant_0 43 (125, .ireturn, 1) rfl)
                · rw [if_neg hs36_6] at hF
                  by_cases hs36_7 : p2 = 7
                  · rw [if_pos hs36_7] at hF
                    refine r_tabIn hk 126 (dtX3_tenant_0 19 (36, .tableswitch 95 0 7 #[48, 57, 62, 67, 72, 80, 85, 90], 48) rfl) (by rw [hs36_7]; decide) (by rw [hs36_7]; decide) (by rw [hs36_7]; rfl) (by decide) ?_
                    refine r_aload_n hk 0 (dtX3_tenant_0 44 (126, .aload_n 3, 1) rfl) rfl ?_
                    refine r_getI hk (k := 8) (fsX2 X q4 q5) cbX2 (by decide) fl_X3_176 (in_tn q4 hq4 q5 hq5 0 (by decide)) (fun _ => rfl) (fun _ _ => rfl) hF (dtX3_tenant_0 45 (127, .getfield 176, 3) rfl) (fun v15 hF => ?_)
                    cases Option.some.inj hF
                    exact hR v15 rfl _ _ (dtX3_tenant_0 46 (130, .ireturn, 1) rfl)
                  · rw [if_neg hs36_7] at hF
                    refine r_tabOut hk 131 (dtX3_tenant_0 19 (36, .tableswitch 95 0 7 #[48, 57, 62, 67, 72, 80, 85, 90], 48) rfl) (by have q0 := lv_neT hs36_0 (a := 0) rfl; have q1 := lv_neT hs36_1 (a := 1) rfl; have q2 := lv_neT hs36_2 (a := 2) rfl; have q3 := lv_neT hs36_3 (a := 3) rfl; have q4 := lv_neT hs36_4 (a := 4) rfl; have q5 := lv_neT hs36_5 (a := 5) rfl; have q6 := lv_neT hs36_6 (a := 6) rfl; have q7 := lv_neT hs36_7 (a := 7) rfl; omega) (by decide) ?_
                    refine r_aload_n hk 0 (dtX3_tenant_0 47 (131, .aload_n 3, 1) rfl) rfl ?_
                    refine r_getI hk (k := 9) (fsX2 X q4 q5) cbX2 (by decide) fl_X3_194 (in_tn q4 hq4 q5 hq5 0 (by decide)) (fun _ => rfl) (fun _ _ => rfl) hF (dtX3_tenant_0 48 (132, .getfield 194, 3) rfl) (fun v16 hF => ?_)
                    cases Option.some.inj hF
                    exact hR v16 rfl _ _ (dtX3_tenant_0 49 (135, .ireturn, 1) rfl)
  have j21_17 : (J_X3_tenant_21 p1 p2 m0) = some rv → G X K 21 [(0, .ref (xad X (0, 0, 0, 0))), (1, .int p1), (2, .int p2)] [] m0 := by
    intro hF
    unfold J_X3_tenant_21 at hF
    refine r_iconst (v := 0) hk (dtX3_tenant_0 10 (21, .iconst 0, 1) rfl) (by decide) ?_
    exact r_sub hk [0, 1, 2] rfl (j22_3 0 hF)
  refine r_if_eq hk 21 hF (dtX3_tenant_0 2 (4, .ifCond .eq 17, 3) rfl) (by decide) (fun hF => ?_) (fun hF => ?_)
  · exact r_sub hk [0, 1, 2] rfl (j21_17 hF)
  · refine r_iload_n hk 2 (dtX3_tenant_0 3 (7, .iload_n 2, 1) rfl) rfl ?_
    refine r_if_lt hk 21 hF (dtX3_tenant_0 4 (8, .ifCond .lt 13, 3) rfl) (by decide) (fun hF => ?_) (fun hF => ?_)
    · exact r_sub hk [0, 1, 2] rfl (j21_17 hF)
    · refine r_iload_n hk 2 (dtX3_tenant_0 5 (11, .iload_n 2, 1) rfl) rfl ?_
      refine r_bipush (v := 8) hk (dtX3_tenant_0 6 (12, .bipush 8, 2) rfl) (by decide) ?_
      refine r_icmp_gt hk 21 hF (dtX3_tenant_0 7 (14, .if_icmp .gt 7, 3) rfl) (by decide) (fun hF => ?_) (fun hF => ?_)
      · exact r_sub hk [0, 1, 2] rfl (j21_17 hF)
      · refine r_iconst (v := 1) hk (dtX3_tenant_0 8 (17, .iconst 1, 1) rfl) (by decide) ?_
        refine r_goto hk 22 (dtX3_tenant_0 9 (18, .goto 4, 3) rfl) (by decide) ?_
        exact r_sub hk [0, 1, 2] rfl (j22_3 1 hF)
set_option maxHeartbeats 4000000 in
set_option maxRecDepth 100000 in
theorem c_X1_ownerOf (l : Launch) (hlf : l.stackTraces = false) (X : XW) (i0 : Nat) (hi0 : i0 < 7) (p1 : Int32) (m0 : Mem) (rv : Nat) (hF : F_X1_ownerOf i0 p1 m0 = some rv) : MX X l yX1_ownerOf cX1_ownerOf 2 (some (.object RX2)) 0 [.ref (xad X (1, i0, 0, 0)), .int p1] m0 (QR X (xad X (2, i0, rv, 0)) m0) := by
  refine startR hlf (by decide +kernel) rfl [(0, .ref (xad X (1, i0, 0, 0))), (1, .int p1)] rfl (Nat.le_of_ble_eq_true rfl) (fun K hk hR => ?_)
  unfold F_X1_ownerOf at hF
  refine r_aload_n hk 0 (dtX1_ownerOf_0 0 (0, .aload_n 0, 1) rfl) rfl ?_
  refine r_getR hk (k := 0) (fsX1 X i0) cbX1 (by decide) fl_X1_11 (in_st i0 hi0 0 (by decide)) (fun _ => rfl) (fun _ _ => rfl) (dtX1_ownerOf_0 1 (1, .getfield 11, 3) rfl) ?_
  refine r_aload_n hk 0 (dtX1_ownerOf_0 2 (4, .aload_n 0, 1) rfl) rfl ?_
  refine r_getR hk (k := 1) (fsX1 X i0) cbX1 (by decide) fl_X1_17 (in_st i0 hi0 0 (by decide)) (fun _ => rfl) (fun _ _ => rfl) (dtX1_ownerOf_0 3 (5, .getfield 17, 3) rfl) ?_
  refine r_iload_n hk 1 (dtX1_ownerOf_0 4 (8, .iload_n 1, 1) rfl) rfl ?_
  refine r_iald hk (in_st i0 hi0 2 (by decide)) (fun _ => rfl) hF (dtX1_ownerOf_0 5 (9, .iaload, 1) rfl) (fun v1 hF => ?_)
  refine r_aldT hk hi0 hF (dtX1_ownerOf_0 6 (10, .aaload, 1) rfl) (fun q2 hq2 hF => ?_)
  cases Option.some.inj hF
  exact hR _ _ (dtX1_ownerOf_0 7 (11, .areturn, 1) rfl)
set_option maxHeartbeats 4000000 in
set_option maxRecDepth 100000 in
theorem c_X1_tableRows (l : Launch) (hlf : l.stackTraces = false) (X : XW) (i0 : Nat) (hi0 : i0 < 7)  (m0 : Mem) (rv : Int32) (hF : F_X1_tableRows i0 m0 = some rv) : MX X l yX1_tableRows cX1_tableRows 3 (some .int) 1 [.ref (xad X (1, i0, 0, 0))] m0 (QI X rv m0) := by
  refine startI hlf (by decide +kernel) rfl [(0, .ref (xad X (1, i0, 0, 0)))] rfl (Nat.le_of_ble_eq_true rfl) (fun K hk hR => ?_)
  unfold F_X1_tableRows at hF
  refine r_iconst (v := 0) hk (dtX1_tableRows_0 0 (0, .iconst 0, 1) rfl) (by decide) ?_
  refine r_istore_n hk [(1, .int 0), (0, .ref (xad X (1, i0, 0, 0)))] (dtX1_tableRows_0 1 (1, .istore_n 1, 1) rfl) (by decide) rfl ?_
  refine r_iconst (v := 0) hk (dtX1_tableRows_0 2 (2, .iconst 0, 1) rfl) (by decide) ?_
  refine r_istore_n hk [(2, .int 0), (1, .int 0), (0, .ref (xad X (1, i0, 0, 0)))] (dtX1_tableRows_0 3 (3, .istore_n 2, 1) rfl) (by decide) rfl ?_
  have e40_2 : ∀ (v1 : Int32), C_X1_tableRows_40 v1 = some rv → G X K 40 [(1, .int v1)] [] m0 := by
    intro v1 hF
    unfold C_X1_tableRows_40 at hF
    refine r_iload_n hk 0 (dtX1_tableRows_0 22 (40, .iload_n 1, 1) rfl) rfl ?_
    cases Option.some.inj hF
    exact hR _ _ (dtX1_tableRows_0 23 (41, .ireturn, 1) rfl)
  have l6 : ∀ (n6 : Nat) (v3 : Int32) (v4 : Int32), L_X1_tableRows_4 i0 m0 n6 v3 v4 = some rv → G X K 4 [(0, .ref (xad X (1, i0, 0, 0))), (1, .int v3), (2, .int v4)] [] m0 := by
    intro n6
    induction n6 with
    | zero => intro v3 v4 hF; exact nomatch (show (none : Option Int32) = some rv from hF)
    | succ n6 ih6 =>
      intro v3 v4 hF
      rw [L_X1_tableRows_4] at hF
      refine r_iload_n hk 2 (dtX1_tableRows_0 4 (4, .iload_n 2, 1) rfl) rfl ?_
      refine r_aload_n hk 0 (dtX1_tableRows_0 5 (5, .aload_n 0, 1) rfl) rfl ?_
      refine r_getI hk (k := 3) (fsX1 X i0) cbX1 (by decide) fl_X1_29 (in_st i0 hi0 0 (by decide)) (fun _ => rfl) (fun _ _ => rfl) hF (dtX1_tableRows_0 6 (6, .getfield 29, 3) rfl) (fun v7 hF => ?_)
      refine r_icmp_ge hk 40 hF (dtX1_tableRows_0 7 (9, .if_icmp .ge 31, 3) rfl) (by decide) (fun hF => ?_) (fun hF => ?_)
      · exact r_sub hk [1] rfl (e40_2 v3 hF)
      · refine r_iload_n hk 1 (dtX1_tableRows_0 8 (12, .iload_n 1, 1) rfl) rfl ?_
        refine r_aload_n hk 0 (dtX1_tableRows_0 9 (13, .aload_n 0, 1) rfl) rfl ?_
        refine r_iload_n hk 2 (dtX1_tableRows_0 10 (14, .iload_n 2, 1) rfl) rfl ?_
        refine r_callR (fun q => xad X (2, i0, q, 0)) hF (fun q8 h H locs ls hH hS hl => run_V (y := yX1_ownerOf) hk (in_st i0 hi0 0 (by decide)) rfl rfl (c_X1_ownerOf (kl K) hk.2.2.2.2.2.2.2.2.2.2.2 X i0 hi0 v4 m0 q8 h) lk_X1_60 me_X1_ownerOf yf_X1_ownerOf (by decide) (by decide) rfl (Nat.le_of_ble_eq_true rfl) rfl (dtX1_tableRows_0 11 (15, .invokevirtual 60, 3) rfl) hH hS hl) (fun q8 _ hF => ?_)
        obtain ⟨hq8, hF⟩ := bp_some hF
        refine r_getI hk (k := 5) (fsX2 X i0 q8) cbX2 (by decide) fl_X1_56 (in_tn i0 hi0 q8 hq8 0 (by decide)) (fun _ => rfl) (fun _ _ => rfl) hF (dtX1_tableRows_0 12 (18, .getfield 56, 3) rfl) (fun v9 hF => ?_)
        have j29_11 : ∀ (v10 : Int32), (J_X1_tableRows_29 m0 v3 v4 (fun w0 w1 => L_X1_tableRows_4 i0 m0 n6 w0 w1)) v10 = some rv → G X K 29 [(0, .ref (xad X (1, i0, 0, 0))), (2, .int v4)] [.int v10, .int v3] m0 := by
          intro v10 hF
          unfold J_X1_tableRows_29 at hF
          refine r_callI hF (fun v12 h H locs ls hH hS hl => run_SN hk (c_X3_asNumber (kl K) hk.2.2.2.2.2.2.2.2.2.2.2 X  v10 m0 v12 h) lk_X1_64 me_X3_asNumber yf_X3_asNumber (by decide) (by decide) rfl (Nat.le_of_ble_eq_true rfl) rfl (dtX1_tableRows_0 17 (29, .invokestatic 64, 3) rfl) hH hS hl) (fun v12 hF => ?_)
          refine r_iadd hk hF (dtX1_tableRows_0 18 (32, .iadd, 1) rfl) (fun v13 hF => ?_)
          refine r_istore_n hk [(1, .int v13), (0, .ref (xad X (1, i0, 0, 0))), (2, .int v4)] (dtX1_tableRows_0 19 (33, .istore_n 1, 1) rfl) (by decide) rfl ?_
          refine r_iinc hk 1 2 (fun v14 => [(2, .int v14), (1, .int v13), (0, .ref (xad X (1, i0, 0, 0)))]) hF (dtX1_tableRows_0 20 (34, .iinc 2 1, 3) rfl) rfl (by decide) (by decide) (fun _ => rfl) (fun v14 hF => ?_)
          refine r_goto hk 4 (dtX1_tableRows_0 21 (37, .goto (-33), 3) rfl) (by decide) ?_
          exact r_sub hk [2, 1, 0] rfl (ih6 v13 v14 hF)
        refine r_if_ne hk 28 hF (dtX1_tableRows_0 13 (21, .ifCond .ne 7, 3) rfl) (by decide) (fun hF => ?_) (fun hF => ?_)
        · refine r_iconst (v := 0) hk (dtX1_tableRows_0 16 (28, .iconst 0, 1) rfl) (by decide) ?_
          exact r_sub hk [0, 2] rfl (j29_11 0 hF)
        · refine r_iconst (v := 1) hk (dtX1_tableRows_0 14 (24, .iconst 1, 1) rfl) (by decide) ?_
          refine r_goto hk 29 (dtX1_tableRows_0 15 (25, .goto 4, 3) rfl) (by decide) ?_
          exact r_sub hk [0, 2] rfl (j29_11 1 hF)
  exact r_sub hk [2, 1, 0] rfl (l6 fu 0 0 hF)
set_option maxHeartbeats 4000000 in
set_option maxRecDepth 100000 in
theorem c_X1_valueAt (l : Launch) (hlf : l.stackTraces = false) (X : XW) (i0 : Nat) (hi0 : i0 < 7) (p1 : Int32) (p2 : Int32) (m0 : Mem) (rv : Int32) (hF : F_X1_valueAt i0 p1 p2 m0 = some rv) : MX X l yX1_valueAt cX1_valueAt 3 (some .int) 0 [.ref (xad X (1, i0, 0, 0)), .int p1, .int p2] m0 (QI X rv m0) := by
  refine startI hlf (by decide +kernel) rfl [(0, .ref (xad X (1, i0, 0, 0))), (1, .int p1), (2, .int p2)] rfl (Nat.le_of_ble_eq_true rfl) (fun K hk hR => ?_)
  unfold F_X1_valueAt at hF
  refine r_iload_n hk 1 (dtX1_valueAt_0 0 (0, .iload_n 1, 1) rfl) rfl ?_
  have j22_1 : J_X1_valueAt_22 = some rv → G X K 22 [] [] m0 := by
    intro hF
    unfold J_X1_valueAt_22 at hF
    refine r_ldc hk cn_X1_39 (dtX1_valueAt_0 11 (22, .ldc 39, 2) rfl) ?_
    cases Option.some.inj hF
    exact hR _ _ (dtX1_valueAt_0 12 (24, .ireturn, 1) rfl)
  refine r_if_lt hk 22 hF (dtX1_valueAt_0 1 (1, .ifCond .lt 21, 3) rfl) (by decide) (fun hF => ?_) (fun hF => ?_)
  · exact r_sub hk [] rfl (j22_1 hF)
  · refine r_iload_n hk 1 (dtX1_valueAt_0 2 (4, .iload_n 1, 1) rfl) rfl ?_
    refine r_aload_n hk 0 (dtX1_valueAt_0 3 (5, .aload_n 0, 1) rfl) rfl ?_
    refine r_getI hk (k := 3) (fsX1 X i0) cbX1 (by decide) fl_X1_29 (in_st i0 hi0 0 (by decide)) (fun _ => rfl) (fun _ _ => rfl) hF (dtX1_valueAt_0 4 (6, .getfield 29, 3) rfl) (fun v2 hF => ?_)
    refine r_icmp_ge hk 22 hF (dtX1_valueAt_0 5 (9, .if_icmp .ge 13, 3) rfl) (by decide) (fun hF => ?_) (fun hF => ?_)
    · exact r_sub hk [] rfl (j22_1 hF)
    · refine r_iload_n hk 2 (dtX1_valueAt_0 6 (12, .iload_n 2, 1) rfl) rfl ?_
      refine r_if_lt hk 22 hF (dtX1_valueAt_0 7 (13, .ifCond .lt 9, 3) rfl) (by decide) (fun hF => ?_) (fun hF => ?_)
      · exact r_sub hk [] rfl (j22_1 hF)
      · refine r_iload_n hk 2 (dtX1_valueAt_0 8 (16, .iload_n 2, 1) rfl) rfl ?_
        refine r_bipush (v := 8) hk (dtX1_valueAt_0 9 (17, .bipush 8, 2) rfl) (by decide) ?_
        refine r_icmp_lt hk 25 hF (dtX1_valueAt_0 10 (19, .if_icmp .lt 6, 3) rfl) (by decide) (fun hF => ?_) (fun hF => ?_)
        · refine r_aload_n hk 0 (dtX1_valueAt_0 13 (25, .aload_n 0, 1) rfl) rfl ?_
          refine r_getR hk (k := 2) (fsX1 X i0) cbX1 (by decide) fl_X1_21 (in_st i0 hi0 0 (by decide)) (fun _ => rfl) (fun _ _ => rfl) (dtX1_valueAt_0 14 (26, .getfield 21, 3) rfl) ?_
          refine r_iload_n hk 1 (dtX1_valueAt_0 15 (29, .iload_n 1, 1) rfl) rfl ?_
          refine r_bipush (v := 8) hk (dtX1_valueAt_0 16 (30, .bipush 8, 2) rfl) (by decide) ?_
          refine r_imul hk hF (dtX1_valueAt_0 17 (32, .imul, 1) rfl) (fun v3 hF => ?_)
          refine r_iload_n hk 2 (dtX1_valueAt_0 18 (33, .iload_n 2, 1) rfl) rfl ?_
          refine r_iadd hk hF (dtX1_valueAt_0 19 (34, .iadd, 1) rfl) (fun v4 hF => ?_)
          refine r_iald hk (in_st i0 hi0 3 (by decide)) (fun _ => rfl) hF (dtX1_valueAt_0 20 (35, .iaload, 1) rfl) (fun v5 hF => ?_)
          cases Option.some.inj hF
          exact hR _ _ (dtX1_valueAt_0 21 (36, .ireturn, 1) rfl)
        · exact r_sub hk [] rfl (j22_1 hF)
set_option maxHeartbeats 4000000 in
set_option maxRecDepth 100000 in
theorem c_X1_valuesIn (l : Launch) (hlf : l.stackTraces = false) (X : XW) (i0 : Nat) (hi0 : i0 < 7) (p1 : Int32) (m0 : Mem) (rv : Int32) (hF : F_X1_valuesIn i0 p1 m0 = some rv) : MX X l yX1_valuesIn cX1_valuesIn 4 (some .int) 1 [.ref (xad X (1, i0, 0, 0)), .int p1] m0 (QI X rv m0) := by
  refine startI hlf (by decide +kernel) rfl [(0, .ref (xad X (1, i0, 0, 0))), (1, .int p1)] rfl (Nat.le_of_ble_eq_true rfl) (fun K hk hR => ?_)
  unfold F_X1_valuesIn at hF
  refine r_iconst (v := 0) hk (dtX1_valuesIn_0 0 (0, .iconst 0, 1) rfl) (by decide) ?_
  refine r_istore_n hk [(2, .int 0), (0, .ref (xad X (1, i0, 0, 0))), (1, .int p1)] (dtX1_valuesIn_0 1 (1, .istore_n 2, 1) rfl) (by decide) rfl ?_
  refine r_iconst (v := 0) hk (dtX1_valuesIn_0 2 (2, .iconst 0, 1) rfl) (by decide) ?_
  refine r_istore_n hk [(3, .int 0), (2, .int 0), (0, .ref (xad X (1, i0, 0, 0))), (1, .int p1)] (dtX1_valuesIn_0 3 (3, .istore_n 3, 1) rfl) (by decide) rfl ?_
  have e38_2 : ∀ (v1 : Int32), C_X1_valuesIn_38 v1 = some rv → G X K 38 [(2, .int v1)] [] m0 := by
    intro v1 hF
    unfold C_X1_valuesIn_38 at hF
    refine r_iload_n hk 0 (dtX1_valuesIn_0 22 (38, .iload_n 2, 1) rfl) rfl ?_
    cases Option.some.inj hF
    exact hR _ _ (dtX1_valuesIn_0 23 (39, .ireturn, 1) rfl)
  have l6 : ∀ (n6 : Nat) (v3 : Int32) (v4 : Int32), L_X1_valuesIn_4 i0 p1 m0 n6 v3 v4 = some rv → G X K 4 [(0, .ref (xad X (1, i0, 0, 0))), (1, .int p1), (2, .int v3), (3, .int v4)] [] m0 := by
    intro n6
    induction n6 with
    | zero => intro v3 v4 hF; exact nomatch (show (none : Option Int32) = some rv from hF)
    | succ n6 ih6 =>
      intro v3 v4 hF
      rw [L_X1_valuesIn_4] at hF
      refine r_iload_n hk 3 (dtX1_valuesIn_0 4 (4, .iload_n 3, 1) rfl) rfl ?_
      refine r_bipush (v := 8) hk (dtX1_valuesIn_0 5 (5, .bipush 8, 2) rfl) (by decide) ?_
      refine r_icmp_ge hk 38 hF (dtX1_valuesIn_0 6 (7, .if_icmp .ge 31, 3) rfl) (by decide) (fun hF => ?_) (fun hF => ?_)
      · exact r_sub hk [2] rfl (e38_2 v3 hF)
      · refine r_iload_n hk 2 (dtX1_valuesIn_0 7 (10, .iload_n 2, 1) rfl) rfl ?_
        refine r_aload_n hk 0 (dtX1_valuesIn_0 8 (11, .aload_n 0, 1) rfl) rfl ?_
        refine r_iload_n hk 1 (dtX1_valuesIn_0 9 (12, .iload_n 1, 1) rfl) rfl ?_
        refine r_iload_n hk 3 (dtX1_valuesIn_0 10 (13, .iload_n 3, 1) rfl) rfl ?_
        refine r_callI hF (fun v7 h H locs ls hH hS hl => run_V (y := yX1_valueAt) hk (in_st i0 hi0 0 (by decide)) rfl rfl (c_X1_valueAt (kl K) hk.2.2.2.2.2.2.2.2.2.2.2 X i0 hi0 p1 v4 m0 v7 h) lk_X1_40 me_X1_valueAt yf_X1_valueAt (by decide) (by decide) rfl (Nat.le_of_ble_eq_true rfl) rfl (dtX1_valuesIn_0 11 (14, .invokevirtual 40, 3) rfl) hH hS hl) (fun v7 hF => ?_)
        refine r_ldc hk cn_X1_39 (dtX1_valuesIn_0 12 (17, .ldc 39, 2) rfl) ?_
        have j27_9 : ∀ (v8 : Int32), (J_X1_valuesIn_27 m0 v3 v4 (fun w0 w1 => L_X1_valuesIn_4 i0 p1 m0 n6 w0 w1)) v8 = some rv → G X K 27 [(0, .ref (xad X (1, i0, 0, 0))), (1, .int p1), (3, .int v4)] [.int v8, .int v3] m0 := by
          intro v8 hF
          unfold J_X1_valuesIn_27 at hF
          refine r_callI hF (fun v10 h H locs ls hH hS hl => run_SN hk (c_X3_asNumber (kl K) hk.2.2.2.2.2.2.2.2.2.2.2 X  v8 m0 v10 h) lk_X1_64 me_X3_asNumber yf_X3_asNumber (by decide) (by decide) rfl (Nat.le_of_ble_eq_true rfl) rfl (dtX1_valuesIn_0 17 (27, .invokestatic 64, 3) rfl) hH hS hl) (fun v10 hF => ?_)
          refine r_iadd hk hF (dtX1_valuesIn_0 18 (30, .iadd, 1) rfl) (fun v11 hF => ?_)
          refine r_istore_n hk [(2, .int v11), (0, .ref (xad X (1, i0, 0, 0))), (1, .int p1), (3, .int v4)] (dtX1_valuesIn_0 19 (31, .istore_n 2, 1) rfl) (by decide) rfl ?_
          refine r_iinc hk 1 3 (fun v12 => [(3, .int v12), (2, .int v11), (0, .ref (xad X (1, i0, 0, 0))), (1, .int p1)]) hF (dtX1_valuesIn_0 20 (32, .iinc 3 1, 3) rfl) rfl (by decide) (by decide) (fun _ => rfl) (fun v12 hF => ?_)
          refine r_goto hk 4 (dtX1_valuesIn_0 21 (35, .goto (-31), 3) rfl) (by decide) ?_
          exact r_sub hk [2, 3, 1, 0] rfl (ih6 v11 v12 hF)
        refine r_icmp_eq hk 26 hF (dtX1_valuesIn_0 13 (19, .if_icmp .eq 7, 3) rfl) (by decide) (fun hF => ?_) (fun hF => ?_)
        · refine r_iconst (v := 0) hk (dtX1_valuesIn_0 16 (26, .iconst 0, 1) rfl) (by decide) ?_
          exact r_sub hk [0, 1, 3] rfl (j27_9 0 hF)
        · refine r_iconst (v := 1) hk (dtX1_valuesIn_0 14 (22, .iconst 1, 1) rfl) (by decide) ?_
          refine r_goto hk 27 (dtX1_valuesIn_0 15 (23, .goto 4, 3) rfl) (by decide) ?_
          exact r_sub hk [0, 1, 3] rfl (j27_9 1 hF)
  exact r_sub hk [2, 3, 1, 0] rfl (l6 fu 0 0 hF)
set_option maxHeartbeats 4000000 in
set_option maxRecDepth 100000 in
theorem c_X1_tableValues (l : Launch) (hlf : l.stackTraces = false) (X : XW) (i0 : Nat) (hi0 : i0 < 7)  (m0 : Mem) (rv : Int32) (hF : F_X1_tableValues i0 m0 = some rv) : MX X l yX1_tableValues cX1_tableValues 3 (some .int) 2 [.ref (xad X (1, i0, 0, 0))] m0 (QI X rv m0) := by
  refine startI hlf (by decide +kernel) rfl [(0, .ref (xad X (1, i0, 0, 0)))] rfl (Nat.le_of_ble_eq_true rfl) (fun K hk hR => ?_)
  unfold F_X1_tableValues at hF
  refine r_iconst (v := 0) hk (dtX1_tableValues_0 0 (0, .iconst 0, 1) rfl) (by decide) ?_
  refine r_istore_n hk [(1, .int 0), (0, .ref (xad X (1, i0, 0, 0)))] (dtX1_tableValues_0 1 (1, .istore_n 1, 1) rfl) (by decide) rfl ?_
  refine r_iconst (v := 0) hk (dtX1_tableValues_0 2 (2, .iconst 0, 1) rfl) (by decide) ?_
  refine r_istore_n hk [(2, .int 0), (1, .int 0), (0, .ref (xad X (1, i0, 0, 0)))] (dtX1_tableValues_0 3 (3, .istore_n 2, 1) rfl) (by decide) rfl ?_
  have e41_2 : ∀ (v1 : Int32), C_X1_tableValues_41 v1 = some rv → G X K 41 [(1, .int v1)] [] m0 := by
    intro v1 hF
    unfold C_X1_tableValues_41 at hF
    refine r_iload_n hk 0 (dtX1_tableValues_0 23 (41, .iload_n 1, 1) rfl) rfl ?_
    cases Option.some.inj hF
    exact hR _ _ (dtX1_tableValues_0 24 (42, .ireturn, 1) rfl)
  have l6 : ∀ (n6 : Nat) (v3 : Int32) (v4 : Int32), L_X1_tableValues_4 i0 m0 n6 v3 v4 = some rv → G X K 4 [(0, .ref (xad X (1, i0, 0, 0))), (1, .int v3), (2, .int v4)] [] m0 := by
    intro n6
    induction n6 with
    | zero => intro v3 v4 hF; exact nomatch (show (none : Option Int32) = some rv from hF)
    | succ n6 ih6 =>
      intro v3 v4 hF
      rw [L_X1_tableValues_4] at hF
      refine r_iload_n hk 2 (dtX1_tableValues_0 4 (4, .iload_n 2, 1) rfl) rfl ?_
      refine r_aload_n hk 0 (dtX1_tableValues_0 5 (5, .aload_n 0, 1) rfl) rfl ?_
      refine r_getI hk (k := 3) (fsX1 X i0) cbX1 (by decide) fl_X1_29 (in_st i0 hi0 0 (by decide)) (fun _ => rfl) (fun _ _ => rfl) hF (dtX1_tableValues_0 6 (6, .getfield 29, 3) rfl) (fun v7 hF => ?_)
      refine r_icmp_ge hk 41 hF (dtX1_tableValues_0 7 (9, .if_icmp .ge 32, 3) rfl) (by decide) (fun hF => ?_) (fun hF => ?_)
      · exact r_sub hk [1] rfl (e41_2 v3 hF)
      · refine r_iload_n hk 1 (dtX1_tableValues_0 8 (12, .iload_n 1, 1) rfl) rfl ?_
        refine r_aload_n hk 0 (dtX1_tableValues_0 9 (13, .aload_n 0, 1) rfl) rfl ?_
        refine r_iload_n hk 2 (dtX1_tableValues_0 10 (14, .iload_n 2, 1) rfl) rfl ?_
        refine r_callR (fun q => xad X (2, i0, q, 0)) hF (fun q8 h H locs ls hH hS hl => run_V (y := yX1_ownerOf) hk (in_st i0 hi0 0 (by decide)) rfl rfl (c_X1_ownerOf (kl K) hk.2.2.2.2.2.2.2.2.2.2.2 X i0 hi0 v4 m0 q8 h) lk_X1_60 me_X1_ownerOf yf_X1_ownerOf (by decide) (by decide) rfl (Nat.le_of_ble_eq_true rfl) rfl (dtX1_tableValues_0 11 (15, .invokevirtual 60, 3) rfl) hH hS hl) (fun q8 _ hF => ?_)
        obtain ⟨hq8, hF⟩ := bp_some hF
        refine r_getI hk (k := 5) (fsX2 X i0 q8) cbX2 (by decide) fl_X1_56 (in_tn i0 hi0 q8 hq8 0 (by decide)) (fun _ => rfl) (fun _ _ => rfl) hF (dtX1_tableValues_0 12 (18, .getfield 56, 3) rfl) (fun v9 hF => ?_)
        have j33_11 : ∀ (v10 : Int32), (J_X1_tableValues_33 v3 v4 (fun w0 w1 => L_X1_tableValues_4 i0 m0 n6 w0 w1)) v10 = some rv → G X K 33 [(0, .ref (xad X (1, i0, 0, 0))), (2, .int v4)] [.int v10, .int v3] m0 := by
          intro v10 hF
          unfold J_X1_tableValues_33 at hF
          refine r_iadd hk hF (dtX1_tableValues_0 19 (33, .iadd, 1) rfl) (fun v12 hF => ?_)
          refine r_istore_n hk [(1, .int v12), (0, .ref (xad X (1, i0, 0, 0))), (2, .int v4)] (dtX1_tableValues_0 20 (34, .istore_n 1, 1) rfl) (by decide) rfl ?_
          refine r_iinc hk 1 2 (fun v13 => [(2, .int v13), (1, .int v12), (0, .ref (xad X (1, i0, 0, 0)))]) hF (dtX1_tableValues_0 21 (35, .iinc 2 1, 3) rfl) rfl (by decide) (by decide) (fun _ => rfl) (fun v13 hF => ?_)
          refine r_goto hk 4 (dtX1_tableValues_0 22 (38, .goto (-34), 3) rfl) (by decide) ?_
          exact r_sub hk [2, 1, 0] rfl (ih6 v12 v13 hF)
        refine r_if_eq hk 28 hF (dtX1_tableValues_0 13 (21, .ifCond .eq 7, 3) rfl) (by decide) (fun hF => ?_) (fun hF => ?_)
        · refine r_aload_n hk 0 (dtX1_tableValues_0 16 (28, .aload_n 0, 1) rfl) rfl ?_
          refine r_iload_n hk 2 (dtX1_tableValues_0 17 (29, .iload_n 2, 1) rfl) rfl ?_
          refine r_callI hF (fun v14 h H locs ls hH hS hl => run_V (y := yX1_valuesIn) hk (in_st i0 hi0 0 (by decide)) rfl rfl (c_X1_valuesIn (kl K) hk.2.2.2.2.2.2.2.2.2.2.2 X i0 hi0 v4 m0 v14 h) lk_X1_68 me_X1_valuesIn yf_X1_valuesIn (by decide) (by decide) rfl (Nat.le_of_ble_eq_true rfl) rfl (dtX1_tableValues_0 18 (30, .invokevirtual 68, 3) rfl) hH hS hl) (fun v14 hF => ?_)
          exact r_sub hk [0, 2] rfl (j33_11 v14 hF)
        · refine r_iconst (v := 0) hk (dtX1_tableValues_0 14 (24, .iconst 0, 1) rfl) (by decide) ?_
          refine r_goto hk 33 (dtX1_tableValues_0 15 (25, .goto 8, 3) rfl) (by decide) ?_
          exact r_sub hk [0, 2] rfl (j33_11 0 hF)
  exact r_sub hk [2, 1, 0] rfl (l6 fu 0 0 hF)
set_option maxHeartbeats 4000000 in
set_option maxRecDepth 100000 in
theorem c_X1_columnsWithMeanings (l : Launch) (hlf : l.stackTraces = false) (X : XW) (i0 : Nat) (hi0 : i0 < 7) (p1 : Int32) (p2 : Int32) (m0 : Mem) (rv : Int32) (hF : F_X1_columnsWithMeanings i0 p1 p2 m0 = some rv) : MX X l yX1_columnsWithMeanings cX1_columnsWithMeanings 7 (some .int) 1 [.ref (xad X (1, i0, 0, 0)), .int p1, .int p2] m0 (QI X rv m0) := by
  refine startI hlf (by decide +kernel) rfl [(0, .ref (xad X (1, i0, 0, 0))), (1, .int p1), (2, .int p2)] rfl (Nat.le_of_ble_eq_true rfl) (fun K hk hR => ?_)
  unfold F_X1_columnsWithMeanings at hF
  refine r_iconst (v := 0) hk (dtX1_columnsWithMeanings_0 0 (0, .iconst 0, 1) rfl) (by decide) ?_
  refine r_istore_n hk [(3, .int 0), (0, .ref (xad X (1, i0, 0, 0))), (1, .int p1), (2, .int p2)] (dtX1_columnsWithMeanings_0 1 (1, .istore_n 3, 1) rfl) (by decide) rfl ?_
  refine r_iconst (v := 0) hk (dtX1_columnsWithMeanings_0 2 (2, .iconst 0, 1) rfl) (by decide) ?_
  refine r_istore hk [(4, .int 0), (3, .int 0), (0, .ref (xad X (1, i0, 0, 0))), (1, .int p1), (2, .int p2)] (dtX1_columnsWithMeanings_0 3 (3, .istore 4, 2) rfl) (by decide) rfl ?_
  have e89_2 : ∀ (v1 : Int32), C_X1_columnsWithMeanings_89 v1 = some rv → G X K 89 [(3, .int v1)] [] m0 := by
    intro v1 hF
    unfold C_X1_columnsWithMeanings_89 at hF
    refine r_iload_n hk 0 (dtX1_columnsWithMeanings_0 47 (89, .iload_n 3, 1) rfl) rfl ?_
    cases Option.some.inj hF
    exact hR _ _ (dtX1_columnsWithMeanings_0 48 (90, .ireturn, 1) rfl)
  have l6 : ∀ (n6 : Nat) (v3 : Int32) (v4 : Int32), L_X1_columnsWithMeanings_5 i0 p1 p2 m0 n6 v3 v4 = some rv → G X K 5 [(0, .ref (xad X (1, i0, 0, 0))), (1, .int p1), (2, .int p2), (3, .int v3), (4, .int v4)] [] m0 := by
    intro n6
    induction n6 with
    | zero => intro v3 v4 hF; exact nomatch (show (none : Option Int32) = some rv from hF)
    | succ n6 ih6 =>
      intro v3 v4 hF
      rw [L_X1_columnsWithMeanings_5] at hF
      refine r_iload hk 4 (dtX1_columnsWithMeanings_0 4 (5, .iload 4, 2) rfl) rfl ?_
      refine r_bipush (v := 8) hk (dtX1_columnsWithMeanings_0 5 (7, .bipush 8, 2) rfl) (by decide) ?_
      refine r_icmp_ge hk 89 hF (dtX1_columnsWithMeanings_0 6 (9, .if_icmp .ge 80, 3) rfl) (by decide) (fun hF => ?_) (fun hF => ?_)
      · exact r_sub hk [3] rfl (e89_2 v3 hF)
      · refine r_iconst (v := 0) hk (dtX1_columnsWithMeanings_0 7 (12, .iconst 0, 1) rfl) (by decide) ?_
        refine r_istore hk [(5, .int 0), (0, .ref (xad X (1, i0, 0, 0))), (1, .int p1), (2, .int p2), (3, .int v3), (4, .int v4)] (dtX1_columnsWithMeanings_0 8 (13, .istore 5, 2) rfl) (by decide) rfl ?_
        refine r_iconst (v := 0) hk (dtX1_columnsWithMeanings_0 9 (15, .iconst 0, 1) rfl) (by decide) ?_
        refine r_istore hk [(6, .int 0), (5, .int 0), (0, .ref (xad X (1, i0, 0, 0))), (1, .int p1), (2, .int p2), (3, .int v3), (4, .int v4)] (dtX1_columnsWithMeanings_0 10 (16, .istore 6, 2) rfl) (by decide) rfl ?_
        have e60_8 : ∀ (v7 : Int32), (C_X1_columnsWithMeanings_60 p1 p2 m0 v3 v4 (fun w0 w1 => L_X1_columnsWithMeanings_5 i0 p1 p2 m0 n6 w0 w1)) v7 = some rv → G X K 60 [(0, .ref (xad X (1, i0, 0, 0))), (1, .int p1), (2, .int p2), (3, .int v3), (4, .int v4), (5, .int v7)] [] m0 := by
          intro v7 hF
          unfold C_X1_columnsWithMeanings_60 at hF
          refine r_iload_n hk 3 (dtX1_columnsWithMeanings_0 32 (60, .iload_n 3, 1) rfl) rfl ?_
          refine r_iload hk 5 (dtX1_columnsWithMeanings_0 33 (61, .iload 5, 2) rfl) rfl ?_
          refine r_iload_n hk 1 (dtX1_columnsWithMeanings_0 34 (63, .iload_n 1, 1) rfl) rfl ?_
          have j78_10 : ∀ (v9 : Int32), (J_X1_columnsWithMeanings_78 m0 v3 v4 (fun w0 w1 => L_X1_columnsWithMeanings_5 i0 p1 p2 m0 n6 w0 w1)) v9 = some rv → G X K 78 [(0, .ref (xad X (1, i0, 0, 0))), (1, .int p1), (2, .int p2), (4, .int v4)] [.int v9, .int v3] m0 := by
            intro v9 hF
            unfold J_X1_columnsWithMeanings_78 at hF
            refine r_callI hF (fun v11 h H locs ls hH hS hl => run_SN hk (c_X3_asNumber (kl K) hk.2.2.2.2.2.2.2.2.2.2.2 X  v9 m0 v11 h) lk_X1_64 me_X3_asNumber yf_X3_asNumber (by decide) (by decide) rfl (Nat.le_of_ble_eq_true rfl) rfl (dtX1_columnsWithMeanings_0 42 (78, .invokestatic 64, 3) rfl) hH hS hl) (fun v11 hF => ?_)
            refine r_iadd hk hF (dtX1_columnsWithMeanings_0 43 (81, .iadd, 1) rfl) (fun v12 hF => ?_)
            refine r_istore_n hk [(3, .int v12), (0, .ref (xad X (1, i0, 0, 0))), (1, .int p1), (2, .int p2), (4, .int v4)] (dtX1_columnsWithMeanings_0 44 (82, .istore_n 3, 1) rfl) (by decide) rfl ?_
            refine r_iinc hk 1 4 (fun v13 => [(4, .int v13), (3, .int v12), (0, .ref (xad X (1, i0, 0, 0))), (1, .int p1), (2, .int p2)]) hF (dtX1_columnsWithMeanings_0 45 (83, .iinc 4 1, 3) rfl) rfl (by decide) (by decide) (fun _ => rfl) (fun v13 hF => ?_)
            refine r_goto hk 5 (dtX1_columnsWithMeanings_0 46 (86, .goto (-81), 3) rfl) (by decide) ?_
            exact r_sub hk [2, 3, 4, 1, 0] rfl (ih6 v12 v13 hF)
          have j77_14 : (J_X1_columnsWithMeanings_77 m0 v3 v4 (fun w0 w1 => L_X1_columnsWithMeanings_5 i0 p1 p2 m0 n6 w0 w1)) = some rv → G X K 77 [(0, .ref (xad X (1, i0, 0, 0))), (1, .int p1), (2, .int p2), (4, .int v4)] [.int v3] m0 := by
            intro hF
            unfold J_X1_columnsWithMeanings_77 at hF
            refine r_iconst (v := 0) hk (dtX1_columnsWithMeanings_0 41 (77, .iconst 0, 1) rfl) (by decide) ?_
            exact r_sub hk [0, 1, 2, 3] rfl (j78_10 0 hF)
          refine r_icmp_lt hk 77 hF (dtX1_columnsWithMeanings_0 35 (64, .if_icmp .lt 13, 3) rfl) (by decide) (fun hF => ?_) (fun hF => ?_)
          · exact r_sub hk [0, 1, 2, 4] rfl (j77_14 hF)
          · refine r_iload hk 5 (dtX1_columnsWithMeanings_0 36 (67, .iload 5, 2) rfl) rfl ?_
            refine r_iload_n hk 2 (dtX1_columnsWithMeanings_0 37 (69, .iload_n 2, 1) rfl) rfl ?_
            refine r_icmp_gt hk 77 hF (dtX1_columnsWithMeanings_0 38 (70, .if_icmp .gt 7, 3) rfl) (by decide) (fun hF => ?_) (fun hF => ?_)
            · exact r_sub hk [0, 1, 2, 4] rfl (j77_14 hF)
            · refine r_iconst (v := 1) hk (dtX1_columnsWithMeanings_0 39 (73, .iconst 1, 1) rfl) (by decide) ?_
              refine r_goto hk 78 (dtX1_columnsWithMeanings_0 40 (74, .goto 4, 3) rfl) (by decide) ?_
              exact r_sub hk [0, 1, 2, 4] rfl (j78_10 1 hF)
        have l18 : ∀ (n18 : Nat) (v15 : Int32) (v16 : Int32), L_X1_columnsWithMeanings_18 i0 p1 p2 m0 v3 v4 (fun w0 w1 => L_X1_columnsWithMeanings_5 i0 p1 p2 m0 n6 w0 w1) n18 v15 v16 = some rv → G X K 18 [(0, .ref (xad X (1, i0, 0, 0))), (1, .int p1), (2, .int p2), (3, .int v3), (4, .int v4), (5, .int v15), (6, .int v16)] [] m0 := by
          intro n18
          induction n18 with
          | zero => intro v15 v16 hF; exact nomatch (show (none : Option Int32) = some rv from hF)
          | succ n18 ih18 =>
            intro v15 v16 hF
            rw [L_X1_columnsWithMeanings_18] at hF
            refine r_iload hk 6 (dtX1_columnsWithMeanings_0 11 (18, .iload 6, 2) rfl) rfl ?_
            refine r_iconst (v := 3) hk (dtX1_columnsWithMeanings_0 12 (20, .iconst 3, 1) rfl) (by decide) ?_
            refine r_icmp_ge hk 60 hF (dtX1_columnsWithMeanings_0 13 (21, .if_icmp .ge 39, 3) rfl) (by decide) (fun hF => ?_) (fun hF => ?_)
            · exact r_sub hk [0, 1, 2, 3, 4, 5] rfl (e60_8 v15 hF)
            · refine r_iload hk 5 (dtX1_columnsWithMeanings_0 14 (24, .iload 5, 2) rfl) rfl ?_
              refine r_aload_n hk 0 (dtX1_columnsWithMeanings_0 15 (26, .aload_n 0, 1) rfl) rfl ?_
              refine r_getR hk (k := 0) (fsX1 X i0) cbX1 (by decide) fl_X1_11 (in_st i0 hi0 0 (by decide)) (fun _ => rfl) (fun _ _ => rfl) (dtX1_columnsWithMeanings_0 16 (27, .getfield 11, 3) rfl) ?_
              refine r_iload hk 6 (dtX1_columnsWithMeanings_0 17 (30, .iload 6, 2) rfl) rfl ?_
              refine r_aldT hk hi0 hF (dtX1_columnsWithMeanings_0 18 (32, .aaload, 1) rfl) (fun q19 hq19 hF => ?_)
              refine r_getR hk (k := 0) (fsX2 X i0 q19) cbX2 (by decide) fl_X1_82 (in_tn i0 hi0 q19 hq19 0 (by decide)) (fun _ => rfl) (fun _ _ => rfl) (dtX1_columnsWithMeanings_0 19 (33, .getfield 82, 3) rfl) ?_
              refine r_iload hk 4 (dtX1_columnsWithMeanings_0 20 (36, .iload 4, 2) rfl) rfl ?_
              refine r_iald hk (in_tn i0 hi0 q19 hq19 1 (by decide)) (fun _ => rfl) hF (dtX1_columnsWithMeanings_0 21 (38, .iaload, 1) rfl) (fun v20 hF => ?_)
              refine r_iconst (v := (-1)) hk (dtX1_columnsWithMeanings_0 22 (39, .iconst (-1), 1) rfl) (by decide) ?_
              have j48_22 : ∀ (v21 : Int32), (J_X1_columnsWithMeanings_48 m0 v15 v16 (fun w0 w1 => L_X1_columnsWithMeanings_18 i0 p1 p2 m0 v3 v4 (fun w0 w1 => L_X1_columnsWithMeanings_5 i0 p1 p2 m0 n6 w0 w1) n18 w0 w1)) v21 = some rv → G X K 48 [(0, .ref (xad X (1, i0, 0, 0))), (1, .int p1), (2, .int p2), (3, .int v3), (4, .int v4), (6, .int v16)] [.int v21, .int v15] m0 := by
                intro v21 hF
                unfold J_X1_columnsWithMeanings_48 at hF
                refine r_callI hF (fun v23 h H locs ls hH hS hl => run_SN hk (c_X3_asNumber (kl K) hk.2.2.2.2.2.2.2.2.2.2.2 X  v21 m0 v23 h) lk_X1_64 me_X3_asNumber yf_X3_asNumber (by decide) (by decide) rfl (Nat.le_of_ble_eq_true rfl) rfl (dtX1_columnsWithMeanings_0 27 (48, .invokestatic 64, 3) rfl) hH hS hl) (fun v23 hF => ?_)
                refine r_iadd hk hF (dtX1_columnsWithMeanings_0 28 (51, .iadd, 1) rfl) (fun v24 hF => ?_)
                refine r_istore hk [(5, .int v24), (0, .ref (xad X (1, i0, 0, 0))), (1, .int p1), (2, .int p2), (3, .int v3), (4, .int v4), (6, .int v16)] (dtX1_columnsWithMeanings_0 29 (52, .istore 5, 2) rfl) (by decide) rfl ?_
                refine r_iinc hk 1 6 (fun v25 => [(6, .int v25), (5, .int v24), (0, .ref (xad X (1, i0, 0, 0))), (1, .int p1), (2, .int p2), (3, .int v3), (4, .int v4)]) hF (dtX1_columnsWithMeanings_0 30 (54, .iinc 6 1, 3) rfl) rfl (by decide) (by decide) (fun _ => rfl) (fun v25 hF => ?_)
                refine r_goto hk 18 (dtX1_columnsWithMeanings_0 31 (57, .goto (-39), 3) rfl) (by decide) ?_
                exact r_sub hk [2, 3, 4, 5, 6, 1, 0] rfl (ih18 v24 v25 hF)
              refine r_icmp_eq hk 47 hF (dtX1_columnsWithMeanings_0 23 (40, .if_icmp .eq 7, 3) rfl) (by decide) (fun hF => ?_) (fun hF => ?_)
              · refine r_iconst (v := 0) hk (dtX1_columnsWithMeanings_0 26 (47, .iconst 0, 1) rfl) (by decide) ?_
                exact r_sub hk [0, 1, 2, 3, 4, 6] rfl (j48_22 0 hF)
              · refine r_iconst (v := 1) hk (dtX1_columnsWithMeanings_0 24 (43, .iconst 1, 1) rfl) (by decide) ?_
                refine r_goto hk 48 (dtX1_columnsWithMeanings_0 25 (44, .goto 4, 3) rfl) (by decide) ?_
                exact r_sub hk [0, 1, 2, 3, 4, 6] rfl (j48_22 1 hF)
        exact r_sub hk [2, 3, 4, 5, 6, 1, 0] rfl (l18 fu 0 0 hF)
  exact r_sub hk [2, 3, 4, 1, 0] rfl (l6 fu 0 0 hF)
set_option maxHeartbeats 4000000 in
set_option maxRecDepth 100000 in
theorem c_X1_indexes (l : Launch) (hlf : l.stackTraces = false) (X : XW) (i0 : Nat) (hi0 : i0 < 7)  (m0 : Mem) (rv : Int32) (hF : F_X1_indexes i0 m0 = some rv) : MX X l yX1_indexes cX1_indexes 4 (some .int) 1 [.ref (xad X (1, i0, 0, 0))] m0 (QI X rv m0) := by
  refine startI hlf (by decide +kernel) rfl [(0, .ref (xad X (1, i0, 0, 0)))] rfl (Nat.le_of_ble_eq_true rfl) (fun K hk hR => ?_)
  unfold F_X1_indexes at hF
  refine r_iconst (v := 0) hk (dtX1_indexes_0 0 (0, .iconst 0, 1) rfl) (by decide) ?_
  refine r_istore_n hk [(1, .int 0), (0, .ref (xad X (1, i0, 0, 0)))] (dtX1_indexes_0 1 (1, .istore_n 1, 1) rfl) (by decide) rfl ?_
  refine r_iconst (v := 0) hk (dtX1_indexes_0 2 (2, .iconst 0, 1) rfl) (by decide) ?_
  refine r_istore_n hk [(2, .int 0), (1, .int 0), (0, .ref (xad X (1, i0, 0, 0)))] (dtX1_indexes_0 3 (3, .istore_n 2, 1) rfl) (by decide) rfl ?_
  have e46_2 : ∀ (v1 : Int32), C_X1_indexes_46 v1 = some rv → G X K 46 [(1, .int v1)] [] m0 := by
    intro v1 hF
    unfold C_X1_indexes_46 at hF
    refine r_iload_n hk 0 (dtX1_indexes_0 27 (46, .iload_n 1, 1) rfl) rfl ?_
    cases Option.some.inj hF
    exact hR _ _ (dtX1_indexes_0 28 (47, .ireturn, 1) rfl)
  have l6 : ∀ (n6 : Nat) (v3 : Int32) (v4 : Int32), L_X1_indexes_4 i0 m0 n6 v3 v4 = some rv → G X K 4 [(0, .ref (xad X (1, i0, 0, 0))), (1, .int v3), (2, .int v4)] [] m0 := by
    intro n6
    induction n6 with
    | zero => intro v3 v4 hF; exact nomatch (show (none : Option Int32) = some rv from hF)
    | succ n6 ih6 =>
      intro v3 v4 hF
      rw [L_X1_indexes_4] at hF
      refine r_iload_n hk 2 (dtX1_indexes_0 4 (4, .iload_n 2, 1) rfl) rfl ?_
      refine r_iconst (v := 3) hk (dtX1_indexes_0 5 (5, .iconst 3, 1) rfl) (by decide) ?_
      refine r_icmp_ge hk 46 hF (dtX1_indexes_0 6 (6, .if_icmp .ge 40, 3) rfl) (by decide) (fun hF => ?_) (fun hF => ?_)
      · exact r_sub hk [1] rfl (e46_2 v3 hF)
      · refine r_iconst (v := 0) hk (dtX1_indexes_0 7 (9, .iconst 0, 1) rfl) (by decide) ?_
        refine r_istore_n hk [(3, .int 0), (0, .ref (xad X (1, i0, 0, 0))), (1, .int v3), (2, .int v4)] (dtX1_indexes_0 8 (10, .istore_n 3, 1) rfl) (by decide) rfl ?_
        have e40_8 : ∀ (v7 : Int32), (C_X1_indexes_40 v4 (fun w0 w1 => L_X1_indexes_4 i0 m0 n6 w0 w1)) v7 = some rv → G X K 40 [(0, .ref (xad X (1, i0, 0, 0))), (1, .int v7), (2, .int v4)] [] m0 := by
          intro v7 hF
          unfold C_X1_indexes_40 at hF
          refine r_iinc hk 1 2 (fun v9 => [(2, .int v9), (0, .ref (xad X (1, i0, 0, 0))), (1, .int v7)]) hF (dtX1_indexes_0 25 (40, .iinc 2 1, 3) rfl) rfl (by decide) (by decide) (fun _ => rfl) (fun v9 hF => ?_)
          refine r_goto hk 4 (dtX1_indexes_0 26 (43, .goto (-39), 3) rfl) (by decide) ?_
          exact r_sub hk [1, 2, 0] rfl (ih6 v7 v9 hF)
        have l13 : ∀ (n13 : Nat) (v10 : Int32) (v11 : Int32), L_X1_indexes_11 i0 m0 v4 (fun w0 w1 => L_X1_indexes_4 i0 m0 n6 w0 w1) n13 v10 v11 = some rv → G X K 11 [(0, .ref (xad X (1, i0, 0, 0))), (1, .int v10), (2, .int v4), (3, .int v11)] [] m0 := by
          intro n13
          induction n13 with
          | zero => intro v10 v11 hF; exact nomatch (show (none : Option Int32) = some rv from hF)
          | succ n13 ih13 =>
            intro v10 v11 hF
            rw [L_X1_indexes_11] at hF
            refine r_iload_n hk 3 (dtX1_indexes_0 9 (11, .iload_n 3, 1) rfl) rfl ?_
            refine r_bipush (v := 8) hk (dtX1_indexes_0 10 (12, .bipush 8, 2) rfl) (by decide) ?_
            refine r_icmp_ge hk 40 hF (dtX1_indexes_0 11 (14, .if_icmp .ge 26, 3) rfl) (by decide) (fun hF => ?_) (fun hF => ?_)
            · exact r_sub hk [0, 1, 2] rfl (e40_8 v10 hF)
            · refine r_iload_n hk 1 (dtX1_indexes_0 12 (17, .iload_n 1, 1) rfl) rfl ?_
              refine r_aload_n hk 0 (dtX1_indexes_0 13 (18, .aload_n 0, 1) rfl) rfl ?_
              refine r_getR hk (k := 0) (fsX1 X i0) cbX1 (by decide) fl_X1_11 (in_st i0 hi0 0 (by decide)) (fun _ => rfl) (fun _ _ => rfl) (dtX1_indexes_0 14 (19, .getfield 11, 3) rfl) ?_
              refine r_iload_n hk 2 (dtX1_indexes_0 15 (22, .iload_n 2, 1) rfl) rfl ?_
              refine r_aldT hk hi0 hF (dtX1_indexes_0 16 (23, .aaload, 1) rfl) (fun q14 hq14 hF => ?_)
              refine r_getR hk (k := 2) (fsX2 X i0 q14) cbX2 (by decide) fl_X1_85 (in_tn i0 hi0 q14 hq14 0 (by decide)) (fun _ => rfl) (fun _ _ => rfl) (dtX1_indexes_0 17 (24, .getfield 85, 3) rfl) ?_
              refine r_iload_n hk 3 (dtX1_indexes_0 18 (27, .iload_n 3, 1) rfl) rfl ?_
              refine r_zald hk (in_tn i0 hi0 q14 hq14 3 (by decide)) (fun _ => rfl) hF (dtX1_indexes_0 19 (28, .baload, 1) rfl) (fun v15 hF => ?_)
              refine r_callI hF (fun v16 h H locs ls hH hS hl => run_SN hk (c_X3_asNumber (kl K) hk.2.2.2.2.2.2.2.2.2.2.2 X  v15 m0 v16 h) lk_X1_64 me_X3_asNumber yf_X3_asNumber (by decide) (by decide) rfl (Nat.le_of_ble_eq_true rfl) rfl (dtX1_indexes_0 20 (29, .invokestatic 64, 3) rfl) hH hS hl) (fun v16 hF => ?_)
              refine r_iadd hk hF (dtX1_indexes_0 21 (32, .iadd, 1) rfl) (fun v17 hF => ?_)
              refine r_istore_n hk [(1, .int v17), (0, .ref (xad X (1, i0, 0, 0))), (2, .int v4), (3, .int v11)] (dtX1_indexes_0 22 (33, .istore_n 1, 1) rfl) (by decide) rfl ?_
              refine r_iinc hk 1 3 (fun v18 => [(3, .int v18), (1, .int v17), (0, .ref (xad X (1, i0, 0, 0))), (2, .int v4)]) hF (dtX1_indexes_0 23 (34, .iinc 3 1, 3) rfl) rfl (by decide) (by decide) (fun _ => rfl) (fun v18 hF => ?_)
              refine r_goto hk 11 (dtX1_indexes_0 24 (37, .goto (-26), 3) rfl) (by decide) ?_
              exact r_sub hk [2, 1, 3, 0] rfl (ih13 v17 v18 hF)
        exact r_sub hk [1, 2, 3, 0] rfl (l13 fu v3 0 hF)
  exact r_sub hk [2, 1, 0] rfl (l6 fu 0 0 hF)
set_option maxHeartbeats 4000000 in
set_option maxRecDepth 100000 in
theorem c_X1_movedTenants (l : Launch) (hlf : l.stackTraces = false) (X : XW) (i0 : Nat) (hi0 : i0 < 7)  (m0 : Mem) (rv : Int32) (hF : F_X1_movedTenants i0 m0 = some rv) : MX X l yX1_movedTenants cX1_movedTenants 3 (some .int) 1 [.ref (xad X (1, i0, 0, 0))] m0 (QI X rv m0) := by
  refine startI hlf (by decide +kernel) rfl [(0, .ref (xad X (1, i0, 0, 0)))] rfl (Nat.le_of_ble_eq_true rfl) (fun K hk hR => ?_)
  unfold F_X1_movedTenants at hF
  refine r_iconst (v := 0) hk (dtX1_movedTenants_0 0 (0, .iconst 0, 1) rfl) (by decide) ?_
  refine r_istore_n hk [(1, .int 0), (0, .ref (xad X (1, i0, 0, 0)))] (dtX1_movedTenants_0 1 (1, .istore_n 1, 1) rfl) (by decide) rfl ?_
  refine r_iconst (v := 0) hk (dtX1_movedTenants_0 2 (2, .iconst 0, 1) rfl) (by decide) ?_
  refine r_istore_n hk [(2, .int 0), (1, .int 0), (0, .ref (xad X (1, i0, 0, 0)))] (dtX1_movedTenants_0 3 (3, .istore_n 2, 1) rfl) (by decide) rfl ?_
  have e30_2 : ∀ (v1 : Int32), C_X1_movedTenants_30 v1 = some rv → G X K 30 [(1, .int v1)] [] m0 := by
    intro v1 hF
    unfold C_X1_movedTenants_30 at hF
    refine r_iload_n hk 0 (dtX1_movedTenants_0 18 (30, .iload_n 1, 1) rfl) rfl ?_
    cases Option.some.inj hF
    exact hR _ _ (dtX1_movedTenants_0 19 (31, .ireturn, 1) rfl)
  have l6 : ∀ (n6 : Nat) (v3 : Int32) (v4 : Int32), L_X1_movedTenants_4 i0 m0 n6 v3 v4 = some rv → G X K 4 [(0, .ref (xad X (1, i0, 0, 0))), (1, .int v3), (2, .int v4)] [] m0 := by
    intro n6
    induction n6 with
    | zero => intro v3 v4 hF; exact nomatch (show (none : Option Int32) = some rv from hF)
    | succ n6 ih6 =>
      intro v3 v4 hF
      rw [L_X1_movedTenants_4] at hF
      refine r_iload_n hk 2 (dtX1_movedTenants_0 4 (4, .iload_n 2, 1) rfl) rfl ?_
      refine r_iconst (v := 3) hk (dtX1_movedTenants_0 5 (5, .iconst 3, 1) rfl) (by decide) ?_
      refine r_icmp_ge hk 30 hF (dtX1_movedTenants_0 6 (6, .if_icmp .ge 24, 3) rfl) (by decide) (fun hF => ?_) (fun hF => ?_)
      · exact r_sub hk [1] rfl (e30_2 v3 hF)
      · refine r_iload_n hk 1 (dtX1_movedTenants_0 7 (9, .iload_n 1, 1) rfl) rfl ?_
        refine r_aload_n hk 0 (dtX1_movedTenants_0 8 (10, .aload_n 0, 1) rfl) rfl ?_
        refine r_getR hk (k := 0) (fsX1 X i0) cbX1 (by decide) fl_X1_11 (in_st i0 hi0 0 (by decide)) (fun _ => rfl) (fun _ _ => rfl) (dtX1_movedTenants_0 9 (11, .getfield 11, 3) rfl) ?_
        refine r_iload_n hk 2 (dtX1_movedTenants_0 10 (14, .iload_n 2, 1) rfl) rfl ?_
        refine r_aldT hk hi0 hF (dtX1_movedTenants_0 11 (15, .aaload, 1) rfl) (fun q7 hq7 hF => ?_)
        refine r_getI hk (k := 5) (fsX2 X i0 q7) cbX2 (by decide) fl_X1_56 (in_tn i0 hi0 q7 hq7 0 (by decide)) (fun _ => rfl) (fun _ _ => rfl) hF (dtX1_movedTenants_0 12 (16, .getfield 56, 3) rfl) (fun v8 hF => ?_)
        refine r_callI hF (fun v9 h H locs ls hH hS hl => run_SN hk (c_X3_asNumber (kl K) hk.2.2.2.2.2.2.2.2.2.2.2 X  v8 m0 v9 h) lk_X1_64 me_X3_asNumber yf_X3_asNumber (by decide) (by decide) rfl (Nat.le_of_ble_eq_true rfl) rfl (dtX1_movedTenants_0 13 (19, .invokestatic 64, 3) rfl) hH hS hl) (fun v9 hF => ?_)
        refine r_iadd hk hF (dtX1_movedTenants_0 14 (22, .iadd, 1) rfl) (fun v10 hF => ?_)
        refine r_istore_n hk [(1, .int v10), (0, .ref (xad X (1, i0, 0, 0))), (2, .int v4)] (dtX1_movedTenants_0 15 (23, .istore_n 1, 1) rfl) (by decide) rfl ?_
        refine r_iinc hk 1 2 (fun v11 => [(2, .int v11), (1, .int v10), (0, .ref (xad X (1, i0, 0, 0)))]) hF (dtX1_movedTenants_0 16 (24, .iinc 2 1, 3) rfl) rfl (by decide) (by decide) (fun _ => rfl) (fun v11 hF => ?_)
        refine r_goto hk 4 (dtX1_movedTenants_0 17 (27, .goto (-23), 3) rfl) (by decide) ?_
        exact r_sub hk [2, 1, 0] rfl (ih6 v10 v11 hF)
  exact r_sub hk [2, 1, 0] rfl (l6 fu 0 0 hF)
set_option maxHeartbeats 4000000 in
set_option maxRecDepth 100000 in
theorem c_X3_count (l : Launch) (hlf : l.stackTraces = false) (X : XW)  (p1 : Int32) (m0 : Mem) (rv : Int32 ⊕ Nat) (hF : F_X3_count p1 m0 = some rv) : MT X l yX3_count cX3_count 2 (some .int) 8 [.ref (xad X (0, 0, 0, 0)), .int p1] m0 rv m0 (QTI X rv m0) := by
  refine startTI hlf (by decide +kernel) rfl [(0, .ref (xad X (0, 0, 0, 0))), (1, .int p1)] rfl (Nat.le_of_ble_eq_true rfl) (fun K hk hR hX => ?_)
  unfold F_X3_count at hF
  refine r_iload_n hk 1 (dtX3_count_0 0 (0, .iload_n 1, 1) rfl) rfl ?_
  have j15_2 : ∀ (v1 : Int32), (J_X3_count_15 p1 m0) v1 = some rv → G X K 15 [(0, .ref (xad X (0, 0, 0, 0))), (1, .int p1)] [.int v1] m0 := by
    intro v1 hF
    unfold J_X3_count_15 at hF
    refine r_callVts hk hF (fun c h => by cases Option.some.inj h; exact hX c rfl) (fun R h hf H locs ls hH hS hl => runT_S hk (c_X3_require (kl K) hk.2.2.2.2.2.2.2.2.2.2.2 X  v1 m0 R h) lk_X3_41 me_X3_require yf_X3_require (by decide) (by decide) rfl (Nat.le_of_ble_eq_true rfl) rfl (dtX3_count_0 8 (15, .invokestatic 41, 3) rfl) hf hH hS hl) (fun _ hF => ?_)
    refine r_iload_n hk 1 (dtX3_count_0 9 (18, .iload_n 1, 1) rfl) rfl ?_
    by_cases hs19_0 : p1 = 0
    · rw [if_pos hs19_0] at hF
      refine r_tabIn hk 60 (dtX3_count_0 10 (19, .tableswitch 101 0 6 #[41, 49, 57, 65, 75, 85, 93], 41) rfl) (by rw [hs19_0]; decide) (by rw [hs19_0]; decide) (by rw [hs19_0]; rfl) (by decide) ?_
      refine r_aload_n hk 0 (dtX3_count_0 11 (60, .aload_n 0, 1) rfl) rfl ?_
      refine r_getS hk fl_X3_30 hF (dtX3_count_0 12 (61, .getfield 30, 3) rfl) (fun q3 hq3 hF => ?_)
      refine r_callI hF (fun v4 h H locs ls hH hS hl => run_V (y := yX1_tableRows) hk (in_st q3 hq3 0 (by decide)) rfl rfl (c_X1_tableRows (kl K) hk.2.2.2.2.2.2.2.2.2.2.2 X q3 hq3  m0 v4 h) lk_X3_110 me_X1_tableRows yf_X1_tableRows (by decide) (by decide) rfl (Nat.le_of_ble_eq_true rfl) rfl (dtX3_count_0 13 (64, .invokevirtual 110, 3) rfl) hH hS hl) (fun v4 hF => ?_)
      cases Option.some.inj hF
      exact hR v4 rfl _ _ (dtX3_count_0 14 (67, .ireturn, 1) rfl)
    · rw [if_neg hs19_0] at hF
      by_cases hs19_1 : p1 = 1
      · rw [if_pos hs19_1] at hF
        refine r_tabIn hk 68 (dtX3_count_0 10 (19, .tableswitch 101 0 6 #[41, 49, 57, 65, 75, 85, 93], 41) rfl) (by rw [hs19_1]; decide) (by rw [hs19_1]; decide) (by rw [hs19_1]; rfl) (by decide) ?_
        refine r_aload_n hk 0 (dtX3_count_0 15 (68, .aload_n 0, 1) rfl) rfl ?_
        refine r_getS hk fl_X3_30 hF (dtX3_count_0 16 (69, .getfield 30, 3) rfl) (fun q5 hq5 hF => ?_)
        refine r_getI hk (k := 3) (fsX1 X q5) cbX1 (by decide) fl_X3_204 (in_st q5 hq5 0 (by decide)) (fun _ => rfl) (fun _ _ => rfl) hF (dtX3_count_0 17 (72, .getfield 204, 3) rfl) (fun v6 hF => ?_)
        cases Option.some.inj hF
        exact hR v6 rfl _ _ (dtX3_count_0 18 (75, .ireturn, 1) rfl)
      · rw [if_neg hs19_1] at hF
        by_cases hs19_2 : p1 = 2
        · rw [if_pos hs19_2] at hF
          refine r_tabIn hk 76 (dtX3_count_0 10 (19, .tableswitch 101 0 6 #[41, 49, 57, 65, 75, 85, 93], 41) rfl) (by rw [hs19_2]; decide) (by rw [hs19_2]; decide) (by rw [hs19_2]; rfl) (by decide) ?_
          refine r_aload_n hk 0 (dtX3_count_0 19 (76, .aload_n 0, 1) rfl) rfl ?_
          refine r_getS hk fl_X3_30 hF (dtX3_count_0 20 (77, .getfield 30, 3) rfl) (fun q7 hq7 hF => ?_)
          refine r_callI hF (fun v8 h H locs ls hH hS hl => run_V (y := yX1_tableValues) hk (in_st q7 hq7 0 (by decide)) rfl rfl (c_X1_tableValues (kl K) hk.2.2.2.2.2.2.2.2.2.2.2 X q7 hq7  m0 v8 h) lk_X3_207 me_X1_tableValues yf_X1_tableValues (by decide) (by decide) rfl (Nat.le_of_ble_eq_true rfl) rfl (dtX3_count_0 21 (80, .invokevirtual 207, 3) rfl) hH hS hl) (fun v8 hF => ?_)
          cases Option.some.inj hF
          exact hR v8 rfl _ _ (dtX3_count_0 22 (83, .ireturn, 1) rfl)
        · rw [if_neg hs19_2] at hF
          by_cases hs19_3 : p1 = 3
          · rw [if_pos hs19_3] at hF
            refine r_tabIn hk 84 (dtX3_count_0 10 (19, .tableswitch 101 0 6 #[41, 49, 57, 65, 75, 85, 93], 41) rfl) (by rw [hs19_3]; decide) (by rw [hs19_3]; decide) (by rw [hs19_3]; rfl) (by decide) ?_
            refine r_aload_n hk 0 (dtX3_count_0 23 (84, .aload_n 0, 1) rfl) rfl ?_
            refine r_getS hk fl_X3_30 hF (dtX3_count_0 24 (85, .getfield 30, 3) rfl) (fun q9 hq9 hF => ?_)
            refine r_iconst (v := 2) hk (dtX3_count_0 25 (88, .iconst 2, 1) rfl) (by decide) ?_
            refine r_iconst (v := 3) hk (dtX3_count_0 26 (89, .iconst 3, 1) rfl) (by decide) ?_
            refine r_callI hF (fun v10 h H locs ls hH hS hl => run_V (y := yX1_columnsWithMeanings) hk (in_st q9 hq9 0 (by decide)) rfl rfl (c_X1_columnsWithMeanings (kl K) hk.2.2.2.2.2.2.2.2.2.2.2 X q9 hq9 2 3 m0 v10 h) lk_X3_210 me_X1_columnsWithMeanings yf_X1_columnsWithMeanings (by decide) (by decide) rfl (Nat.le_of_ble_eq_true rfl) rfl (dtX3_count_0 27 (90, .invokevirtual 210, 3) rfl) hH hS hl) (fun v10 hF => ?_)
            cases Option.some.inj hF
            exact hR v10 rfl _ _ (dtX3_count_0 28 (93, .ireturn, 1) rfl)
          · rw [if_neg hs19_3] at hF
            by_cases hs19_4 : p1 = 4
            · rw [if_pos hs19_4] at hF
              refine r_tabIn hk 94 (dtX3_count_0 10 (19, .tableswitch 101 0 6 #[41, 49, 57, 65, 75, 85, 93], 41) rfl) (by rw [hs19_4]; decide) (by rw [hs19_4]; decide) (by rw [hs19_4]; rfl) (by decide) ?_
              refine r_aload_n hk 0 (dtX3_count_0 29 (94, .aload_n 0, 1) rfl) rfl ?_
              refine r_getS hk fl_X3_30 hF (dtX3_count_0 30 (95, .getfield 30, 3) rfl) (fun q11 hq11 hF => ?_)
              refine r_iconst (v := 0) hk (dtX3_count_0 31 (98, .iconst 0, 1) rfl) (by decide) ?_
              refine r_iconst (v := 0) hk (dtX3_count_0 32 (99, .iconst 0, 1) rfl) (by decide) ?_
              refine r_callI hF (fun v12 h H locs ls hH hS hl => run_V (y := yX1_columnsWithMeanings) hk (in_st q11 hq11 0 (by decide)) rfl rfl (c_X1_columnsWithMeanings (kl K) hk.2.2.2.2.2.2.2.2.2.2.2 X q11 hq11 0 0 m0 v12 h) lk_X3_210 me_X1_columnsWithMeanings yf_X1_columnsWithMeanings (by decide) (by decide) rfl (Nat.le_of_ble_eq_true rfl) rfl (dtX3_count_0 33 (100, .invokevirtual 210, 3) rfl) hH hS hl) (fun v12 hF => ?_)
              cases Option.some.inj hF
              exact hR v12 rfl _ _ (dtX3_count_0 34 (103, .ireturn, 1) rfl)
            · rw [if_neg hs19_4] at hF
              by_cases hs19_5 : p1 = 5
              · rw [if_pos hs19_5] at hF
                refine r_tabIn hk 104 (dtX3_count_0 10 (19, .tableswitch 101 0 6 #[41, 49, 57, 65, 75, 85, 93], 41) rfl) (by rw [hs19_5]; decide) (by rw [hs19_5]; decide) (by rw [hs19_5]; rfl) (by decide) ?_
                refine r_aload_n hk 0 (dtX3_count_0 35 (104, .aload_n 0, 1) rfl) rfl ?_
                refine r_getS hk fl_X3_30 hF (dtX3_count_0 36 (105, .getfield 30, 3) rfl) (fun q13 hq13 hF => ?_)
                refine r_callI hF (fun v14 h H locs ls hH hS hl => run_V (y := yX1_indexes) hk (in_st q13 hq13 0 (by decide)) rfl rfl (c_X1_indexes (kl K) hk.2.2.2.2.2.2.2.2.2.2.2 X q13 hq13  m0 v14 h) lk_X3_213 me_X1_indexes yf_X1_indexes (by decide) (by decide) rfl (Nat.le_of_ble_eq_true rfl) rfl (dtX3_count_0 37 (108, .invokevirtual 213, 3) rfl) hH hS hl) (fun v14 hF => ?_)
                cases Option.some.inj hF
                exact hR v14 rfl _ _ (dtX3_count_0 38 (111, .ireturn, 1) rfl)
              · rw [if_neg hs19_5] at hF
                by_cases hs19_6 : p1 = 6
                · rw [if_pos hs19_6] at hF
                  refine r_tabIn hk 112 (dtX3_count_0 10 (19, .tableswitch 101 0 6 #[41, 49, 57, 65, 75, 85, 93], 41) rfl) (by rw [hs19_6]; decide) (by rw [hs19_6]; decide) (by rw [hs19_6]; rfl) (by decide) ?_
                  refine r_aload_n hk 0 (dtX3_count_0 39 (112, .aload_n 0, 1) rfl) rfl ?_
                  refine r_getS hk fl_X3_30 hF (dtX3_count_0 40 (113, .getfield 30, 3) rfl) (fun q15 hq15 hF => ?_)
                  refine r_callI hF (fun v16 h H locs ls hH hS hl => run_V (y := yX1_movedTenants) hk (in_st q15 hq15 0 (by decide)) rfl rfl (c_X1_movedTenants (kl K) hk.2.2.2.2.2.2.2.2.2.2.2 X q15 hq15  m0 v16 h) lk_X3_216 me_X1_movedTenants yf_X1_movedTenants (by decide) (by decide) rfl (Nat.le_of_ble_eq_true rfl) rfl (dtX3_count_0 41 (116, .invokevirtual 216, 3) rfl) hH hS hl) (fun v16 hF => ?_)
                  cases Option.some.inj hF
                  exact hR v16 rfl _ _ (dtX3_count_0 42 (119, .ireturn, 1) rfl)
                · rw [if_neg hs19_6] at hF
                  refine r_tabOut hk 120 (dtX3_count_0 10 (19, .tableswitch 101 0 6 #[41, 49, 57, 65, 75, 85, 93], 41) rfl) (by have q0 := lv_neT hs19_0 (a := 0) rfl; have q1 := lv_neT hs19_1 (a := 1) rfl; have q2 := lv_neT hs19_2 (a := 2) rfl; have q3 := lv_neT hs19_3 (a := 3) rfl; have q4 := lv_neT hs19_4 (a := 4) rfl; have q5 := lv_neT hs19_5 (a := 5) rfl; have q6 := lv_neT hs19_6 (a := 6) rfl; omega) (by decide) ?_
                  refine r_aload_n hk 0 (dtX3_count_0 43 (120, .aload_n 0, 1) rfl) rfl ?_
                  refine r_getI hk (k := 5) (fsX3 X) cbX3 (by decide) fl_X3_179 (in_main 0 (by decide)) (fun _ => rfl) (fun _ _ => rfl) hF (dtX3_count_0 44 (121, .getfield 179, 3) rfl) (fun v17 hF => ?_)
                  cases Option.some.inj hF
                  exact hR v17 rfl _ _ (dtX3_count_0 45 (124, .ireturn, 1) rfl)
  have j14_18 : (J_X3_count_14 p1 m0) = some rv → G X K 14 [(0, .ref (xad X (0, 0, 0, 0))), (1, .int p1)] [] m0 := by
    intro hF
    unfold J_X3_count_14 at hF
    refine r_iconst (v := 0) hk (dtX3_count_0 7 (14, .iconst 0, 1) rfl) (by decide) ?_
    exact r_sub hk [0, 1] rfl (j15_2 0 hF)
  refine r_if_lt hk 14 hF (dtX3_count_0 1 (1, .ifCond .lt 13, 3) rfl) (by decide) (fun hF => ?_) (fun hF => ?_)
  · exact r_sub hk [0, 1] rfl (j14_18 hF)
  · refine r_iload_n hk 1 (dtX3_count_0 2 (4, .iload_n 1, 1) rfl) rfl ?_
    refine r_bipush (v := 7) hk (dtX3_count_0 3 (5, .bipush 7, 2) rfl) (by decide) ?_
    refine r_icmp_gt hk 14 hF (dtX3_count_0 4 (7, .if_icmp .gt 7, 3) rfl) (by decide) (fun hF => ?_) (fun hF => ?_)
    · exact r_sub hk [0, 1] rfl (j14_18 hF)
    · refine r_iconst (v := 1) hk (dtX3_count_0 5 (10, .iconst 1, 1) rfl) (by decide) ?_
      refine r_goto hk 15 (dtX3_count_0 6 (11, .goto 4, 3) rfl) (by decide) ?_
      exact r_sub hk [0, 1] rfl (j15_2 1 hF)
set_option maxHeartbeats 4000000 in
set_option maxRecDepth 100000 in
theorem c_X3_requireRow (l : Launch) (hlf : l.stackTraces = false) (X : XW)  (p1 : Int32) (m0 : Mem) (rv : Unit ⊕ Nat) (hF : F_X3_requireRow p1 m0 = some rv) : MT X l yX3_requireRow cX3_requireRow 2 none 7 [.ref (xad X (0, 0, 0, 0)), .int p1] m0 rv m0 (QTV X rv m0) := by
  refine startTV hlf (by decide +kernel) rfl [(0, .ref (xad X (0, 0, 0, 0))), (1, .int p1)] rfl (Nat.le_of_ble_eq_true rfl) (fun K hk hR hX => ?_)
  unfold F_X3_requireRow at hF
  refine r_iload_n hk 1 (dtX3_requireRow_0 0 (0, .iload_n 1, 1) rfl) rfl ?_
  have j15_1 : J_X3_requireRow_15 = some rv → G X K 15 [] [] m0 := by
    intro hF
    unfold J_X3_requireRow_15 at hF
    cases Option.some.inj hF
    exact (hX 2 rfl).2.2.2 _ _ _ _ _ _ _ th_X3_272_276 th_X3_272_276_g (hk.2.2.2.2.2.1.2.2.2.2.2.2.2.1) (by decide) (Nat.le_of_ble_eq_true rfl) (dtX3_requireRow_0 7 (15, .new 272, 3) rfl) (dtX3_requireRow_0 8 (18, .dup, 1) rfl) (dtX3_requireRow_0 9 (19, .ldc_w 274, 3) rfl) (dtX3_requireRow_0 10 (22, .invokespecial 276, 3) rfl) (dtX3_requireRow_0 11 (25, .athrow, 1) rfl)
  refine r_if_lt hk 15 hF (dtX3_requireRow_0 1 (1, .ifCond .lt 14, 3) rfl) (by decide) (fun hF => ?_) (fun hF => ?_)
  · exact r_sub hk [] rfl (j15_1 hF)
  · refine r_iload_n hk 1 (dtX3_requireRow_0 2 (4, .iload_n 1, 1) rfl) rfl ?_
    refine r_aload_n hk 0 (dtX3_requireRow_0 3 (5, .aload_n 0, 1) rfl) rfl ?_
    refine r_getS hk fl_X3_30 hF (dtX3_requireRow_0 4 (6, .getfield 30, 3) rfl) (fun q2 hq2 hF => ?_)
    refine r_getI hk (k := 3) (fsX1 X q2) cbX1 (by decide) fl_X3_204 (in_st q2 hq2 0 (by decide)) (fun _ => rfl) (fun _ _ => rfl) hF (dtX3_requireRow_0 5 (9, .getfield 204, 3) rfl) (fun v3 hF => ?_)
    refine r_icmp_lt hk 26 hF (dtX3_requireRow_0 6 (12, .if_icmp .lt 14, 3) rfl) (by decide) (fun hF => ?_) (fun hF => ?_)
    · cases Option.some.inj hF
      exact hR () rfl _ _ (dtX3_requireRow_0 12 (26, .return_, 1) rfl)
    · exact r_sub hk [] rfl (j15_1 hF)
set_option maxHeartbeats 4000000 in
set_option maxRecDepth 100000 in
theorem c_X3_rowOf (l : Launch) (hlf : l.stackTraces = false) (X : XW)  (p1 : Int32) (p2 : Int32) (m0 : Mem) (rv : Int32 ⊕ Nat) (hF : F_X3_rowOf p1 p2 m0 = some rv) : MT X l yX3_rowOf cX3_rowOf 4 (some .int) 8 [.ref (xad X (0, 0, 0, 0)), .int p1, .int p2] m0 rv m0 (QTI X rv m0) := by
  refine startTI hlf (by decide +kernel) rfl [(0, .ref (xad X (0, 0, 0, 0))), (1, .int p1), (2, .int p2)] rfl (Nat.le_of_ble_eq_true rfl) (fun K hk hR hX => ?_)
  unfold F_X3_rowOf at hF
  refine r_aload_n hk 0 (dtX3_rowOf_0 0 (0, .aload_n 0, 1) rfl) rfl ?_
  refine r_iload_n hk 1 (dtX3_rowOf_0 1 (1, .iload_n 1, 1) rfl) rfl ?_
  refine r_callVts hk hF (fun c h => by cases Option.some.inj h; exact hX c rfl) (fun R h hf H locs ls hH hS hl => runT_V (y := yX3_requireRow) hk (in_main 0 (by decide)) rfl rfl (c_X3_requireRow (kl K) hk.2.2.2.2.2.2.2.2.2.2.2 X  p1 m0 R h) lk_X3_116 me_X3_requireRow yf_X3_requireRow (by decide) (by decide) rfl (Nat.le_of_ble_eq_true rfl) rfl (dtX3_rowOf_0 2 (2, .invokevirtual 116, 3) rfl) hf hH hS hl) (fun _ hF => ?_)
  refine r_iload_n hk 2 (dtX3_rowOf_0 3 (5, .iload_n 2, 1) rfl) rfl ?_
  have j20_2 : ∀ (v1 : Int32), (J_X3_rowOf_20 p1 p2 m0) v1 = some rv → G X K 20 [(0, .ref (xad X (0, 0, 0, 0))), (1, .int p1), (2, .int p2)] [.int v1] m0 := by
    intro v1 hF
    unfold J_X3_rowOf_20 at hF
    refine r_callVts hk hF (fun c h => by cases Option.some.inj h; exact hX c rfl) (fun R h hf H locs ls hH hS hl => runT_S hk (c_X3_require (kl K) hk.2.2.2.2.2.2.2.2.2.2.2 X  v1 m0 R h) lk_X3_41 me_X3_require yf_X3_require (by decide) (by decide) rfl (Nat.le_of_ble_eq_true rfl) rfl (dtX3_rowOf_0 11 (20, .invokestatic 41, 3) rfl) hf hH hS hl) (fun _ hF => ?_)
    refine r_iload_n hk 2 (dtX3_rowOf_0 12 (23, .iload_n 2, 1) rfl) rfl ?_
    refine r_if_ne hk 37 hF (dtX3_rowOf_0 13 (24, .ifCond .ne 13, 3) rfl) (by decide) (fun hF => ?_) (fun hF => ?_)
    · refine r_iload_n hk 2 (dtX3_rowOf_0 20 (37, .iload_n 2, 1) rfl) rfl ?_
      refine r_bipush (v := 9) hk (dtX3_rowOf_0 21 (38, .bipush 9, 2) rfl) (by decide) ?_
      refine r_icmp_ne hk 52 hF (dtX3_rowOf_0 22 (40, .if_icmp .ne 12, 3) rfl) (by decide) (fun hF => ?_) (fun hF => ?_)
      · refine r_aload_n hk 0 (dtX3_rowOf_0 28 (52, .aload_n 0, 1) rfl) rfl ?_
        refine r_getS hk fl_X3_30 hF (dtX3_rowOf_0 29 (53, .getfield 30, 3) rfl) (fun q3 hq3 hF => ?_)
        refine r_iload_n hk 1 (dtX3_rowOf_0 30 (56, .iload_n 1, 1) rfl) rfl ?_
        refine r_iload_n hk 2 (dtX3_rowOf_0 31 (57, .iload_n 2, 1) rfl) rfl ?_
        refine r_iconst (v := 1) hk (dtX3_rowOf_0 32 (58, .iconst 1, 1) rfl) (by decide) ?_
        refine r_isub hk hF (dtX3_rowOf_0 33 (59, .isub, 1) rfl) (fun v4 hF => ?_)
        refine r_callI hF (fun v5 h H locs ls hH hS hl => run_V (y := yX1_valueAt) hk (in_st q3 hq3 0 (by decide)) rfl rfl (c_X1_valueAt (kl K) hk.2.2.2.2.2.2.2.2.2.2.2 X q3 hq3 p1 v4 m0 v5 h) lk_X3_127 me_X1_valueAt yf_X1_valueAt (by decide) (by decide) rfl (Nat.le_of_ble_eq_true rfl) rfl (dtX3_rowOf_0 34 (60, .invokevirtual 127, 3) rfl) hH hS hl) (fun v5 hF => ?_)
        refine r_istore_n hk [(3, .int v5), (0, .ref (xad X (0, 0, 0, 0))), (1, .int p1), (2, .int p2)] (dtX3_rowOf_0 35 (63, .istore_n 3, 1) rfl) (by decide) rfl ?_
        refine r_iload_n hk 0 (dtX3_rowOf_0 36 (64, .iload_n 3, 1) rfl) rfl ?_
        refine r_ldc hk cn_X3_130 (dtX3_rowOf_0 37 (65, .ldc 130, 2) rfl) ?_
        have j79_7 : ∀ (v6 : Int32), J_X3_rowOf_79 v6 = some rv → G X K 79 [] [.int v6] m0 := by
          intro v6 hF
          unfold J_X3_rowOf_79 at hF
          cases Option.some.inj hF
          exact hR v6 rfl _ _ (dtX3_rowOf_0 44 (79, .ireturn, 1) rfl)
        refine r_icmp_ne hk 74 hF (dtX3_rowOf_0 38 (67, .if_icmp .ne 7, 3) rfl) (by decide) (fun hF => ?_) (fun hF => ?_)
        · refine r_iload_n hk 0 (dtX3_rowOf_0 41 (74, .iload_n 3, 1) rfl) rfl ?_
          refine r_sipush (v := 10000) hk (dtX3_rowOf_0 42 (75, .sipush 10000, 3) rfl) (by decide) ?_
          refine r_iadd hk hF (dtX3_rowOf_0 43 (78, .iadd, 1) rfl) (fun v8 hF => ?_)
          exact r_sub hk [] rfl (j79_7 v8 hF)
        · refine r_iconst (v := (-1)) hk (dtX3_rowOf_0 39 (70, .iconst (-1), 1) rfl) (by decide) ?_
          refine r_goto hk 79 (dtX3_rowOf_0 40 (71, .goto 8, 3) rfl) (by decide) ?_
          exact r_sub hk [] rfl (j79_7 (-1) hF)
      · refine r_aload_n hk 0 (dtX3_rowOf_0 23 (43, .aload_n 0, 1) rfl) rfl ?_
        refine r_getS hk fl_X3_30 hF (dtX3_rowOf_0 24 (44, .getfield 30, 3) rfl) (fun q9 hq9 hF => ?_)
        refine r_iload_n hk 1 (dtX3_rowOf_0 25 (47, .iload_n 1, 1) rfl) rfl ?_
        refine r_callI hF (fun v10 h H locs ls hH hS hl => run_V (y := yX1_valuesIn) hk (in_st q9 hq9 0 (by decide)) rfl rfl (c_X1_valuesIn (kl K) hk.2.2.2.2.2.2.2.2.2.2.2 X q9 hq9 p1 m0 v10 h) lk_X3_184 me_X1_valuesIn yf_X1_valuesIn (by decide) (by decide) rfl (Nat.le_of_ble_eq_true rfl) rfl (dtX3_rowOf_0 26 (48, .invokevirtual 184, 3) rfl) hH hS hl) (fun v10 hF => ?_)
        cases Option.some.inj hF
        exact hR v10 rfl _ _ (dtX3_rowOf_0 27 (51, .ireturn, 1) rfl)
    · refine r_aload_n hk 0 (dtX3_rowOf_0 14 (27, .aload_n 0, 1) rfl) rfl ?_
      refine r_getS hk fl_X3_30 hF (dtX3_rowOf_0 15 (28, .getfield 30, 3) rfl) (fun q11 hq11 hF => ?_)
      refine r_getR hk (k := 1) (fsX1 X q11) cbX1 (by decide) fl_X3_134 (in_st q11 hq11 0 (by decide)) (fun _ => rfl) (fun _ _ => rfl) (dtX3_rowOf_0 16 (31, .getfield 134, 3) rfl) ?_
      refine r_iload_n hk 1 (dtX3_rowOf_0 17 (34, .iload_n 1, 1) rfl) rfl ?_
      refine r_iald hk (in_st q11 hq11 2 (by decide)) (fun _ => rfl) hF (dtX3_rowOf_0 18 (35, .iaload, 1) rfl) (fun v12 hF => ?_)
      cases Option.some.inj hF
      exact hR v12 rfl _ _ (dtX3_rowOf_0 19 (36, .ireturn, 1) rfl)
  have j19_13 : (J_X3_rowOf_19 p1 p2 m0) = some rv → G X K 19 [(0, .ref (xad X (0, 0, 0, 0))), (1, .int p1), (2, .int p2)] [] m0 := by
    intro hF
    unfold J_X3_rowOf_19 at hF
    refine r_iconst (v := 0) hk (dtX3_rowOf_0 10 (19, .iconst 0, 1) rfl) (by decide) ?_
    exact r_sub hk [0, 1, 2] rfl (j20_2 0 hF)
  refine r_if_lt hk 19 hF (dtX3_rowOf_0 4 (6, .ifCond .lt 13, 3) rfl) (by decide) (fun hF => ?_) (fun hF => ?_)
  · exact r_sub hk [0, 1, 2] rfl (j19_13 hF)
  · refine r_iload_n hk 2 (dtX3_rowOf_0 5 (9, .iload_n 2, 1) rfl) rfl ?_
    refine r_bipush (v := 9) hk (dtX3_rowOf_0 6 (10, .bipush 9, 2) rfl) (by decide) ?_
    refine r_icmp_gt hk 19 hF (dtX3_rowOf_0 7 (12, .if_icmp .gt 7, 3) rfl) (by decide) (fun hF => ?_) (fun hF => ?_)
    · exact r_sub hk [0, 1, 2] rfl (j19_13 hF)
    · refine r_iconst (v := 1) hk (dtX3_rowOf_0 8 (15, .iconst 1, 1) rfl) (by decide) ?_
      refine r_goto hk 20 (dtX3_rowOf_0 9 (16, .goto 4, 3) rfl) (by decide) ?_
      exact r_sub hk [0, 1, 2] rfl (j20_2 1 hF)
set_option maxHeartbeats 4000000 in
set_option maxRecDepth 100000 in
theorem c_X1_rowsWith (l : Launch) (hlf : l.stackTraces = false) (X : XW) (i0 : Nat) (hi0 : i0 < 7) (p1 : Int32) (p2 : Int32) (p3 : Int32) (m0 : Mem) (rv : Int32) (hF : F_X1_rowsWith i0 p1 p2 p3 m0 = some rv) : MX X l yX1_rowsWith cX1_rowsWith 6 (some .int) 1 [.ref (xad X (1, i0, 0, 0)), .int p1, .int p2, .int p3] m0 (QI X rv m0) := by
  refine startI hlf (by decide +kernel) rfl [(0, .ref (xad X (1, i0, 0, 0))), (1, .int p1), (2, .int p2), (3, .int p3)] rfl (Nat.le_of_ble_eq_true rfl) (fun K hk hR => ?_)
  unfold F_X1_rowsWith at hF
  refine r_iconst (v := 0) hk (dtX1_rowsWith_0 0 (0, .iconst 0, 1) rfl) (by decide) ?_
  refine r_istore hk [(4, .int 0), (0, .ref (xad X (1, i0, 0, 0))), (1, .int p1), (2, .int p2), (3, .int p3)] (dtX1_rowsWith_0 1 (1, .istore 4, 2) rfl) (by decide) rfl ?_
  refine r_iconst (v := 0) hk (dtX1_rowsWith_0 2 (3, .iconst 0, 1) rfl) (by decide) ?_
  refine r_istore hk [(5, .int 0), (4, .int 0), (0, .ref (xad X (1, i0, 0, 0))), (1, .int p1), (2, .int p2), (3, .int p3)] (dtX1_rowsWith_0 3 (4, .istore 5, 2) rfl) (by decide) rfl ?_
  have e56_2 : ∀ (v1 : Int32), C_X1_rowsWith_56 v1 = some rv → G X K 56 [(4, .int v1)] [] m0 := by
    intro v1 hF
    unfold C_X1_rowsWith_56 at hF
    refine r_iload hk 0 (dtX1_rowsWith_0 29 (56, .iload 4, 2) rfl) rfl ?_
    cases Option.some.inj hF
    exact hR _ _ (dtX1_rowsWith_0 30 (58, .ireturn, 1) rfl)
  have l6 : ∀ (n6 : Nat) (v3 : Int32) (v4 : Int32), L_X1_rowsWith_6 i0 p1 p2 p3 m0 n6 v3 v4 = some rv → G X K 6 [(0, .ref (xad X (1, i0, 0, 0))), (1, .int p1), (2, .int p2), (3, .int p3), (4, .int v3), (5, .int v4)] [] m0 := by
    intro n6
    induction n6 with
    | zero => intro v3 v4 hF; exact nomatch (show (none : Option Int32) = some rv from hF)
    | succ n6 ih6 =>
      intro v3 v4 hF
      rw [L_X1_rowsWith_6] at hF
      refine r_iload hk 5 (dtX1_rowsWith_0 4 (6, .iload 5, 2) rfl) rfl ?_
      refine r_aload_n hk 0 (dtX1_rowsWith_0 5 (8, .aload_n 0, 1) rfl) rfl ?_
      refine r_getI hk (k := 3) (fsX1 X i0) cbX1 (by decide) fl_X1_29 (in_st i0 hi0 0 (by decide)) (fun _ => rfl) (fun _ _ => rfl) hF (dtX1_rowsWith_0 6 (9, .getfield 29, 3) rfl) (fun v7 hF => ?_)
      refine r_icmp_ge hk 56 hF (dtX1_rowsWith_0 7 (12, .if_icmp .ge 44, 3) rfl) (by decide) (fun hF => ?_) (fun hF => ?_)
      · exact r_sub hk [4] rfl (e56_2 v3 hF)
      · refine r_iload hk 4 (dtX1_rowsWith_0 8 (15, .iload 4, 2) rfl) rfl ?_
        refine r_aload_n hk 0 (dtX1_rowsWith_0 9 (17, .aload_n 0, 1) rfl) rfl ?_
        refine r_getR hk (k := 1) (fsX1 X i0) cbX1 (by decide) fl_X1_17 (in_st i0 hi0 0 (by decide)) (fun _ => rfl) (fun _ _ => rfl) (dtX1_rowsWith_0 10 (18, .getfield 17, 3) rfl) ?_
        refine r_iload hk 5 (dtX1_rowsWith_0 11 (21, .iload 5, 2) rfl) rfl ?_
        refine r_iald hk (in_st i0 hi0 2 (by decide)) (fun _ => rfl) hF (dtX1_rowsWith_0 12 (23, .iaload, 1) rfl) (fun v8 hF => ?_)
        refine r_iload_n hk 1 (dtX1_rowsWith_0 13 (24, .iload_n 1, 1) rfl) rfl ?_
        have j44_10 : ∀ (v9 : Int32), (J_X1_rowsWith_44 m0 v3 v4 (fun w0 w1 => L_X1_rowsWith_6 i0 p1 p2 p3 m0 n6 w0 w1)) v9 = some rv → G X K 44 [(0, .ref (xad X (1, i0, 0, 0))), (1, .int p1), (2, .int p2), (3, .int p3), (5, .int v4)] [.int v9, .int v3] m0 := by
          intro v9 hF
          unfold J_X1_rowsWith_44 at hF
          refine r_callI hF (fun v11 h H locs ls hH hS hl => run_SN hk (c_X3_asNumber (kl K) hk.2.2.2.2.2.2.2.2.2.2.2 X  v9 m0 v11 h) lk_X1_64 me_X3_asNumber yf_X3_asNumber (by decide) (by decide) rfl (Nat.le_of_ble_eq_true rfl) rfl (dtX1_rowsWith_0 24 (44, .invokestatic 64, 3) rfl) hH hS hl) (fun v11 hF => ?_)
          refine r_iadd hk hF (dtX1_rowsWith_0 25 (47, .iadd, 1) rfl) (fun v12 hF => ?_)
          refine r_istore hk [(4, .int v12), (0, .ref (xad X (1, i0, 0, 0))), (1, .int p1), (2, .int p2), (3, .int p3), (5, .int v4)] (dtX1_rowsWith_0 26 (48, .istore 4, 2) rfl) (by decide) rfl ?_
          refine r_iinc hk 1 5 (fun v13 => [(5, .int v13), (4, .int v12), (0, .ref (xad X (1, i0, 0, 0))), (1, .int p1), (2, .int p2), (3, .int p3)]) hF (dtX1_rowsWith_0 27 (50, .iinc 5 1, 3) rfl) rfl (by decide) (by decide) (fun _ => rfl) (fun v13 hF => ?_)
          refine r_goto hk 6 (dtX1_rowsWith_0 28 (53, .goto (-47), 3) rfl) (by decide) ?_
          exact r_sub hk [2, 3, 4, 5, 1, 0] rfl (ih6 v12 v13 hF)
        have j43_14 : (J_X1_rowsWith_43 m0 v3 v4 (fun w0 w1 => L_X1_rowsWith_6 i0 p1 p2 p3 m0 n6 w0 w1)) = some rv → G X K 43 [(0, .ref (xad X (1, i0, 0, 0))), (1, .int p1), (2, .int p2), (3, .int p3), (5, .int v4)] [.int v3] m0 := by
          intro hF
          unfold J_X1_rowsWith_43 at hF
          refine r_iconst (v := 0) hk (dtX1_rowsWith_0 23 (43, .iconst 0, 1) rfl) (by decide) ?_
          exact r_sub hk [0, 1, 2, 3, 4] rfl (j44_10 0 hF)
        refine r_icmp_ne hk 43 hF (dtX1_rowsWith_0 14 (25, .if_icmp .ne 18, 3) rfl) (by decide) (fun hF => ?_) (fun hF => ?_)
        · exact r_sub hk [0, 1, 2, 3, 5] rfl (j43_14 hF)
        · refine r_aload_n hk 0 (dtX1_rowsWith_0 15 (28, .aload_n 0, 1) rfl) rfl ?_
          refine r_iload hk 5 (dtX1_rowsWith_0 16 (29, .iload 5, 2) rfl) rfl ?_
          refine r_iload_n hk 2 (dtX1_rowsWith_0 17 (31, .iload_n 2, 1) rfl) rfl ?_
          refine r_callI hF (fun v15 h H locs ls hH hS hl => run_V (y := yX1_valueAt) hk (in_st i0 hi0 0 (by decide)) rfl rfl (c_X1_valueAt (kl K) hk.2.2.2.2.2.2.2.2.2.2.2 X i0 hi0 v4 p2 m0 v15 h) lk_X1_40 me_X1_valueAt yf_X1_valueAt (by decide) (by decide) rfl (Nat.le_of_ble_eq_true rfl) rfl (dtX1_rowsWith_0 18 (32, .invokevirtual 40, 3) rfl) hH hS hl) (fun v15 hF => ?_)
          refine r_iload_n hk 3 (dtX1_rowsWith_0 19 (35, .iload_n 3, 1) rfl) rfl ?_
          refine r_icmp_ne hk 43 hF (dtX1_rowsWith_0 20 (36, .if_icmp .ne 7, 3) rfl) (by decide) (fun hF => ?_) (fun hF => ?_)
          · exact r_sub hk [0, 1, 2, 3, 5] rfl (j43_14 hF)
          · refine r_iconst (v := 1) hk (dtX1_rowsWith_0 21 (39, .iconst 1, 1) rfl) (by decide) ?_
            refine r_goto hk 44 (dtX1_rowsWith_0 22 (40, .goto 4, 3) rfl) (by decide) ?_
            exact r_sub hk [0, 1, 2, 3, 5] rfl (j44_10 1 hF)
  exact r_sub hk [2, 3, 4, 5, 1, 0] rfl (l6 fu 0 0 hF)
set_option maxHeartbeats 4000000 in
set_option maxRecDepth 100000 in
theorem c_X1_rowsWithValue (l : Launch) (hlf : l.stackTraces = false) (X : XW) (i0 : Nat) (hi0 : i0 < 7) (p1 : Int32) (p2 : Int32) (m0 : Mem) (rv : Int32) (hF : F_X1_rowsWithValue i0 p1 p2 m0 = some rv) : MX X l yX1_rowsWithValue cX1_rowsWithValue 3 (some .int) 2 [.ref (xad X (1, i0, 0, 0)), .int p1, .int p2] m0 (QI X rv m0) := by
  refine startI hlf (by decide +kernel) rfl [(0, .ref (xad X (1, i0, 0, 0))), (1, .int p1), (2, .int p2)] rfl (Nat.le_of_ble_eq_true rfl) (fun K hk hR => ?_)
  unfold F_X1_rowsWithValue at hF
  refine r_aload_n hk 0 (dtX1_rowsWithValue_0 0 (0, .aload_n 0, 1) rfl) rfl ?_
  refine r_iload_n hk 1 (dtX1_rowsWithValue_0 1 (1, .iload_n 1, 1) rfl) rfl ?_
  refine r_callI hF (fun v1 h H locs ls hH hS hl => run_V (y := yX1_rowsOf) hk (in_st i0 hi0 0 (by decide)) rfl rfl (c_X1_rowsOf (kl K) hk.2.2.2.2.2.2.2.2.2.2.2 X i0 hi0 p1 m0 v1 h) lk_X1_71 me_X1_rowsOf yf_X1_rowsOf (by decide) (by decide) rfl (Nat.le_of_ble_eq_true rfl) rfl (dtX1_rowsWithValue_0 2 (2, .invokevirtual 71, 3) rfl) hH hS hl) (fun v1 hF => ?_)
  refine r_aload_n hk 0 (dtX1_rowsWithValue_0 3 (5, .aload_n 0, 1) rfl) rfl ?_
  refine r_iload_n hk 1 (dtX1_rowsWithValue_0 4 (6, .iload_n 1, 1) rfl) rfl ?_
  refine r_iload_n hk 2 (dtX1_rowsWithValue_0 5 (7, .iload_n 2, 1) rfl) rfl ?_
  refine r_ldc hk cn_X1_39 (dtX1_rowsWithValue_0 6 (8, .ldc 39, 2) rfl) ?_
  refine r_callI hF (fun v2 h H locs ls hH hS hl => run_V (y := yX1_rowsWith) hk (in_st i0 hi0 0 (by decide)) rfl rfl (c_X1_rowsWith (kl K) hk.2.2.2.2.2.2.2.2.2.2.2 X i0 hi0 p1 p2 (-1000000) m0 v2 h) lk_X1_74 me_X1_rowsWith yf_X1_rowsWith (by decide) (by decide) rfl (Nat.le_of_ble_eq_true rfl) rfl (dtX1_rowsWithValue_0 7 (10, .invokevirtual 74, 3) rfl) hH hS hl) (fun v2 hF => ?_)
  refine r_isub hk hF (dtX1_rowsWithValue_0 8 (13, .isub, 1) rfl) (fun v3 hF => ?_)
  cases Option.some.inj hF
  exact hR _ _ (dtX1_rowsWithValue_0 9 (14, .ireturn, 1) rfl)
set_option maxHeartbeats 4000000 in
set_option maxRecDepth 100000 in
theorem c_X1_sumOf (l : Launch) (hlf : l.stackTraces = false) (X : XW) (i0 : Nat) (hi0 : i0 < 7) (p1 : Int32) (p2 : Int32) (m0 : Mem) (rv : Int32) (hF : F_X1_sumOf i0 p1 p2 m0 = some rv) : MX X l yX1_sumOf cX1_sumOf 6 (some .int) 1 [.ref (xad X (1, i0, 0, 0)), .int p1, .int p2] m0 (QI X rv m0) := by
  refine startI hlf (by decide +kernel) rfl [(0, .ref (xad X (1, i0, 0, 0))), (1, .int p1), (2, .int p2)] rfl (Nat.le_of_ble_eq_true rfl) (fun K hk hR => ?_)
  unfold F_X1_sumOf at hF
  refine r_iconst (v := 0) hk (dtX1_sumOf_0 0 (0, .iconst 0, 1) rfl) (by decide) ?_
  refine r_istore_n hk [(3, .int 0), (0, .ref (xad X (1, i0, 0, 0))), (1, .int p1), (2, .int p2)] (dtX1_sumOf_0 1 (1, .istore_n 3, 1) rfl) (by decide) rfl ?_
  refine r_iconst (v := 0) hk (dtX1_sumOf_0 2 (2, .iconst 0, 1) rfl) (by decide) ?_
  refine r_istore hk [(4, .int 0), (3, .int 0), (0, .ref (xad X (1, i0, 0, 0))), (1, .int p1), (2, .int p2)] (dtX1_sumOf_0 3 (3, .istore 4, 2) rfl) (by decide) rfl ?_
  have e56_2 : ∀ (v1 : Int32), C_X1_sumOf_56 v1 = some rv → G X K 56 [(3, .int v1)] [] m0 := by
    intro v1 hF
    unfold C_X1_sumOf_56 at hF
    refine r_iload_n hk 0 (dtX1_sumOf_0 30 (56, .iload_n 3, 1) rfl) rfl ?_
    cases Option.some.inj hF
    exact hR _ _ (dtX1_sumOf_0 31 (57, .ireturn, 1) rfl)
  have l6 : ∀ (n6 : Nat) (v3 : Int32) (v4 : Int32), L_X1_sumOf_5 i0 p1 p2 m0 n6 v3 v4 = some rv → G X K 5 [(0, .ref (xad X (1, i0, 0, 0))), (1, .int p1), (2, .int p2), (3, .int v3), (4, .int v4)] [] m0 := by
    intro n6
    induction n6 with
    | zero => intro v3 v4 hF; exact nomatch (show (none : Option Int32) = some rv from hF)
    | succ n6 ih6 =>
      intro v3 v4 hF
      rw [L_X1_sumOf_5] at hF
      refine r_iload hk 4 (dtX1_sumOf_0 4 (5, .iload 4, 2) rfl) rfl ?_
      refine r_aload_n hk 0 (dtX1_sumOf_0 5 (7, .aload_n 0, 1) rfl) rfl ?_
      refine r_getI hk (k := 3) (fsX1 X i0) cbX1 (by decide) fl_X1_29 (in_st i0 hi0 0 (by decide)) (fun _ => rfl) (fun _ _ => rfl) hF (dtX1_sumOf_0 6 (8, .getfield 29, 3) rfl) (fun v7 hF => ?_)
      refine r_icmp_ge hk 56 hF (dtX1_sumOf_0 7 (11, .if_icmp .ge 45, 3) rfl) (by decide) (fun hF => ?_) (fun hF => ?_)
      · exact r_sub hk [3] rfl (e56_2 v3 hF)
      · refine r_aload_n hk 0 (dtX1_sumOf_0 8 (14, .aload_n 0, 1) rfl) rfl ?_
        refine r_iload hk 4 (dtX1_sumOf_0 9 (15, .iload 4, 2) rfl) rfl ?_
        refine r_iload_n hk 2 (dtX1_sumOf_0 10 (17, .iload_n 2, 1) rfl) rfl ?_
        refine r_callI hF (fun v8 h H locs ls hH hS hl => run_V (y := yX1_valueAt) hk (in_st i0 hi0 0 (by decide)) rfl rfl (c_X1_valueAt (kl K) hk.2.2.2.2.2.2.2.2.2.2.2 X i0 hi0 v4 p2 m0 v8 h) lk_X1_40 me_X1_valueAt yf_X1_valueAt (by decide) (by decide) rfl (Nat.le_of_ble_eq_true rfl) rfl (dtX1_sumOf_0 11 (18, .invokevirtual 40, 3) rfl) hH hS hl) (fun v8 hF => ?_)
        refine r_istore hk [(5, .int v8), (0, .ref (xad X (1, i0, 0, 0))), (1, .int p1), (2, .int p2), (3, .int v3), (4, .int v4)] (dtX1_sumOf_0 12 (21, .istore 5, 2) rfl) (by decide) rfl ?_
        refine r_iload_n hk 4 (dtX1_sumOf_0 13 (23, .iload_n 3, 1) rfl) rfl ?_
        refine r_aload_n hk 1 (dtX1_sumOf_0 14 (24, .aload_n 0, 1) rfl) rfl ?_
        refine r_getR hk (k := 1) (fsX1 X i0) cbX1 (by decide) fl_X1_17 (in_st i0 hi0 0 (by decide)) (fun _ => rfl) (fun _ _ => rfl) (dtX1_sumOf_0 15 (25, .getfield 17, 3) rfl) ?_
        refine r_iload hk 5 (dtX1_sumOf_0 16 (28, .iload 4, 2) rfl) rfl ?_
        refine r_iald hk (in_st i0 hi0 2 (by decide)) (fun _ => rfl) hF (dtX1_sumOf_0 17 (30, .iaload, 1) rfl) (fun v9 hF => ?_)
        refine r_iload_n hk 2 (dtX1_sumOf_0 18 (31, .iload_n 1, 1) rfl) rfl ?_
        have j48_11 : ∀ (v10 : Int32), (J_X1_sumOf_48 v3 v4 (fun w0 w1 => L_X1_sumOf_5 i0 p1 p2 m0 n6 w0 w1)) v10 = some rv → G X K 48 [(0, .ref (xad X (1, i0, 0, 0))), (1, .int p1), (2, .int p2), (4, .int v4)] [.int v10, .int v3] m0 := by
          intro v10 hF
          unfold J_X1_sumOf_48 at hF
          refine r_iadd hk hF (dtX1_sumOf_0 26 (48, .iadd, 1) rfl) (fun v12 hF => ?_)
          refine r_istore_n hk [(3, .int v12), (0, .ref (xad X (1, i0, 0, 0))), (1, .int p1), (2, .int p2), (4, .int v4)] (dtX1_sumOf_0 27 (49, .istore_n 3, 1) rfl) (by decide) rfl ?_
          refine r_iinc hk 1 4 (fun v13 => [(4, .int v13), (3, .int v12), (0, .ref (xad X (1, i0, 0, 0))), (1, .int p1), (2, .int p2)]) hF (dtX1_sumOf_0 28 (50, .iinc 4 1, 3) rfl) rfl (by decide) (by decide) (fun _ => rfl) (fun v13 hF => ?_)
          refine r_goto hk 5 (dtX1_sumOf_0 29 (53, .goto (-48), 3) rfl) (by decide) ?_
          exact r_sub hk [2, 3, 4, 1, 0] rfl (ih6 v12 v13 hF)
        have j47_14 : (J_X1_sumOf_47 v3 v4 (fun w0 w1 => L_X1_sumOf_5 i0 p1 p2 m0 n6 w0 w1)) = some rv → G X K 47 [(0, .ref (xad X (1, i0, 0, 0))), (1, .int p1), (2, .int p2), (4, .int v4)] [.int v3] m0 := by
          intro hF
          unfold J_X1_sumOf_47 at hF
          refine r_iconst (v := 0) hk (dtX1_sumOf_0 25 (47, .iconst 0, 1) rfl) (by decide) ?_
          exact r_sub hk [0, 1, 2, 3] rfl (j48_11 0 hF)
        refine r_icmp_ne hk 47 hF (dtX1_sumOf_0 19 (32, .if_icmp .ne 15, 3) rfl) (by decide) (fun hF => ?_) (fun hF => ?_)
        · exact r_sub hk [1, 2, 3, 5] rfl (j47_14 hF)
        · refine r_iload hk 0 (dtX1_sumOf_0 20 (35, .iload 5, 2) rfl) rfl ?_
          refine r_ldc hk cn_X1_39 (dtX1_sumOf_0 21 (37, .ldc 39, 2) rfl) ?_
          refine r_icmp_eq hk 47 hF (dtX1_sumOf_0 22 (39, .if_icmp .eq 8, 3) rfl) (by decide) (fun hF => ?_) (fun hF => ?_)
          · exact r_sub hk [1, 2, 3, 5] rfl (j47_14 hF)
          · refine r_iload hk 0 (dtX1_sumOf_0 23 (42, .iload 5, 2) rfl) rfl ?_
            refine r_goto hk 48 (dtX1_sumOf_0 24 (44, .goto 4, 3) rfl) (by decide) ?_
            exact r_sub hk [1, 2, 3, 5] rfl (j48_11 v8 hF)
  exact r_sub hk [2, 3, 4, 1, 0] rfl (l6 fu 0 0 hF)
set_option maxHeartbeats 4000000 in
set_option maxRecDepth 100000 in
theorem c_X1_standsAhead (l : Launch) (hlf : l.stackTraces = false) (X : XW) (i0 : Nat) (hi0 : i0 < 7) (p1 : Int32) (p2 : Int32) (p3 : Int32) (m0 : Mem) (rv : Int32) (hF : F_X1_standsAhead i0 p1 p2 p3 m0 = some rv) : MX X l yX1_standsAhead cX1_standsAhead 6 (some .boolean) 1 [.ref (xad X (1, i0, 0, 0)), .int p1, .int p2, .int p3] m0 (QI X rv m0) := by
  refine startZ hlf (by decide +kernel) rfl [(0, .ref (xad X (1, i0, 0, 0))), (1, .int p1), (2, .int p2), (3, .int p3)] rfl (Nat.le_of_ble_eq_true rfl) (fun K hk hR => ?_)
  unfold F_X1_standsAhead at hF
  refine r_aload_n hk 0 (dtX1_standsAhead_0 0 (0, .aload_n 0, 1) rfl) rfl ?_
  refine r_iload_n hk 3 (dtX1_standsAhead_0 1 (1, .iload_n 3, 1) rfl) rfl ?_
  refine r_iload_n hk 2 (dtX1_standsAhead_0 2 (2, .iload_n 2, 1) rfl) rfl ?_
  refine r_callI hF (fun v1 h H locs ls hH hS hl => run_V (y := yX1_valueAt) hk (in_st i0 hi0 0 (by decide)) rfl rfl (c_X1_valueAt (kl K) hk.2.2.2.2.2.2.2.2.2.2.2 X i0 hi0 p3 p2 m0 v1 h) lk_X1_40 me_X1_valueAt yf_X1_valueAt (by decide) (by decide) rfl (Nat.le_of_ble_eq_true rfl) rfl (dtX1_standsAhead_0 3 (3, .invokevirtual 40, 3) rfl) hH hS hl) (fun v1 hF => ?_)
  refine r_istore hk [(4, .int v1), (0, .ref (xad X (1, i0, 0, 0))), (1, .int p1), (2, .int p2), (3, .int p3)] (dtX1_standsAhead_0 4 (6, .istore 4, 2) rfl) (by decide) rfl ?_
  refine r_iconst (v := 0) hk (dtX1_standsAhead_0 5 (8, .iconst 0, 1) rfl) (by decide) ?_
  refine r_istore hk [(5, .int 0), (4, .int v1), (0, .ref (xad X (1, i0, 0, 0))), (1, .int p1), (2, .int p2), (3, .int p3)] (dtX1_standsAhead_0 6 (9, .istore 5, 2) rfl) (by decide) rfl ?_
  have e48_2 : C_X1_standsAhead_48 = some rv → G X K 48 [] [] m0 := by
    intro hF
    unfold C_X1_standsAhead_48 at hF
    refine r_iconst (v := 0) hk (dtX1_standsAhead_0 26 (48, .iconst 0, 1) rfl) (by decide) ?_
    obtain ⟨hz, hF⟩ := ck_some hF
    cases Option.some.inj hF
    exact hR _ _ hz (dtX1_standsAhead_0 27 (49, .ireturn, 1) rfl)
  have l5 : ∀ (n5 : Nat) (v3 : Int32), L_X1_standsAhead_11 i0 p1 p2 p3 m0 v1 n5 v3 = some rv → G X K 11 [(0, .ref (xad X (1, i0, 0, 0))), (1, .int p1), (2, .int p2), (3, .int p3), (4, .int v1), (5, .int v3)] [] m0 := by
    intro n5
    induction n5 with
    | zero => intro v3 hF; exact nomatch (show (none : Option Int32) = some rv from hF)
    | succ n5 ih5 =>
      intro v3 hF
      rw [L_X1_standsAhead_11] at hF
      refine r_iload hk 5 (dtX1_standsAhead_0 7 (11, .iload 5, 2) rfl) rfl ?_
      refine r_iload_n hk 3 (dtX1_standsAhead_0 8 (13, .iload_n 3, 1) rfl) rfl ?_
      refine r_icmp_ge hk 48 hF (dtX1_standsAhead_0 9 (14, .if_icmp .ge 34, 3) rfl) (by decide) (fun hF => ?_) (fun hF => ?_)
      · exact r_sub hk [] rfl (e48_2 hF)
      · refine r_aload_n hk 0 (dtX1_standsAhead_0 10 (17, .aload_n 0, 1) rfl) rfl ?_
        refine r_getR hk (k := 1) (fsX1 X i0) cbX1 (by decide) fl_X1_17 (in_st i0 hi0 0 (by decide)) (fun _ => rfl) (fun _ _ => rfl) (dtX1_standsAhead_0 11 (18, .getfield 17, 3) rfl) ?_
        refine r_iload hk 5 (dtX1_standsAhead_0 12 (21, .iload 5, 2) rfl) rfl ?_
        refine r_iald hk (in_st i0 hi0 2 (by decide)) (fun _ => rfl) hF (dtX1_standsAhead_0 13 (23, .iaload, 1) rfl) (fun v6 hF => ?_)
        refine r_iload_n hk 1 (dtX1_standsAhead_0 14 (24, .iload_n 1, 1) rfl) rfl ?_
        have j42_7 : (J_X1_standsAhead_42 v3 (fun w0 => L_X1_standsAhead_11 i0 p1 p2 p3 m0 v1 n5 w0)) = some rv → G X K 42 [(0, .ref (xad X (1, i0, 0, 0))), (1, .int p1), (2, .int p2), (3, .int p3), (4, .int v1), (5, .int v3)] [] m0 := by
          intro hF
          unfold J_X1_standsAhead_42 at hF
          refine r_iinc hk 1 5 (fun v8 => [(5, .int v8), (0, .ref (xad X (1, i0, 0, 0))), (1, .int p1), (2, .int p2), (3, .int p3), (4, .int v1)]) hF (dtX1_standsAhead_0 24 (42, .iinc 5 1, 3) rfl) rfl (by decide) (by decide) (fun _ => rfl) (fun v8 hF => ?_)
          refine r_goto hk 11 (dtX1_standsAhead_0 25 (45, .goto (-34), 3) rfl) (by decide) ?_
          exact r_sub hk [1, 2, 3, 4, 5, 0] rfl (ih5 v8 hF)
        refine r_icmp_ne hk 42 hF (dtX1_standsAhead_0 15 (25, .if_icmp .ne 17, 3) rfl) (by decide) (fun hF => ?_) (fun hF => ?_)
        · exact r_sub hk [0, 1, 2, 3, 4, 5] rfl (j42_7 hF)
        · refine r_aload_n hk 0 (dtX1_standsAhead_0 16 (28, .aload_n 0, 1) rfl) rfl ?_
          refine r_iload hk 5 (dtX1_standsAhead_0 17 (29, .iload 5, 2) rfl) rfl ?_
          refine r_iload_n hk 2 (dtX1_standsAhead_0 18 (31, .iload_n 2, 1) rfl) rfl ?_
          refine r_callI hF (fun v9 h H locs ls hH hS hl => run_V (y := yX1_valueAt) hk (in_st i0 hi0 0 (by decide)) rfl rfl (c_X1_valueAt (kl K) hk.2.2.2.2.2.2.2.2.2.2.2 X i0 hi0 v3 p2 m0 v9 h) lk_X1_40 me_X1_valueAt yf_X1_valueAt (by decide) (by decide) rfl (Nat.le_of_ble_eq_true rfl) rfl (dtX1_standsAhead_0 19 (32, .invokevirtual 40, 3) rfl) hH hS hl) (fun v9 hF => ?_)
          refine r_iload hk 4 (dtX1_standsAhead_0 20 (35, .iload 4, 2) rfl) rfl ?_
          refine r_icmp_ne hk 42 hF (dtX1_standsAhead_0 21 (37, .if_icmp .ne 5, 3) rfl) (by decide) (fun hF => ?_) (fun hF => ?_)
          · exact r_sub hk [0, 1, 2, 3, 4, 5] rfl (j42_7 hF)
          · refine r_iconst (v := 1) hk (dtX1_standsAhead_0 22 (40, .iconst 1, 1) rfl) (by decide) ?_
            obtain ⟨hz, hF⟩ := ck_some hF
            cases Option.some.inj hF
            exact hR _ _ hz (dtX1_standsAhead_0 23 (41, .ireturn, 1) rfl)
  exact r_sub hk [2, 3, 4, 5, 1, 0] rfl (l5 fu 0 hF)
set_option maxHeartbeats 4000000 in
set_option maxRecDepth 100000 in
theorem c_X1_unlikeValues (l : Launch) (hlf : l.stackTraces = false) (X : XW) (i0 : Nat) (hi0 : i0 < 7) (p1 : Int32) (p2 : Int32) (m0 : Mem) (rv : Int32) (hF : F_X1_unlikeValues i0 p1 p2 m0 = some rv) : MX X l yX1_unlikeValues cX1_unlikeValues 5 (some .int) 2 [.ref (xad X (1, i0, 0, 0)), .int p1, .int p2] m0 (QI X rv m0) := by
  refine startI hlf (by decide +kernel) rfl [(0, .ref (xad X (1, i0, 0, 0))), (1, .int p1), (2, .int p2)] rfl (Nat.le_of_ble_eq_true rfl) (fun K hk hR => ?_)
  unfold F_X1_unlikeValues at hF
  refine r_iconst (v := 0) hk (dtX1_unlikeValues_0 0 (0, .iconst 0, 1) rfl) (by decide) ?_
  refine r_istore_n hk [(3, .int 0), (0, .ref (xad X (1, i0, 0, 0))), (1, .int p1), (2, .int p2)] (dtX1_unlikeValues_0 1 (1, .istore_n 3, 1) rfl) (by decide) rfl ?_
  refine r_iconst (v := 0) hk (dtX1_unlikeValues_0 2 (2, .iconst 0, 1) rfl) (by decide) ?_
  refine r_istore hk [(4, .int 0), (3, .int 0), (0, .ref (xad X (1, i0, 0, 0))), (1, .int p1), (2, .int p2)] (dtX1_unlikeValues_0 3 (3, .istore 4, 2) rfl) (by decide) rfl ?_
  have e65_2 : ∀ (v1 : Int32), C_X1_unlikeValues_65 v1 = some rv → G X K 65 [(3, .int v1)] [] m0 := by
    intro v1 hF
    unfold C_X1_unlikeValues_65 at hF
    refine r_iload_n hk 0 (dtX1_unlikeValues_0 35 (65, .iload_n 3, 1) rfl) rfl ?_
    cases Option.some.inj hF
    exact hR _ _ (dtX1_unlikeValues_0 36 (66, .ireturn, 1) rfl)
  have l6 : ∀ (n6 : Nat) (v3 : Int32) (v4 : Int32), L_X1_unlikeValues_5 i0 p1 p2 m0 n6 v3 v4 = some rv → G X K 5 [(0, .ref (xad X (1, i0, 0, 0))), (1, .int p1), (2, .int p2), (3, .int v3), (4, .int v4)] [] m0 := by
    intro n6
    induction n6 with
    | zero => intro v3 v4 hF; exact nomatch (show (none : Option Int32) = some rv from hF)
    | succ n6 ih6 =>
      intro v3 v4 hF
      rw [L_X1_unlikeValues_5] at hF
      refine r_iload hk 4 (dtX1_unlikeValues_0 4 (5, .iload 4, 2) rfl) rfl ?_
      refine r_aload_n hk 0 (dtX1_unlikeValues_0 5 (7, .aload_n 0, 1) rfl) rfl ?_
      refine r_getI hk (k := 3) (fsX1 X i0) cbX1 (by decide) fl_X1_29 (in_st i0 hi0 0 (by decide)) (fun _ => rfl) (fun _ _ => rfl) hF (dtX1_unlikeValues_0 6 (8, .getfield 29, 3) rfl) (fun v7 hF => ?_)
      refine r_icmp_ge hk 65 hF (dtX1_unlikeValues_0 7 (11, .if_icmp .ge 54, 3) rfl) (by decide) (fun hF => ?_) (fun hF => ?_)
      · exact r_sub hk [3] rfl (e65_2 v3 hF)
      · refine r_aload_n hk 0 (dtX1_unlikeValues_0 8 (14, .aload_n 0, 1) rfl) rfl ?_
        refine r_getR hk (k := 1) (fsX1 X i0) cbX1 (by decide) fl_X1_17 (in_st i0 hi0 0 (by decide)) (fun _ => rfl) (fun _ _ => rfl) (dtX1_unlikeValues_0 9 (15, .getfield 17, 3) rfl) ?_
        refine r_iload hk 4 (dtX1_unlikeValues_0 10 (18, .iload 4, 2) rfl) rfl ?_
        refine r_iald hk (in_st i0 hi0 2 (by decide)) (fun _ => rfl) hF (dtX1_unlikeValues_0 11 (20, .iaload, 1) rfl) (fun v8 hF => ?_)
        refine r_iload_n hk 1 (dtX1_unlikeValues_0 12 (21, .iload_n 1, 1) rfl) rfl ?_
        have j59_10 : ∀ (v9 : Int32), (J_X1_unlikeValues_59 v4 (fun w0 w1 => L_X1_unlikeValues_5 i0 p1 p2 m0 n6 w0 w1)) v9 = some rv → G X K 59 [(0, .ref (xad X (1, i0, 0, 0))), (1, .int p1), (2, .int p2), (3, .int v9), (4, .int v4)] [] m0 := by
          intro v9 hF
          unfold J_X1_unlikeValues_59 at hF
          refine r_iinc hk 1 4 (fun v11 => [(4, .int v11), (0, .ref (xad X (1, i0, 0, 0))), (1, .int p1), (2, .int p2), (3, .int v9)]) hF (dtX1_unlikeValues_0 33 (59, .iinc 4 1, 3) rfl) rfl (by decide) (by decide) (fun _ => rfl) (fun v11 hF => ?_)
          refine r_goto hk 5 (dtX1_unlikeValues_0 34 (62, .goto (-57), 3) rfl) (by decide) ?_
          exact r_sub hk [1, 2, 3, 4, 0] rfl (ih6 v9 v11 hF)
        refine r_icmp_ne hk 59 hF (dtX1_unlikeValues_0 13 (22, .if_icmp .ne 37, 3) rfl) (by decide) (fun hF => ?_) (fun hF => ?_)
        · exact r_sub hk [0, 1, 2, 3, 4] rfl (j59_10 v3 hF)
        · refine r_aload_n hk 0 (dtX1_unlikeValues_0 14 (25, .aload_n 0, 1) rfl) rfl ?_
          refine r_iload hk 4 (dtX1_unlikeValues_0 15 (26, .iload 4, 2) rfl) rfl ?_
          refine r_iload_n hk 2 (dtX1_unlikeValues_0 16 (28, .iload_n 2, 1) rfl) rfl ?_
          refine r_callI hF (fun v12 h H locs ls hH hS hl => run_V (y := yX1_valueAt) hk (in_st i0 hi0 0 (by decide)) rfl rfl (c_X1_valueAt (kl K) hk.2.2.2.2.2.2.2.2.2.2.2 X i0 hi0 v4 p2 m0 v12 h) lk_X1_40 me_X1_valueAt yf_X1_valueAt (by decide) (by decide) rfl (Nat.le_of_ble_eq_true rfl) rfl (dtX1_unlikeValues_0 17 (29, .invokevirtual 40, 3) rfl) hH hS hl) (fun v12 hF => ?_)
          refine r_ldc hk cn_X1_39 (dtX1_unlikeValues_0 18 (32, .ldc 39, 2) rfl) ?_
          refine r_icmp_eq hk 59 hF (dtX1_unlikeValues_0 19 (34, .if_icmp .eq 25, 3) rfl) (by decide) (fun hF => ?_) (fun hF => ?_)
          · exact r_sub hk [0, 1, 2, 3, 4] rfl (j59_10 v3 hF)
          · refine r_iload_n hk 3 (dtX1_unlikeValues_0 20 (37, .iload_n 3, 1) rfl) rfl ?_
            refine r_aload_n hk 0 (dtX1_unlikeValues_0 21 (38, .aload_n 0, 1) rfl) rfl ?_
            refine r_iload_n hk 1 (dtX1_unlikeValues_0 22 (39, .iload_n 1, 1) rfl) rfl ?_
            refine r_iload_n hk 2 (dtX1_unlikeValues_0 23 (40, .iload_n 2, 1) rfl) rfl ?_
            refine r_iload hk 4 (dtX1_unlikeValues_0 24 (41, .iload 4, 2) rfl) rfl ?_
            refine r_callI hF (fun v13 h H locs ls hH hS hl => run_V (y := yX1_standsAhead) hk (in_st i0 hi0 0 (by decide)) rfl rfl (c_X1_standsAhead (kl K) hk.2.2.2.2.2.2.2.2.2.2.2 X i0 hi0 p1 p2 v4 m0 v13 h) lk_X1_78 me_X1_standsAhead yf_X1_standsAhead (by decide) (by decide) rfl (Nat.le_of_ble_eq_true rfl) rfl (dtX1_unlikeValues_0 25 (43, .invokevirtual 78, 3) rfl) hH hS hl) (fun v13 hF => ?_)
            have j54_15 : ∀ (v14 : Int32), (J_X1_unlikeValues_54 m0 v3 v4 (fun w0 w1 => L_X1_unlikeValues_5 i0 p1 p2 m0 n6 w0 w1)) v14 = some rv → G X K 54 [(0, .ref (xad X (1, i0, 0, 0))), (1, .int p1), (2, .int p2), (4, .int v4)] [.int v14, .int v3] m0 := by
              intro v14 hF
              unfold J_X1_unlikeValues_54 at hF
              refine r_callI hF (fun v16 h H locs ls hH hS hl => run_SN hk (c_X3_asNumber (kl K) hk.2.2.2.2.2.2.2.2.2.2.2 X  v14 m0 v16 h) lk_X1_64 me_X3_asNumber yf_X3_asNumber (by decide) (by decide) rfl (Nat.le_of_ble_eq_true rfl) rfl (dtX1_unlikeValues_0 30 (54, .invokestatic 64, 3) rfl) hH hS hl) (fun v16 hF => ?_)
              refine r_iadd hk hF (dtX1_unlikeValues_0 31 (57, .iadd, 1) rfl) (fun v17 hF => ?_)
              refine r_istore_n hk [(3, .int v17), (0, .ref (xad X (1, i0, 0, 0))), (1, .int p1), (2, .int p2), (4, .int v4)] (dtX1_unlikeValues_0 32 (58, .istore_n 3, 1) rfl) (by decide) rfl ?_
              exact r_sub hk [1, 2, 3, 0, 4] rfl (j59_10 v17 hF)
            refine r_if_ne hk 53 hF (dtX1_unlikeValues_0 26 (46, .ifCond .ne 7, 3) rfl) (by decide) (fun hF => ?_) (fun hF => ?_)
            · refine r_iconst (v := 0) hk (dtX1_unlikeValues_0 29 (53, .iconst 0, 1) rfl) (by decide) ?_
              exact r_sub hk [0, 1, 2, 4] rfl (j54_15 0 hF)
            · refine r_iconst (v := 1) hk (dtX1_unlikeValues_0 27 (49, .iconst 1, 1) rfl) (by decide) ?_
              refine r_goto hk 54 (dtX1_unlikeValues_0 28 (50, .goto 4, 3) rfl) (by decide) ?_
              exact r_sub hk [0, 1, 2, 4] rfl (j54_15 1 hF)
  exact r_sub hk [2, 3, 4, 1, 0] rfl (l6 fu 0 0 hF)
set_option maxHeartbeats 4000000 in
set_option maxRecDepth 100000 in
theorem c_X3_column (l : Launch) (hlf : l.stackTraces = false) (X : XW)  (p1 : Int32) (p2 : Int32) (p3 : Int32) (m0 : Mem) (rv : Int32 ⊕ Nat) (hF : F_X3_column p1 p2 p3 m0 = some rv) : MT X l yX3_column cX3_column 5 (some .int) 8 [.ref (xad X (0, 0, 0, 0)), .int p1, .int p2, .int p3] m0 rv m0 (QTI X rv m0) := by
  refine startTI hlf (by decide +kernel) rfl [(0, .ref (xad X (0, 0, 0, 0))), (1, .int p1), (2, .int p2), (3, .int p3)] rfl (Nat.le_of_ble_eq_true rfl) (fun K hk hR hX => ?_)
  unfold F_X3_column at hF
  refine r_iload_n hk 1 (dtX3_column_0 0 (0, .iload_n 1, 1) rfl) rfl ?_
  refine r_callI hF (fun v1 h H locs ls hH hS hl => run_S hk (c_X3_isTenant (kl K) hk.2.2.2.2.2.2.2.2.2.2.2 X  p1 m0 v1 h) lk_X3_34 me_X3_isTenant yf_X3_isTenant (by decide) (by decide) rfl (Nat.le_of_ble_eq_true rfl) rfl (dtX3_column_0 1 (1, .invokestatic 34, 3) rfl) hH hS hl) (fun v1 hF => ?_)
  have j31_3 : ∀ (v2 : Int32), (J_X3_column_31 p1 p2 p3 m0) v2 = some rv → G X K 31 [(0, .ref (xad X (0, 0, 0, 0))), (1, .int p1), (2, .int p2), (3, .int p3)] [.int v2] m0 := by
    intro v2 hF
    unfold J_X3_column_31 at hF
    refine r_callVts hk hF (fun c h => by cases Option.some.inj h; exact hX c rfl) (fun R h hf H locs ls hH hS hl => runT_S hk (c_X3_require (kl K) hk.2.2.2.2.2.2.2.2.2.2.2 X  v2 m0 R h) lk_X3_41 me_X3_require yf_X3_require (by decide) (by decide) rfl (Nat.le_of_ble_eq_true rfl) rfl (dtX3_column_0 16 (31, .invokestatic 41, 3) rfl) hf hH hS hl) (fun _ hF => ?_)
    refine r_aload_n hk 0 (dtX3_column_0 17 (34, .aload_n 0, 1) rfl) rfl ?_
    refine r_getS hk fl_X3_30 hF (dtX3_column_0 18 (35, .getfield 30, 3) rfl) (fun q4 hq4 hF => ?_)
    refine r_getR hk (k := 0) (fsX1 X q4) cbX1 (by decide) fl_X3_49 (in_st q4 hq4 0 (by decide)) (fun _ => rfl) (fun _ _ => rfl) (dtX3_column_0 19 (38, .getfield 49, 3) rfl) ?_
    refine r_iload_n hk 1 (dtX3_column_0 20 (41, .iload_n 1, 1) rfl) rfl ?_
    refine r_aldT hk hq4 hF (dtX3_column_0 21 (42, .aaload, 1) rfl) (fun q5 hq5 hF => ?_)
    refine r_astore hk [(4, .ref (xad X (2, q4, q5, 0))), (0, .ref (xad X (0, 0, 0, 0))), (1, .int p1), (2, .int p2), (3, .int p3)] (dtX3_column_0 22 (43, .astore 4, 2) rfl) (by decide) rfl ?_
    refine r_aload hk 0 (dtX3_column_0 23 (45, .aload 4, 2) rfl) rfl ?_
    refine r_getR hk (k := 0) (fsX2 X q4 q5) cbX2 (by decide) fl_X3_86 (in_tn q4 hq4 q5 hq5 0 (by decide)) (fun _ => rfl) (fun _ _ => rfl) (dtX3_column_0 24 (47, .getfield 86, 3) rfl) ?_
    refine r_iload_n hk 3 (dtX3_column_0 25 (50, .iload_n 2, 1) rfl) rfl ?_
    refine r_iald hk (in_tn q4 hq4 q5 hq5 1 (by decide)) (fun _ => rfl) hF (dtX3_column_0 26 (51, .iaload, 1) rfl) (fun v6 hF => ?_)
    refine r_iconst (v := (-1)) hk (dtX3_column_0 27 (52, .iconst (-1), 1) rfl) (by decide) ?_
    refine r_icmp_ne hk 58 hF (dtX3_column_0 28 (53, .if_icmp .ne 5, 3) rfl) (by decide) (fun hF => ?_) (fun hF => ?_)
    · refine r_iload_n hk 4 (dtX3_column_0 31 (58, .iload_n 3, 1) rfl) rfl ?_
      by_cases hs59_0 : p3 = 0
      · rw [if_pos hs59_0] at hF
        refine r_tabIn hk 92 (dtX3_column_0 32 (59, .tableswitch 83 0 4 #[33, 41, 49, 60, 70], 33) rfl) (by rw [hs59_0]; decide) (by rw [hs59_0]; decide) (by rw [hs59_0]; rfl) (by decide) ?_
        refine r_aload hk 0 (dtX3_column_0 33 (92, .aload 4, 2) rfl) rfl ?_
        refine r_getR hk (k := 0) (fsX2 X q4 q5) cbX2 (by decide) fl_X3_86 (in_tn q4 hq4 q5 hq5 0 (by decide)) (fun _ => rfl) (fun _ _ => rfl) (dtX3_column_0 34 (94, .getfield 86, 3) rfl) ?_
        refine r_iload_n hk 3 (dtX3_column_0 35 (97, .iload_n 2, 1) rfl) rfl ?_
        refine r_iald hk (in_tn q4 hq4 q5 hq5 1 (by decide)) (fun _ => rfl) hF (dtX3_column_0 36 (98, .iaload, 1) rfl) (fun v7 hF => ?_)
        cases Option.some.inj hF
        exact hR v7 rfl _ _ (dtX3_column_0 37 (99, .ireturn, 1) rfl)
      · rw [if_neg hs59_0] at hF
        by_cases hs59_1 : p3 = 1
        · rw [if_pos hs59_1] at hF
          refine r_tabIn hk 100 (dtX3_column_0 32 (59, .tableswitch 83 0 4 #[33, 41, 49, 60, 70], 33) rfl) (by rw [hs59_1]; decide) (by rw [hs59_1]; decide) (by rw [hs59_1]; rfl) (by decide) ?_
          refine r_aload hk 0 (dtX3_column_0 38 (100, .aload 4, 2) rfl) rfl ?_
          refine r_getR hk (k := 1) (fsX2 X q4 q5) cbX2 (by decide) fl_X3_89 (in_tn q4 hq4 q5 hq5 0 (by decide)) (fun _ => rfl) (fun _ _ => rfl) (dtX3_column_0 39 (102, .getfield 89, 3) rfl) ?_
          refine r_iload_n hk 3 (dtX3_column_0 40 (105, .iload_n 2, 1) rfl) rfl ?_
          refine r_iald hk (in_tn q4 hq4 q5 hq5 2 (by decide)) (fun _ => rfl) hF (dtX3_column_0 41 (106, .iaload, 1) rfl) (fun v8 hF => ?_)
          cases Option.some.inj hF
          exact hR v8 rfl _ _ (dtX3_column_0 42 (107, .ireturn, 1) rfl)
        · rw [if_neg hs59_1] at hF
          by_cases hs59_2 : p3 = 2
          · rw [if_pos hs59_2] at hF
            refine r_tabIn hk 108 (dtX3_column_0 32 (59, .tableswitch 83 0 4 #[33, 41, 49, 60, 70], 33) rfl) (by rw [hs59_2]; decide) (by rw [hs59_2]; decide) (by rw [hs59_2]; rfl) (by decide) ?_
            refine r_aload hk 0 (dtX3_column_0 43 (108, .aload 4, 2) rfl) rfl ?_
            refine r_getR hk (k := 2) (fsX2 X q4 q5) cbX2 (by decide) fl_X3_92 (in_tn q4 hq4 q5 hq5 0 (by decide)) (fun _ => rfl) (fun _ _ => rfl) (dtX3_column_0 44 (110, .getfield 92, 3) rfl) ?_
            refine r_iload_n hk 3 (dtX3_column_0 45 (113, .iload_n 2, 1) rfl) rfl ?_
            refine r_zald hk (in_tn q4 hq4 q5 hq5 3 (by decide)) (fun _ => rfl) hF (dtX3_column_0 46 (114, .baload, 1) rfl) (fun v9 hF => ?_)
            refine r_callI hF (fun v10 h H locs ls hH hS hl => run_S hk (c_X3_asNumber (kl K) hk.2.2.2.2.2.2.2.2.2.2.2 X  v9 m0 v10 h) lk_X3_96 me_X3_asNumber yf_X3_asNumber (by decide) (by decide) rfl (Nat.le_of_ble_eq_true rfl) rfl (dtX3_column_0 47 (115, .invokestatic 96, 3) rfl) hH hS hl) (fun v10 hF => ?_)
            cases Option.some.inj hF
            exact hR v10 rfl _ _ (dtX3_column_0 48 (118, .ireturn, 1) rfl)
          · rw [if_neg hs59_2] at hF
            by_cases hs59_3 : p3 = 3
            · rw [if_pos hs59_3] at hF
              refine r_tabIn hk 119 (dtX3_column_0 32 (59, .tableswitch 83 0 4 #[33, 41, 49, 60, 70], 33) rfl) (by rw [hs59_3]; decide) (by rw [hs59_3]; decide) (by rw [hs59_3]; rfl) (by decide) ?_
              refine r_aload_n hk 1 (dtX3_column_0 49 (119, .aload_n 0, 1) rfl) rfl ?_
              refine r_getS hk fl_X3_30 hF (dtX3_column_0 50 (120, .getfield 30, 3) rfl) (fun q11 hq11 hF => ?_)
              refine r_iload_n hk 2 (dtX3_column_0 51 (123, .iload_n 1, 1) rfl) rfl ?_
              refine r_iload_n hk 3 (dtX3_column_0 52 (124, .iload_n 2, 1) rfl) rfl ?_
              refine r_callI hF (fun v12 h H locs ls hH hS hl => run_V (y := yX1_rowsWithValue) hk (in_st q11 hq11 0 (by decide)) rfl rfl (c_X1_rowsWithValue (kl K) hk.2.2.2.2.2.2.2.2.2.2.2 X q11 hq11 p1 p2 m0 v12 h) lk_X3_74 me_X1_rowsWithValue yf_X1_rowsWithValue (by decide) (by decide) rfl (Nat.le_of_ble_eq_true rfl) rfl (dtX3_column_0 53 (125, .invokevirtual 74, 3) rfl) hH hS hl) (fun v12 hF => ?_)
              cases Option.some.inj hF
              exact hR v12 rfl _ _ (dtX3_column_0 54 (128, .ireturn, 1) rfl)
            · rw [if_neg hs59_3] at hF
              by_cases hs59_4 : p3 = 4
              · rw [if_pos hs59_4] at hF
                refine r_tabIn hk 129 (dtX3_column_0 32 (59, .tableswitch 83 0 4 #[33, 41, 49, 60, 70], 33) rfl) (by rw [hs59_4]; decide) (by rw [hs59_4]; decide) (by rw [hs59_4]; rfl) (by decide) ?_
                refine r_aload_n hk 1 (dtX3_column_0 55 (129, .aload_n 0, 1) rfl) rfl ?_
                refine r_getS hk fl_X3_30 hF (dtX3_column_0 56 (130, .getfield 30, 3) rfl) (fun q13 hq13 hF => ?_)
                refine r_iload_n hk 2 (dtX3_column_0 57 (133, .iload_n 1, 1) rfl) rfl ?_
                refine r_iload_n hk 3 (dtX3_column_0 58 (134, .iload_n 2, 1) rfl) rfl ?_
                refine r_callI hF (fun v14 h H locs ls hH hS hl => run_V (y := yX1_sumOf) hk (in_st q13 hq13 0 (by decide)) rfl rfl (c_X1_sumOf (kl K) hk.2.2.2.2.2.2.2.2.2.2.2 X q13 hq13 p1 p2 m0 v14 h) lk_X3_187 me_X1_sumOf yf_X1_sumOf (by decide) (by decide) rfl (Nat.le_of_ble_eq_true rfl) rfl (dtX3_column_0 59 (135, .invokevirtual 187, 3) rfl) hH hS hl) (fun v14 hF => ?_)
                refine r_ldc hk cn_X3_190 (dtX3_column_0 60 (138, .ldc 190, 2) rfl) ?_
                refine r_iadd hk hF (dtX3_column_0 61 (140, .iadd, 1) rfl) (fun v15 hF => ?_)
                cases Option.some.inj hF
                exact hR v15 rfl _ _ (dtX3_column_0 62 (141, .ireturn, 1) rfl)
              · rw [if_neg hs59_4] at hF
                refine r_tabOut hk 142 (dtX3_column_0 32 (59, .tableswitch 83 0 4 #[33, 41, 49, 60, 70], 33) rfl) (by have q0 := lv_neT hs59_0 (a := 0) rfl; have q1 := lv_neT hs59_1 (a := 1) rfl; have q2 := lv_neT hs59_2 (a := 2) rfl; have q3 := lv_neT hs59_3 (a := 3) rfl; have q4 := lv_neT hs59_4 (a := 4) rfl; omega) (by decide) ?_
                refine r_aload_n hk 1 (dtX3_column_0 63 (142, .aload_n 0, 1) rfl) rfl ?_
                refine r_getS hk fl_X3_30 hF (dtX3_column_1 0 (143, .getfield 30, 3) rfl) (fun q16 hq16 hF => ?_)
                refine r_iload_n hk 2 (dtX3_column_1 1 (146, .iload_n 1, 1) rfl) rfl ?_
                refine r_iload_n hk 3 (dtX3_column_1 2 (147, .iload_n 2, 1) rfl) rfl ?_
                refine r_callI hF (fun v17 h H locs ls hH hS hl => run_V (y := yX1_unlikeValues) hk (in_st q16 hq16 0 (by decide)) rfl rfl (c_X1_unlikeValues (kl K) hk.2.2.2.2.2.2.2.2.2.2.2 X q16 hq16 p1 p2 m0 v17 h) lk_X3_191 me_X1_unlikeValues yf_X1_unlikeValues (by decide) (by decide) rfl (Nat.le_of_ble_eq_true rfl) rfl (dtX3_column_1 3 (148, .invokevirtual 191, 3) rfl) hH hS hl) (fun v17 hF => ?_)
                cases Option.some.inj hF
                exact hR v17 rfl _ _ (dtX3_column_1 4 (151, .ireturn, 1) rfl)
    · refine r_iconst (v := (-1)) hk (dtX3_column_0 29 (56, .iconst (-1), 1) rfl) (by decide) ?_
      cases Option.some.inj hF
      exact hR (-1) rfl _ _ (dtX3_column_0 30 (57, .ireturn, 1) rfl)
  have j30_18 : (J_X3_column_30 p1 p2 p3 m0) = some rv → G X K 30 [(0, .ref (xad X (0, 0, 0, 0))), (1, .int p1), (2, .int p2), (3, .int p3)] [] m0 := by
    intro hF
    unfold J_X3_column_30 at hF
    refine r_iconst (v := 0) hk (dtX3_column_0 15 (30, .iconst 0, 1) rfl) (by decide) ?_
    exact r_sub hk [0, 1, 2, 3] rfl (j31_3 0 hF)
  refine r_if_eq hk 30 hF (dtX3_column_0 2 (4, .ifCond .eq 26, 3) rfl) (by decide) (fun hF => ?_) (fun hF => ?_)
  · exact r_sub hk [0, 1, 2, 3] rfl (j30_18 hF)
  · refine r_iload_n hk 2 (dtX3_column_0 3 (7, .iload_n 2, 1) rfl) rfl ?_
    refine r_if_lt hk 30 hF (dtX3_column_0 4 (8, .ifCond .lt 22, 3) rfl) (by decide) (fun hF => ?_) (fun hF => ?_)
    · exact r_sub hk [0, 1, 2, 3] rfl (j30_18 hF)
    · refine r_iload_n hk 2 (dtX3_column_0 5 (11, .iload_n 2, 1) rfl) rfl ?_
      refine r_bipush (v := 8) hk (dtX3_column_0 6 (12, .bipush 8, 2) rfl) (by decide) ?_
      refine r_icmp_ge hk 30 hF (dtX3_column_0 7 (14, .if_icmp .ge 16, 3) rfl) (by decide) (fun hF => ?_) (fun hF => ?_)
      · exact r_sub hk [0, 1, 2, 3] rfl (j30_18 hF)
      · refine r_iload_n hk 3 (dtX3_column_0 8 (17, .iload_n 3, 1) rfl) rfl ?_
        refine r_if_lt hk 30 hF (dtX3_column_0 9 (18, .ifCond .lt 12, 3) rfl) (by decide) (fun hF => ?_) (fun hF => ?_)
        · exact r_sub hk [0, 1, 2, 3] rfl (j30_18 hF)
        · refine r_iload_n hk 3 (dtX3_column_0 10 (21, .iload_n 3, 1) rfl) rfl ?_
          refine r_iconst (v := 5) hk (dtX3_column_0 11 (22, .iconst 5, 1) rfl) (by decide) ?_
          refine r_icmp_gt hk 30 hF (dtX3_column_0 12 (23, .if_icmp .gt 7, 3) rfl) (by decide) (fun hF => ?_) (fun hF => ?_)
          · exact r_sub hk [0, 1, 2, 3] rfl (j30_18 hF)
          · refine r_iconst (v := 1) hk (dtX3_column_0 13 (26, .iconst 1, 1) rfl) (by decide) ?_
            refine r_goto hk 31 (dtX3_column_0 14 (27, .goto 4, 3) rfl) (by decide) ?_
            exact r_sub hk [0, 1, 2, 3] rfl (j31_3 1 hF)
end
section
/-! the walks (written by dec.py) -/
set_option maxHeartbeats 4000000 in
set_option maxRecDepth 100000 in
theorem c_X3_fullness (l : Launch) (hlf : l.stackTraces = false) (X : XW)   (m0 : Mem) (rv : UInt64) (hF : F_X3_fullness m0 = some rv) : MX X l yX3_fullness cX3_fullness 2 (some .double) 3 [.ref (xad X (0, 0, 0, 0))] m0 (QD X rv m0) := by
  refine startD hlf (by decide +kernel) rfl [(0, .ref (xad X (0, 0, 0, 0)))] rfl (Nat.le_of_ble_eq_true rfl) (fun K hk hR => ?_)
  unfold F_X3_fullness at hF
  refine r_bipush (v := 8) hk (dtX3_fullness_0 0 (0, .bipush 8, 2) rfl) (by decide) ?_
  refine r_aload_n hk 0 (dtX3_fullness_0 1 (2, .aload_n 0, 1) rfl) rfl ?_
  refine r_getS hk fl_X3_30 hF (dtX3_fullness_0 2 (3, .getfield 30, 3) rfl) (fun q1 hq1 hF => ?_)
  refine r_callI hF (fun v2 h H locs ls hH hS hl => run_V (y := yX1_tableRows) hk (in_st q1 hq1 0 (by decide)) rfl rfl (c_X1_tableRows (kl K) hk.2.2.2.2.2.2.2.2.2.2.2 X q1 hq1  m0 v2 h) lk_X3_110 me_X1_tableRows yf_X1_tableRows (by decide) (by decide) rfl (Nat.le_of_ble_eq_true rfl) rfl (dtX3_fullness_0 3 (6, .invokevirtual 110, 3) rfl) hH hS hl) (fun v2 hF => ?_)
  refine r_imul hk hF (dtX3_fullness_0 4 (9, .imul, 1) rfl) (fun v3 hF => ?_)
  refine r_istore_n hk [(1, .int v3), (0, .ref (xad X (0, 0, 0, 0)))] (dtX3_fullness_0 5 (10, .istore_n 1, 1) rfl) (by decide) rfl ?_
  refine r_iload_n hk 0 (dtX3_fullness_0 6 (11, .iload_n 1, 1) rfl) rfl ?_
  have j30_5 : ∀ (v4 : UInt64), J_X3_fullness_30 v4 = some rv → G X K 30 [] [.double v4] m0 := by
    intro v4 hF
    unfold J_X3_fullness_30 at hF
    cases Option.some.inj hF
    exact hR _ _ (dtX3_fullness_0 17 (30, .dreturn, 1) rfl)
  refine r_if_gt hk 19 hF (dtX3_fullness_0 7 (12, .ifCond .gt 7, 3) rfl) (by decide) (fun hF => ?_) (fun hF => ?_)
  · refine r_aload_n hk 1 (dtX3_fullness_0 10 (19, .aload_n 0, 1) rfl) rfl ?_
    refine r_getS hk fl_X3_30 hF (dtX3_fullness_0 11 (20, .getfield 30, 3) rfl) (fun q6 hq6 hF => ?_)
    refine r_callI hF (fun v7 h H locs ls hH hS hl => run_V (y := yX1_tableValues) hk (in_st q6 hq6 0 (by decide)) rfl rfl (c_X1_tableValues (kl K) hk.2.2.2.2.2.2.2.2.2.2.2 X q6 hq6  m0 v7 h) lk_X3_207 me_X1_tableValues yf_X1_tableValues (by decide) (by decide) rfl (Nat.le_of_ble_eq_true rfl) rfl (dtX3_fullness_0 12 (23, .invokevirtual 207, 3) rfl) hH hS hl) (fun v7 hF => ?_)
    refine r_i2d hk hF (dtX3_fullness_0 13 (26, .i2d, 1) rfl) (fun v8 hF => ?_)
    refine r_iload_n hk 0 (dtX3_fullness_0 14 (27, .iload_n 1, 1) rfl) rfl ?_
    refine r_i2d hk hF (dtX3_fullness_0 15 (28, .i2d, 1) rfl) (fun v9 hF => ?_)
    refine r_ddiv hk hF (dtX3_fullness_0 16 (29, .ddiv, 1) rfl) (fun v10 hF => ?_)
    exact r_sub hk [] rfl (j30_5 v10 hF)
  · refine r_dconst0 hk (dtX3_fullness_0 8 (15, .dconst 0, 1) rfl) ?_
    refine r_goto hk 30 (dtX3_fullness_0 9 (16, .goto 14, 3) rfl) (by decide) ?_
    exact r_sub hk [] rfl (j30_5 0 hF)
set_option maxHeartbeats 4000000 in
set_option maxRecDepth 100000 in
theorem c_X3_append (l : Launch) (hlf : l.stackTraces = false) (X : XW)  (p1 : Int32) (m0 : Mem) (rv : Int32 ⊕ Nat) (mE : Mem) (hF : F_X3_append p1 m0 = some (rv, mE)) : MT X l yX3_append cX3_append 2 (some .int) 8 [.ref (xad X (0, 0, 0, 0)), .int p1] m0 rv mE (QTI X rv mE) := by
  refine startTI hlf (by decide +kernel) rfl [(0, .ref (xad X (0, 0, 0, 0))), (1, .int p1)] rfl (Nat.le_of_ble_eq_true rfl) (fun K hk hR hX => ?_)
  unfold F_X3_append at hF
  refine r_iload_n hk 1 (dtX3_append_0 0 (0, .iload_n 1, 1) rfl) rfl ?_
  refine r_bipush (v := 33) hk (dtX3_append_0 1 (1, .bipush 33, 2) rfl) (by decide) ?_
  have j17_2 : ∀ (v1 : Int32), (J_X3_append_17 p1 m0) v1 = some (rv, mE) → G X K 17 [(0, .ref (xad X (0, 0, 0, 0))), (1, .int p1)] [.int v1] m0 := by
    intro v1 hF
    unfold J_X3_append_17 at hF
    refine r_callVts hk hF (fun c h => by cases Option.some.inj h; exact hX c rfl) (fun R h hf H locs ls hH hS hl => runT_S hk (c_X3_require (kl K) hk.2.2.2.2.2.2.2.2.2.2.2 X  v1 m0 R h) lk_X3_41 me_X3_require yf_X3_require (by decide) (by decide) rfl (Nat.le_of_ble_eq_true rfl) rfl (dtX3_append_0 9 (17, .invokestatic 41, 3) rfl) hf hH hS hl) (fun _ hF => ?_)
    refine r_aload_n hk 0 (dtX3_append_0 10 (20, .aload_n 0, 1) rfl) rfl ?_
    refine r_getI hk (k := 6) (fsX3 X) cbX3 (by decide) fl_X3_145 (in_main 0 (by decide)) (fun _ => rfl) (fun _ _ => rfl) hF (dtX3_append_0 11 (21, .getfield 145, 3) rfl) (fun v3 hF => ?_)
    refine r_bipush (v := 40) hk (dtX3_append_0 12 (24, .bipush 40, 2) rfl) (by decide) ?_
    refine r_icmp_lt hk 39 hF (dtX3_append_0 13 (26, .if_icmp .lt 13, 3) rfl) (by decide) (fun hF => ?_) (fun hF => ?_)
    · refine r_aload_n hk 0 (dtX3_append_0 19 (39, .aload_n 0, 1) rfl) rfl ?_
      refine r_getR hk (k := 1) (fsX3 X) cbX3 (by decide) fl_X3_15 (in_main 0 (by decide)) (fun _ => rfl) (fun _ _ => rfl) (dtX3_append_0 20 (40, .getfield 15, 3) rfl) ?_
      refine r_aload_n hk 0 (dtX3_append_0 21 (43, .aload_n 0, 1) rfl) rfl ?_
      refine r_getI hk (k := 6) (fsX3 X) cbX3 (by decide) fl_X3_145 (in_main 0 (by decide)) (fun _ => rfl) (fun _ _ => rfl) hF (dtX3_append_0 22 (44, .getfield 145, 3) rfl) (fun v4 hF => ?_)
      refine r_iload_n hk 1 (dtX3_append_0 23 (47, .iload_n 1, 1) rfl) rfl ?_
      refine r_iast hk (in_main 2 (by decide)) (fun _ => rfl) hF (dtX3_append_0 24 (48, .iastore, 1) rfl) (fun m5 hF => ?_)
      refine r_aload_n hk 0 (dtX3_append_0 25 (49, .aload_n 0, 1) rfl) rfl ?_
      refine r_dup hk (dtX3_append_0 26 (50, .dup, 1) rfl) rfl ?_
      refine r_getI hk (k := 6) (fsX3 X) cbX3 (by decide) fl_X3_145 (in_main 0 (by decide)) (fun _ => rfl) (fun _ _ => rfl) hF (dtX3_append_0 27 (51, .getfield 145, 3) rfl) (fun v6 hF => ?_)
      refine r_iconst (v := 1) hk (dtX3_append_0 28 (54, .iconst 1, 1) rfl) (by decide) ?_
      refine r_iadd hk hF (dtX3_append_0 29 (55, .iadd, 1) rfl) (fun v7 hF => ?_)
      refine r_putI hk (k := 6) (fsX3 X) cbX3 (by decide) fl_X3_145 (in_main 0 (by decide)) (fun _ => rfl) rfl rfl (fun _ _ _ => rfl) (fun _ _ => (by decide : 6 < 7)) hF (dtX3_append_0 30 (56, .putfield 145, 3) rfl) (fun m8 hF => ?_)
      refine r_aload_n hk 0 (dtX3_append_0 31 (59, .aload_n 0, 1) rfl) rfl ?_
      refine r_getI hk (k := 6) (fsX3 X) cbX3 (by decide) fl_X3_145 (in_main 0 (by decide)) (fun _ => rfl) (fun _ _ => rfl) hF (dtX3_append_0 32 (60, .getfield 145, 3) rfl) (fun v9 hF => ?_)
      cases Option.some.inj hF
      exact hR v9 rfl _ _ (dtX3_append_0 33 (63, .ireturn, 1) rfl)
    · cases Option.some.inj hF
      exact (hX 1 rfl).2.2.1 _ _ _ _ _ _ _ th_X3_148_152 th_X3_148_152_g (hk.2.2.2.2.2.1.2.2.2.2.1) (by decide) (Nat.le_of_ble_eq_true rfl) (dtX3_append_0 14 (29, .new 148, 3) rfl) (dtX3_append_0 15 (32, .dup, 1) rfl) (dtX3_append_0 16 (33, .ldc 150, 2) rfl) (dtX3_append_0 17 (35, .invokespecial 152, 3) rfl) (dtX3_append_0 18 (38, .athrow, 1) rfl)
  have j16_10 : (J_X3_append_16 p1 m0) = some (rv, mE) → G X K 16 [(0, .ref (xad X (0, 0, 0, 0))), (1, .int p1)] [] m0 := by
    intro hF
    unfold J_X3_append_16 at hF
    refine r_iconst (v := 0) hk (dtX3_append_0 8 (16, .iconst 0, 1) rfl) (by decide) ?_
    exact r_sub hk [0, 1] rfl (j17_2 0 hF)
  refine r_icmp_lt hk 16 hF (dtX3_append_0 2 (3, .if_icmp .lt 13, 3) rfl) (by decide) (fun hF => ?_) (fun hF => ?_)
  · exact r_sub hk [0, 1] rfl (j16_10 hF)
  · refine r_iload_n hk 1 (dtX3_append_0 3 (6, .iload_n 1, 1) rfl) rfl ?_
    refine r_bipush (v := 126) hk (dtX3_append_0 4 (7, .bipush 126, 2) rfl) (by decide) ?_
    refine r_icmp_gt hk 16 hF (dtX3_append_0 5 (9, .if_icmp .gt 7, 3) rfl) (by decide) (fun hF => ?_) (fun hF => ?_)
    · exact r_sub hk [0, 1] rfl (j16_10 hF)
    · refine r_iconst (v := 1) hk (dtX3_append_0 6 (12, .iconst 1, 1) rfl) (by decide) ?_
      refine r_goto hk 17 (dtX3_append_0 7 (13, .goto 4, 3) rfl) (by decide) ?_
      exact r_sub hk [0, 1] rfl (j17_2 1 hF)
set_option maxHeartbeats 4000000 in
set_option maxRecDepth 100000 in
theorem c_X3_isLetter (l : Launch) (hlf : l.stackTraces = false) (X : XW)  (p1 : Int32) (m0 : Mem) (rv : Int32) (hF : F_X3_isLetter p1 m0 = some rv) : MX X l yX3_isLetter cX3_isLetter 1 (some .boolean) 0 [.int p1] m0 (QI X rv m0) := by
  refine startZ hlf (by decide +kernel) rfl [(0, .int p1)] rfl (Nat.le_of_ble_eq_true rfl) (fun K hk hR => ?_)
  unfold F_X3_isLetter at hF
  refine r_iload_n hk 0 (dtX3_isLetter_0 0 (0, .iload_n 0, 1) rfl) rfl ?_
  have j15_2 : ∀ (v1 : Int32), J_X3_isLetter_15 v1 = some rv → G X K 15 [] [.int v1] m0 := by
    intro v1 hF
    unfold J_X3_isLetter_15 at hF
    obtain ⟨hz, hF⟩ := ck_some hF
    cases Option.some.inj hF
    exact hR _ _ hz (dtX3_isLetter_0 8 (15, .ireturn, 1) rfl)
  have j14_3 : J_X3_isLetter_14 = some rv → G X K 14 [] [] m0 := by
    intro hF
    unfold J_X3_isLetter_14 at hF
    refine r_iconst (v := 0) hk (dtX3_isLetter_0 7 (14, .iconst 0, 1) rfl) (by decide) ?_
    exact r_sub hk [] rfl (j15_2 0 hF)
  refine r_if_lt hk 14 hF (dtX3_isLetter_0 1 (1, .ifCond .lt 13, 3) rfl) (by decide) (fun hF => ?_) (fun hF => ?_)
  · exact r_sub hk [] rfl (j14_3 hF)
  · refine r_iload_n hk 0 (dtX3_isLetter_0 2 (4, .iload_n 0, 1) rfl) rfl ?_
    refine r_bipush (v := 8) hk (dtX3_isLetter_0 3 (5, .bipush 8, 2) rfl) (by decide) ?_
    refine r_icmp_ge hk 14 hF (dtX3_isLetter_0 4 (7, .if_icmp .ge 7, 3) rfl) (by decide) (fun hF => ?_) (fun hF => ?_)
    · exact r_sub hk [] rfl (j14_3 hF)
    · refine r_iconst (v := 1) hk (dtX3_isLetter_0 5 (10, .iconst 1, 1) rfl) (by decide) ?_
      refine r_goto hk 15 (dtX3_isLetter_0 6 (11, .goto 4, 3) rfl) (by decide) ?_
      exact r_sub hk [] rfl (j15_2 1 hF)
set_option maxHeartbeats 4000000 in
set_option maxRecDepth 100000 in
theorem c_X0_takeLetter (l : Launch) (hlf : l.stackTraces = false) (X : XW)  (p1 : Int32) (m0 : Mem) (rv : Int32) (mE : Mem) (hF : F_X0_takeLetter p1 m0 = some (rv, mE)) : MX X l yX0_takeLetter cX0_takeLetter 2 (some .boolean) 0 [.ref (xad X (0, 0, 0, 3)), .int p1] m0 (QI X rv mE) := by
  refine startZ hlf (by decide +kernel) rfl [(0, .ref (xad X (0, 0, 0, 3))), (1, .int p1)] rfl (Nat.le_of_ble_eq_true rfl) (fun K hk hR => ?_)
  unfold F_X0_takeLetter at hF
  refine r_iload_n hk 1 (dtX0_takeLetter_0 0 (0, .iload_n 1, 1) rfl) rfl ?_
  refine r_bipush (v := 97) hk (dtX0_takeLetter_0 1 (1, .bipush 97, 2) rfl) (by decide) ?_
  have j21_1 : (J_X0_takeLetter_21 m0) = some (rv, mE) → G X K 21 [] [] m0 := by
    intro hF
    unfold J_X0_takeLetter_21 at hF
    refine r_iconst (v := 0) hk (dtX0_takeLetter_0 10 (21, .iconst 0, 1) rfl) (by decide) ?_
    obtain ⟨hz, hF⟩ := ck_some hF
    cases Option.some.inj hF
    exact hR _ _ hz (dtX0_takeLetter_0 11 (22, .ireturn, 1) rfl)
  refine r_icmp_lt hk 21 hF (dtX0_takeLetter_0 2 (3, .if_icmp .lt 18, 3) rfl) (by decide) (fun hF => ?_) (fun hF => ?_)
  · exact r_sub hk [] rfl (j21_1 hF)
  · refine r_iload_n hk 1 (dtX0_takeLetter_0 3 (6, .iload_n 1, 1) rfl) rfl ?_
    refine r_bipush (v := 104) hk (dtX0_takeLetter_0 4 (7, .bipush 104, 2) rfl) (by decide) ?_
    refine r_icmp_gt hk 21 hF (dtX0_takeLetter_0 5 (9, .if_icmp .gt 12, 3) rfl) (by decide) (fun hF => ?_) (fun hF => ?_)
    · exact r_sub hk [] rfl (j21_1 hF)
    · refine r_aload_n hk 0 (dtX0_takeLetter_0 6 (12, .aload_n 0, 1) rfl) rfl ?_
      refine r_getI hk (k := 3) (fsX0 X) cbX0 (by decide) fl_X0_21 (in_main 3 (by decide)) (fun _ => rfl) (fun _ _ => rfl) hF (dtX0_takeLetter_0 7 (13, .getfield 21, 3) rfl) (fun v2 hF => ?_)
      refine r_bipush (v := 10) hk (dtX0_takeLetter_0 8 (16, .bipush 10, 2) rfl) (by decide) ?_
      refine r_icmp_lt hk 23 hF (dtX0_takeLetter_0 9 (18, .if_icmp .lt 5, 3) rfl) (by decide) (fun hF => ?_) (fun hF => ?_)
      · refine r_aload_n hk 0 (dtX0_takeLetter_0 12 (23, .aload_n 0, 1) rfl) rfl ?_
        refine r_getR hk (k := 0) (fsX0 X) cbX0 (by decide) fl_X0_9 (in_main 3 (by decide)) (fun _ => rfl) (fun _ _ => rfl) (dtX0_takeLetter_0 13 (24, .getfield 9, 3) rfl) ?_
        refine r_aload_n hk 0 (dtX0_takeLetter_0 14 (27, .aload_n 0, 1) rfl) rfl ?_
        refine r_getI hk (k := 3) (fsX0 X) cbX0 (by decide) fl_X0_21 (in_main 3 (by decide)) (fun _ => rfl) (fun _ _ => rfl) hF (dtX0_takeLetter_0 15 (28, .getfield 21, 3) rfl) (fun v3 hF => ?_)
        refine r_iload_n hk 1 (dtX0_takeLetter_0 16 (31, .iload_n 1, 1) rfl) rfl ?_
        refine r_bipush (v := 97) hk (dtX0_takeLetter_0 17 (32, .bipush 97, 2) rfl) (by decide) ?_
        refine r_isub hk hF (dtX0_takeLetter_0 18 (34, .isub, 1) rfl) (fun v4 hF => ?_)
        refine r_iast hk (in_main 5 (by decide)) (fun _ => rfl) hF (dtX0_takeLetter_0 19 (35, .iastore, 1) rfl) (fun m5 hF => ?_)
        refine r_aload_n hk 0 (dtX0_takeLetter_0 20 (36, .aload_n 0, 1) rfl) rfl ?_
        refine r_getR hk (k := 1) (fsX0 X) cbX0 (by decide) fl_X0_15 (in_main 3 (by decide)) (fun _ => rfl) (fun _ _ => rfl) (dtX0_takeLetter_0 21 (37, .getfield 15, 3) rfl) ?_
        refine r_aload_n hk 0 (dtX0_takeLetter_0 22 (40, .aload_n 0, 1) rfl) rfl ?_
        refine r_getI hk (k := 3) (fsX0 X) cbX0 (by decide) fl_X0_21 (in_main 3 (by decide)) (fun _ => rfl) (fun _ _ => rfl) hF (dtX0_takeLetter_0 23 (41, .getfield 21, 3) rfl) (fun v6 hF => ?_)
        refine r_iconst (v := 0) hk (dtX0_takeLetter_0 24 (44, .iconst 0, 1) rfl) (by decide) ?_
        refine r_iast hk (in_main 6 (by decide)) (fun _ => rfl) hF (dtX0_takeLetter_0 25 (45, .iastore, 1) rfl) (fun m7 hF => ?_)
        refine r_aload_n hk 0 (dtX0_takeLetter_0 26 (46, .aload_n 0, 1) rfl) rfl ?_
        refine r_getR hk (k := 2) (fsX0 X) cbX0 (by decide) fl_X0_18 (in_main 3 (by decide)) (fun _ => rfl) (fun _ _ => rfl) (dtX0_takeLetter_0 27 (47, .getfield 18, 3) rfl) ?_
        refine r_aload_n hk 0 (dtX0_takeLetter_0 28 (50, .aload_n 0, 1) rfl) rfl ?_
        refine r_getI hk (k := 3) (fsX0 X) cbX0 (by decide) fl_X0_21 (in_main 3 (by decide)) (fun _ => rfl) (fun _ _ => rfl) hF (dtX0_takeLetter_0 29 (51, .getfield 21, 3) rfl) (fun v8 hF => ?_)
        refine r_iconst (v := 0) hk (dtX0_takeLetter_0 30 (54, .iconst 0, 1) rfl) (by decide) ?_
        refine r_iast hk (in_main 7 (by decide)) (fun _ => rfl) hF (dtX0_takeLetter_0 31 (55, .iastore, 1) rfl) (fun m9 hF => ?_)
        refine r_aload_n hk 0 (dtX0_takeLetter_0 32 (56, .aload_n 0, 1) rfl) rfl ?_
        refine r_iconst (v := 0) hk (dtX0_takeLetter_0 33 (57, .iconst 0, 1) rfl) (by decide) ?_
        refine r_putZ hk (k := 5) (fsX0 X) cbX0 (by decide) fl_X0_51 (in_main 3 (by decide)) (fun _ => rfl) rfl rfl (fun _ _ _ => rfl) (fun _ _ => (by decide : 5 < 6)) hF (dtX0_takeLetter_0 34 (58, .putfield 51, 3) rfl) (fun m10 hF => ?_)
        refine r_aload_n hk 0 (dtX0_takeLetter_0 35 (61, .aload_n 0, 1) rfl) rfl ?_
        refine r_dup hk (dtX0_takeLetter_0 36 (62, .dup, 1) rfl) rfl ?_
        refine r_getI hk (k := 3) (fsX0 X) cbX0 (by decide) fl_X0_21 (in_main 3 (by decide)) (fun _ => rfl) (fun _ _ => rfl) hF (dtX0_takeLetter_0 37 (63, .getfield 21, 3) rfl) (fun v11 hF => ?_)
        refine r_iconst (v := 1) hk (dtX0_takeLetter_0 38 (66, .iconst 1, 1) rfl) (by decide) ?_
        refine r_iadd hk hF (dtX0_takeLetter_0 39 (67, .iadd, 1) rfl) (fun v12 hF => ?_)
        refine r_putI hk (k := 3) (fsX0 X) cbX0 (by decide) fl_X0_21 (in_main 3 (by decide)) (fun _ => rfl) rfl rfl (fun _ _ _ => rfl) (fun _ _ => (by decide : 3 < 6)) hF (dtX0_takeLetter_0 40 (68, .putfield 21, 3) rfl) (fun m13 hF => ?_)
        refine r_aload_n hk 0 (dtX0_takeLetter_0 41 (71, .aload_n 0, 1) rfl) rfl ?_
        refine r_iconst (v := 1) hk (dtX0_takeLetter_0 42 (72, .iconst 1, 1) rfl) (by decide) ?_
        refine r_putI hk (k := 4) (fsX0 X) cbX0 (by decide) fl_X0_25 (in_main 3 (by decide)) (fun _ => rfl) rfl rfl (fun _ _ _ => rfl) (fun _ _ => (by decide : 4 < 6)) hF (dtX0_takeLetter_0 43 (73, .putfield 25, 3) rfl) (fun m14 hF => ?_)
        refine r_iconst (v := 1) hk (dtX0_takeLetter_0 44 (76, .iconst 1, 1) rfl) (by decide) ?_
        obtain ⟨hz, hF⟩ := ck_some hF
        cases Option.some.inj hF
        exact hR _ _ hz (dtX0_takeLetter_0 45 (77, .ireturn, 1) rfl)
      · exact r_sub hk [] rfl (j21_1 hF)
set_option maxHeartbeats 4000000 in
set_option maxRecDepth 100000 in
theorem c_X0_takeSign (l : Launch) (hlf : l.stackTraces = false) (X : XW)  (p1 : Int32) (m0 : Mem) (rv : Int32) (mE : Mem) (hF : F_X0_takeSign p1 m0 = some (rv, mE)) : MX X l yX0_takeSign cX0_takeSign 2 (some .boolean) 0 [.ref (xad X (0, 0, 0, 3)), .int p1] m0 (QI X rv mE) := by
  refine startZ hlf (by decide +kernel) rfl [(0, .ref (xad X (0, 0, 0, 3))), (1, .int p1)] rfl (Nat.le_of_ble_eq_true rfl) (fun K hk hR => ?_)
  unfold F_X0_takeSign at hF
  refine r_aload_n hk 0 (dtX0_takeSign_0 0 (0, .aload_n 0, 1) rfl) rfl ?_
  refine r_getI hk (k := 3) (fsX0 X) cbX0 (by decide) fl_X0_21 (in_main 3 (by decide)) (fun _ => rfl) (fun _ _ => rfl) hF (dtX0_takeSign_0 1 (1, .getfield 21, 3) rfl) (fun v1 hF => ?_)
  have j25_2 : (J_X0_takeSign_25 m0) = some (rv, mE) → G X K 25 [] [] m0 := by
    intro hF
    unfold J_X0_takeSign_25 at hF
    refine r_iconst (v := 0) hk (dtX0_takeSign_0 12 (25, .iconst 0, 1) rfl) (by decide) ?_
    obtain ⟨hz, hF⟩ := ck_some hF
    cases Option.some.inj hF
    exact hR _ _ hz (dtX0_takeSign_0 13 (26, .ireturn, 1) rfl)
  refine r_if_le hk 25 hF (dtX0_takeSign_0 2 (4, .ifCond .le 21, 3) rfl) (by decide) (fun hF => ?_) (fun hF => ?_)
  · exact r_sub hk [] rfl (j25_2 hF)
  · refine r_iload_n hk 1 (dtX0_takeSign_0 3 (7, .iload_n 1, 1) rfl) rfl ?_
    refine r_bipush (v := 61) hk (dtX0_takeSign_0 4 (8, .bipush 61, 2) rfl) (by decide) ?_
    have j27_3 : (J_X0_takeSign_27 p1 m0) = some (rv, mE) → G X K 27 [(0, .ref (xad X (0, 0, 0, 3))), (1, .int p1)] [] m0 := by
      intro hF
      unfold J_X0_takeSign_27 at hF
      refine r_aload_n hk 0 (dtX0_takeSign_0 14 (27, .aload_n 0, 1) rfl) rfl ?_
      refine r_getR hk (k := 1) (fsX0 X) cbX0 (by decide) fl_X0_15 (in_main 3 (by decide)) (fun _ => rfl) (fun _ _ => rfl) (dtX0_takeSign_0 15 (28, .getfield 15, 3) rfl) ?_
      refine r_aload_n hk 0 (dtX0_takeSign_0 16 (31, .aload_n 0, 1) rfl) rfl ?_
      refine r_getI hk (k := 3) (fsX0 X) cbX0 (by decide) fl_X0_21 (in_main 3 (by decide)) (fun _ => rfl) (fun _ _ => rfl) hF (dtX0_takeSign_0 17 (32, .getfield 21, 3) rfl) (fun v4 hF => ?_)
      refine r_iconst (v := 1) hk (dtX0_takeSign_0 18 (35, .iconst 1, 1) rfl) (by decide) ?_
      refine r_isub hk hF (dtX0_takeSign_0 19 (36, .isub, 1) rfl) (fun v5 hF => ?_)
      refine r_iload_n hk 1 (dtX0_takeSign_0 20 (37, .iload_n 1, 1) rfl) rfl ?_
      refine r_iast hk (in_main 6 (by decide)) (fun _ => rfl) hF (dtX0_takeSign_0 21 (38, .iastore, 1) rfl) (fun m6 hF => ?_)
      refine r_aload_n hk 0 (dtX0_takeSign_0 22 (39, .aload_n 0, 1) rfl) rfl ?_
      refine r_iconst (v := 2) hk (dtX0_takeSign_0 23 (40, .iconst 2, 1) rfl) (by decide) ?_
      refine r_putI hk (k := 4) (fsX0 X) cbX0 (by decide) fl_X0_25 (in_main 3 (by decide)) (fun _ => rfl) rfl rfl (fun _ _ _ => rfl) (fun _ _ => (by decide : 4 < 6)) hF (dtX0_takeSign_0 24 (41, .putfield 25, 3) rfl) (fun m7 hF => ?_)
      refine r_iconst (v := 1) hk (dtX0_takeSign_0 25 (44, .iconst 1, 1) rfl) (by decide) ?_
      obtain ⟨hz, hF⟩ := ck_some hF
      cases Option.some.inj hF
      exact hR _ _ hz (dtX0_takeSign_0 26 (45, .ireturn, 1) rfl)
    refine r_icmp_eq hk 27 hF (dtX0_takeSign_0 5 (10, .if_icmp .eq 17, 3) rfl) (by decide) (fun hF => ?_) (fun hF => ?_)
    · exact r_sub hk [0, 1] rfl (j27_3 hF)
    · refine r_iload_n hk 1 (dtX0_takeSign_0 6 (13, .iload_n 1, 1) rfl) rfl ?_
      refine r_bipush (v := 60) hk (dtX0_takeSign_0 7 (14, .bipush 60, 2) rfl) (by decide) ?_
      refine r_icmp_eq hk 27 hF (dtX0_takeSign_0 8 (16, .if_icmp .eq 11, 3) rfl) (by decide) (fun hF => ?_) (fun hF => ?_)
      · exact r_sub hk [0, 1] rfl (j27_3 hF)
      · refine r_iload_n hk 1 (dtX0_takeSign_0 9 (19, .iload_n 1, 1) rfl) rfl ?_
        refine r_bipush (v := 62) hk (dtX0_takeSign_0 10 (20, .bipush 62, 2) rfl) (by decide) ?_
        refine r_icmp_eq hk 27 hF (dtX0_takeSign_0 11 (22, .if_icmp .eq 5, 3) rfl) (by decide) (fun hF => ?_) (fun hF => ?_)
        · exact r_sub hk [0, 1] rfl (j27_3 hF)
        · exact r_sub hk [] rfl (j25_2 hF)
set_option maxHeartbeats 4000000 in
set_option maxRecDepth 100000 in
theorem c_X0_takeMinus (l : Launch) (hlf : l.stackTraces = false) (X : XW)  (p1 : Int32) (m0 : Mem) (rv : Int32) (mE : Mem) (hF : F_X0_takeMinus p1 m0 = some (rv, mE)) : MX X l yX0_takeMinus cX0_takeMinus 2 (some .boolean) 0 [.ref (xad X (0, 0, 0, 3)), .int p1] m0 (QI X rv mE) := by
  refine startZ hlf (by decide +kernel) rfl [(0, .ref (xad X (0, 0, 0, 3))), (1, .int p1)] rfl (Nat.le_of_ble_eq_true rfl) (fun K hk hR => ?_)
  unfold F_X0_takeMinus at hF
  refine r_iload_n hk 1 (dtX0_takeMinus_0 0 (0, .iload_n 1, 1) rfl) rfl ?_
  refine r_bipush (v := 45) hk (dtX0_takeMinus_0 1 (1, .bipush 45, 2) rfl) (by decide) ?_
  refine r_icmp_eq hk 8 hF (dtX0_takeMinus_0 2 (3, .if_icmp .eq 5, 3) rfl) (by decide) (fun hF => ?_) (fun hF => ?_)
  · refine r_aload_n hk 0 (dtX0_takeMinus_0 5 (8, .aload_n 0, 1) rfl) rfl ?_
    refine r_iconst (v := 1) hk (dtX0_takeMinus_0 6 (9, .iconst 1, 1) rfl) (by decide) ?_
    refine r_putZ hk (k := 5) (fsX0 X) cbX0 (by decide) fl_X0_51 (in_main 3 (by decide)) (fun _ => rfl) rfl rfl (fun _ _ _ => rfl) (fun _ _ => (by decide : 5 < 6)) hF (dtX0_takeMinus_0 7 (10, .putfield 51, 3) rfl) (fun m1 hF => ?_)
    refine r_aload_n hk 0 (dtX0_takeMinus_0 8 (13, .aload_n 0, 1) rfl) rfl ?_
    refine r_iconst (v := 3) hk (dtX0_takeMinus_0 9 (14, .iconst 3, 1) rfl) (by decide) ?_
    refine r_putI hk (k := 4) (fsX0 X) cbX0 (by decide) fl_X0_25 (in_main 3 (by decide)) (fun _ => rfl) rfl rfl (fun _ _ _ => rfl) (fun _ _ => (by decide : 4 < 6)) hF (dtX0_takeMinus_0 10 (15, .putfield 25, 3) rfl) (fun m2 hF => ?_)
    refine r_iconst (v := 1) hk (dtX0_takeMinus_0 11 (18, .iconst 1, 1) rfl) (by decide) ?_
    obtain ⟨hz, hF⟩ := ck_some hF
    cases Option.some.inj hF
    exact hR _ _ hz (dtX0_takeMinus_0 12 (19, .ireturn, 1) rfl)
  · refine r_iconst (v := 0) hk (dtX0_takeMinus_0 3 (6, .iconst 0, 1) rfl) (by decide) ?_
    obtain ⟨hz, hF⟩ := ck_some hF
    cases Option.some.inj hF
    exact hR _ _ hz (dtX0_takeMinus_0 4 (7, .ireturn, 1) rfl)
set_option maxHeartbeats 4000000 in
set_option maxRecDepth 100000 in
theorem c_X0_takeDigit (l : Launch) (hlf : l.stackTraces = false) (X : XW)  (p1 : Int32) (m0 : Mem) (rv : Int32) (mE : Mem) (hF : F_X0_takeDigit p1 m0 = some (rv, mE)) : MX X l yX0_takeDigit cX0_takeDigit 3 (some .boolean) 0 [.ref (xad X (0, 0, 0, 3)), .int p1] m0 (QI X rv mE) := by
  refine startZ hlf (by decide +kernel) rfl [(0, .ref (xad X (0, 0, 0, 3))), (1, .int p1)] rfl (Nat.le_of_ble_eq_true rfl) (fun K hk hR => ?_)
  unfold F_X0_takeDigit at hF
  refine r_aload_n hk 0 (dtX0_takeDigit_0 0 (0, .aload_n 0, 1) rfl) rfl ?_
  refine r_getI hk (k := 3) (fsX0 X) cbX0 (by decide) fl_X0_21 (in_main 3 (by decide)) (fun _ => rfl) (fun _ _ => rfl) hF (dtX0_takeDigit_0 1 (1, .getfield 21, 3) rfl) (fun v1 hF => ?_)
  have j19_2 : (J_X0_takeDigit_19 m0) = some (rv, mE) → G X K 19 [] [] m0 := by
    intro hF
    unfold J_X0_takeDigit_19 at hF
    refine r_iconst (v := 0) hk (dtX0_takeDigit_0 9 (19, .iconst 0, 1) rfl) (by decide) ?_
    obtain ⟨hz, hF⟩ := ck_some hF
    cases Option.some.inj hF
    exact hR _ _ hz (dtX0_takeDigit_0 10 (20, .ireturn, 1) rfl)
  refine r_if_le hk 19 hF (dtX0_takeDigit_0 2 (4, .ifCond .le 15, 3) rfl) (by decide) (fun hF => ?_) (fun hF => ?_)
  · exact r_sub hk [] rfl (j19_2 hF)
  · refine r_iload_n hk 1 (dtX0_takeDigit_0 3 (7, .iload_n 1, 1) rfl) rfl ?_
    refine r_bipush (v := 48) hk (dtX0_takeDigit_0 4 (8, .bipush 48, 2) rfl) (by decide) ?_
    refine r_icmp_lt hk 19 hF (dtX0_takeDigit_0 5 (10, .if_icmp .lt 9, 3) rfl) (by decide) (fun hF => ?_) (fun hF => ?_)
    · exact r_sub hk [] rfl (j19_2 hF)
    · refine r_iload_n hk 1 (dtX0_takeDigit_0 6 (13, .iload_n 1, 1) rfl) rfl ?_
      refine r_bipush (v := 57) hk (dtX0_takeDigit_0 7 (14, .bipush 57, 2) rfl) (by decide) ?_
      refine r_icmp_le hk 21 hF (dtX0_takeDigit_0 8 (16, .if_icmp .le 5, 3) rfl) (by decide) (fun hF => ?_) (fun hF => ?_)
      · refine r_iload_n hk 1 (dtX0_takeDigit_0 11 (21, .iload_n 1, 1) rfl) rfl ?_
        refine r_bipush (v := 48) hk (dtX0_takeDigit_0 12 (22, .bipush 48, 2) rfl) (by decide) ?_
        refine r_isub hk hF (dtX0_takeDigit_0 13 (24, .isub, 1) rfl) (fun v3 hF => ?_)
        refine r_istore_n hk [(2, .int v3), (0, .ref (xad X (0, 0, 0, 3))), (1, .int p1)] (dtX0_takeDigit_0 14 (25, .istore_n 2, 1) rfl) (by decide) rfl ?_
        refine r_aload_n hk 1 (dtX0_takeDigit_0 15 (26, .aload_n 0, 1) rfl) rfl ?_
        refine r_getR hk (k := 2) (fsX0 X) cbX0 (by decide) fl_X0_18 (in_main 3 (by decide)) (fun _ => rfl) (fun _ _ => rfl) (dtX0_takeDigit_0 16 (27, .getfield 18, 3) rfl) ?_
        refine r_aload_n hk 1 (dtX0_takeDigit_0 17 (30, .aload_n 0, 1) rfl) rfl ?_
        refine r_getI hk (k := 3) (fsX0 X) cbX0 (by decide) fl_X0_21 (in_main 3 (by decide)) (fun _ => rfl) (fun _ _ => rfl) hF (dtX0_takeDigit_0 18 (31, .getfield 21, 3) rfl) (fun v4 hF => ?_)
        refine r_iconst (v := 1) hk (dtX0_takeDigit_0 19 (34, .iconst 1, 1) rfl) (by decide) ?_
        refine r_isub hk hF (dtX0_takeDigit_0 20 (35, .isub, 1) rfl) (fun v5 hF => ?_)
        refine r_aload_n hk 1 (dtX0_takeDigit_0 21 (36, .aload_n 0, 1) rfl) rfl ?_
        refine r_getR hk (k := 2) (fsX0 X) cbX0 (by decide) fl_X0_18 (in_main 3 (by decide)) (fun _ => rfl) (fun _ _ => rfl) (dtX0_takeDigit_0 22 (37, .getfield 18, 3) rfl) ?_
        refine r_aload_n hk 1 (dtX0_takeDigit_0 23 (40, .aload_n 0, 1) rfl) rfl ?_
        refine r_getI hk (k := 3) (fsX0 X) cbX0 (by decide) fl_X0_21 (in_main 3 (by decide)) (fun _ => rfl) (fun _ _ => rfl) hF (dtX0_takeDigit_0 24 (41, .getfield 21, 3) rfl) (fun v6 hF => ?_)
        refine r_iconst (v := 1) hk (dtX0_takeDigit_0 25 (44, .iconst 1, 1) rfl) (by decide) ?_
        refine r_isub hk hF (dtX0_takeDigit_0 26 (45, .isub, 1) rfl) (fun v7 hF => ?_)
        refine r_iald hk (in_main 7 (by decide)) (fun _ => rfl) hF (dtX0_takeDigit_0 27 (46, .iaload, 1) rfl) (fun v8 hF => ?_)
        refine r_bipush (v := 10) hk (dtX0_takeDigit_0 28 (47, .bipush 10, 2) rfl) (by decide) ?_
        refine r_imul hk hF (dtX0_takeDigit_0 29 (49, .imul, 1) rfl) (fun v9 hF => ?_)
        refine r_aload_n hk 1 (dtX0_takeDigit_0 30 (50, .aload_n 0, 1) rfl) rfl ?_
        refine r_getI hk (k := 5) (fsX0 X) cbX0 (by decide) fl_X0_51 (in_main 3 (by decide)) (fun _ => rfl) (fun _ _ => rfl) hF (dtX0_takeDigit_0 31 (51, .getfield 51, 3) rfl) (fun v10 hF => ?_)
        have j63_12 : ∀ (v11 : Int32), (J_X0_takeDigit_63 m0 v5 v9) v11 = some (rv, mE) → G X K 63 [(0, .ref (xad X (0, 0, 0, 3)))] [.int v11, .int v9, .int v5, .ref (xad X (0, 0, 0, 7))] m0 := by
          intro v11 hF
          unfold J_X0_takeDigit_63 at hF
          refine r_iadd hk hF (dtX0_takeDigit_0 37 (63, .iadd, 1) rfl) (fun v13 hF => ?_)
          refine r_iast hk (in_main 7 (by decide)) (fun _ => rfl) hF (dtX0_takeDigit_0 38 (64, .iastore, 1) rfl) (fun m14 hF => ?_)
          refine r_aload_n hk 0 (dtX0_takeDigit_0 39 (65, .aload_n 0, 1) rfl) rfl ?_
          refine r_iconst (v := 4) hk (dtX0_takeDigit_0 40 (66, .iconst 4, 1) rfl) (by decide) ?_
          refine r_putI hk (k := 4) (fsX0 X) cbX0 (by decide) fl_X0_25 (in_main 3 (by decide)) (fun _ => rfl) rfl rfl (fun _ _ _ => rfl) (fun _ _ => (by decide : 4 < 6)) hF (dtX0_takeDigit_0 41 (67, .putfield 25, 3) rfl) (fun m15 hF => ?_)
          refine r_iconst (v := 1) hk (dtX0_takeDigit_0 42 (70, .iconst 1, 1) rfl) (by decide) ?_
          obtain ⟨hz, hF⟩ := ck_some hF
          cases Option.some.inj hF
          exact hR _ _ hz (dtX0_takeDigit_0 43 (71, .ireturn, 1) rfl)
        refine r_if_eq hk 62 hF (dtX0_takeDigit_0 32 (54, .ifCond .eq 8, 3) rfl) (by decide) (fun hF => ?_) (fun hF => ?_)
        · refine r_iload_n hk 0 (dtX0_takeDigit_0 36 (62, .iload_n 2, 1) rfl) rfl ?_
          exact r_sub hk [1] rfl (j63_12 v3 hF)
        · refine r_iload_n hk 0 (dtX0_takeDigit_0 33 (57, .iload_n 2, 1) rfl) rfl ?_
          refine r_ineg hk hF (dtX0_takeDigit_0 34 (58, .ineg, 1) rfl) (fun v16 hF => ?_)
          refine r_goto hk 63 (dtX0_takeDigit_0 35 (59, .goto 4, 3) rfl) (by decide) ?_
          exact r_sub hk [1] rfl (j63_12 v16 hF)
      · exact r_sub hk [] rfl (j19_2 hF)
set_option maxHeartbeats 4000000 in
set_option maxRecDepth 100000 in
theorem c_X0_takeAnd (l : Launch) (hlf : l.stackTraces = false) (X : XW)  (p1 : Int32) (m0 : Mem) (rv : Int32) (mE : Mem) (hF : F_X0_takeAnd p1 m0 = some (rv, mE)) : MX X l yX0_takeAnd cX0_takeAnd 2 (some .boolean) 0 [.ref (xad X (0, 0, 0, 3)), .int p1] m0 (QI X rv mE) := by
  refine startZ hlf (by decide +kernel) rfl [(0, .ref (xad X (0, 0, 0, 3))), (1, .int p1)] rfl (Nat.le_of_ble_eq_true rfl) (fun K hk hR => ?_)
  unfold F_X0_takeAnd at hF
  refine r_iload_n hk 1 (dtX0_takeAnd_0 0 (0, .iload_n 1, 1) rfl) rfl ?_
  refine r_bipush (v := 38) hk (dtX0_takeAnd_0 1 (1, .bipush 38, 2) rfl) (by decide) ?_
  refine r_icmp_eq hk 8 hF (dtX0_takeAnd_0 2 (3, .if_icmp .eq 5, 3) rfl) (by decide) (fun hF => ?_) (fun hF => ?_)
  · refine r_aload_n hk 0 (dtX0_takeAnd_0 5 (8, .aload_n 0, 1) rfl) rfl ?_
    refine r_iconst (v := 0) hk (dtX0_takeAnd_0 6 (9, .iconst 0, 1) rfl) (by decide) ?_
    refine r_putI hk (k := 4) (fsX0 X) cbX0 (by decide) fl_X0_25 (in_main 3 (by decide)) (fun _ => rfl) rfl rfl (fun _ _ _ => rfl) (fun _ _ => (by decide : 4 < 6)) hF (dtX0_takeAnd_0 7 (10, .putfield 25, 3) rfl) (fun m1 hF => ?_)
    refine r_iconst (v := 1) hk (dtX0_takeAnd_0 8 (13, .iconst 1, 1) rfl) (by decide) ?_
    obtain ⟨hz, hF⟩ := ck_some hF
    cases Option.some.inj hF
    exact hR _ _ hz (dtX0_takeAnd_0 9 (14, .ireturn, 1) rfl)
  · refine r_iconst (v := 0) hk (dtX0_takeAnd_0 3 (6, .iconst 0, 1) rfl) (by decide) ?_
    obtain ⟨hz, hF⟩ := ck_some hF
    cases Option.some.inj hF
    exact hR _ _ hz (dtX0_takeAnd_0 4 (7, .ireturn, 1) rfl)
set_option maxHeartbeats 4000000 in
set_option maxRecDepth 100000 in
theorem c_X0_mayGrow (l : Launch) (hlf : l.stackTraces = false) (X : XW)   (m0 : Mem) (rv : Int32) (hF : F_X0_mayGrow m0 = some rv) : MX X l yX0_mayGrow cX0_mayGrow 2 (some .boolean) 1 [.ref (xad X (0, 0, 0, 3))] m0 (QI X rv m0) := by
  refine startZ hlf (by decide +kernel) rfl [(0, .ref (xad X (0, 0, 0, 3)))] rfl (Nat.le_of_ble_eq_true rfl) (fun K hk hR => ?_)
  unfold F_X0_mayGrow at hF
  refine r_aload_n hk 0 (dtX0_mayGrow_0 0 (0, .aload_n 0, 1) rfl) rfl ?_
  refine r_getI hk (k := 3) (fsX0 X) cbX0 (by decide) fl_X0_21 (in_main 3 (by decide)) (fun _ => rfl) (fun _ _ => rfl) hF (dtX0_mayGrow_0 1 (1, .getfield 21, 3) rfl) (fun v1 hF => ?_)
  have j25_3 : ∀ (v2 : Int32), J_X0_mayGrow_25 v2 = some rv → G X K 25 [] [.int v2] m0 := by
    intro v2 hF
    unfold J_X0_mayGrow_25 at hF
    refine r_istore_n hk [(1, .int v2)] (dtX0_mayGrow_0 13 (25, .istore_n 1, 1) rfl) (by decide) rfl ?_
    refine r_iload_n hk 0 (dtX0_mayGrow_0 14 (26, .iload_n 1, 1) rfl) rfl ?_
    have j42_5 : ∀ (v4 : Int32), J_X0_mayGrow_42 v4 = some rv → G X K 42 [] [.int v4] m0 := by
      intro v4 hF
      unfold J_X0_mayGrow_42 at hF
      obtain ⟨hz, hF⟩ := ck_some hF
      cases Option.some.inj hF
      exact hR _ _ hz (dtX0_mayGrow_0 22 (42, .ireturn, 1) rfl)
    have j41_6 : J_X0_mayGrow_41 = some rv → G X K 41 [] [] m0 := by
      intro hF
      unfold J_X0_mayGrow_41 at hF
      refine r_iconst (v := 0) hk (dtX0_mayGrow_0 21 (41, .iconst 0, 1) rfl) (by decide) ?_
      exact r_sub hk [] rfl (j42_5 0 hF)
    refine r_if_le hk 41 hF (dtX0_mayGrow_0 15 (27, .ifCond .le 14, 3) rfl) (by decide) (fun hF => ?_) (fun hF => ?_)
    · exact r_sub hk [] rfl (j41_6 hF)
    · refine r_iload_n hk 0 (dtX0_mayGrow_0 16 (30, .iload_n 1, 1) rfl) rfl ?_
      refine r_sipush (v := 1000) hk (dtX0_mayGrow_0 17 (31, .sipush 1000, 3) rfl) (by decide) ?_
      refine r_icmp_ge hk 41 hF (dtX0_mayGrow_0 18 (34, .if_icmp .ge 7, 3) rfl) (by decide) (fun hF => ?_) (fun hF => ?_)
      · exact r_sub hk [] rfl (j41_6 hF)
      · refine r_iconst (v := 1) hk (dtX0_mayGrow_0 19 (37, .iconst 1, 1) rfl) (by decide) ?_
        refine r_goto hk 42 (dtX0_mayGrow_0 20 (38, .goto 4, 3) rfl) (by decide) ?_
        exact r_sub hk [] rfl (j42_5 1 hF)
  refine r_if_gt hk 11 hF (dtX0_mayGrow_0 2 (4, .ifCond .gt 7, 3) rfl) (by decide) (fun hF => ?_) (fun hF => ?_)
  · refine r_aload_n hk 0 (dtX0_mayGrow_0 5 (11, .aload_n 0, 1) rfl) rfl ?_
    refine r_getR hk (k := 2) (fsX0 X) cbX0 (by decide) fl_X0_18 (in_main 3 (by decide)) (fun _ => rfl) (fun _ _ => rfl) (dtX0_mayGrow_0 6 (12, .getfield 18, 3) rfl) ?_
    refine r_aload_n hk 0 (dtX0_mayGrow_0 7 (15, .aload_n 0, 1) rfl) rfl ?_
    refine r_getI hk (k := 3) (fsX0 X) cbX0 (by decide) fl_X0_21 (in_main 3 (by decide)) (fun _ => rfl) (fun _ _ => rfl) hF (dtX0_mayGrow_0 8 (16, .getfield 21, 3) rfl) (fun v7 hF => ?_)
    refine r_iconst (v := 1) hk (dtX0_mayGrow_0 9 (19, .iconst 1, 1) rfl) (by decide) ?_
    refine r_isub hk hF (dtX0_mayGrow_0 10 (20, .isub, 1) rfl) (fun v8 hF => ?_)
    refine r_iald hk (in_main 7 (by decide)) (fun _ => rfl) hF (dtX0_mayGrow_0 11 (21, .iaload, 1) rfl) (fun v9 hF => ?_)
    refine r_mabs hk lk_X0_55 hF (by decide) (Nat.le_of_ble_eq_true rfl) (dtX0_mayGrow_0 12 (22, .invokestatic 55, 3) rfl) (fun v10 hF => ?_)
    exact r_sub hk [] rfl (j25_3 v10 hF)
  · refine r_iconst (v := 0) hk (dtX0_mayGrow_0 3 (7, .iconst 0, 1) rfl) (by decide) ?_
    refine r_goto hk 25 (dtX0_mayGrow_0 4 (8, .goto 17, 3) rfl) (by decide) ?_
    exact r_sub hk [] rfl (j25_3 0 hF)
set_option maxHeartbeats 4000000 in
set_option maxRecDepth 100000 in
theorem c_X0_take (l : Launch) (hlf : l.stackTraces = false) (X : XW)  (p1 : Int32) (m0 : Mem) (rv : Int32) (mE : Mem) (hF : F_X0_take p1 m0 = some (rv, mE)) : MX X l yX0_take cX0_take 2 (some .boolean) 2 [.ref (xad X (0, 0, 0, 3)), .int p1] m0 (QI X rv mE) := by
  refine startZ hlf (by decide +kernel) rfl [(0, .ref (xad X (0, 0, 0, 3))), (1, .int p1)] rfl (Nat.le_of_ble_eq_true rfl) (fun K hk hR => ?_)
  unfold F_X0_take at hF
  refine r_aload_n hk 0 (dtX0_take_0 0 (0, .aload_n 0, 1) rfl) rfl ?_
  refine r_getI hk (k := 4) (fsX0 X) cbX0 (by decide) fl_X0_25 (in_main 3 (by decide)) (fun _ => rfl) (fun _ _ => rfl) hF (dtX0_take_0 1 (1, .getfield 25, 3) rfl) (fun v1 hF => ?_)
  by_cases hs4_0 : v1 = 0
  · rw [if_pos hs4_0] at hF
    refine r_tabIn hk 40 (dtX0_take_0 2 (4, .tableswitch 105 0 4 #[36, 42, 48, 70, 76], 36) rfl) (by rw [hs4_0]; decide) (by rw [hs4_0]; decide) (by rw [hs4_0]; rfl) (by decide) ?_
    refine r_aload_n hk 0 (dtX0_take_0 3 (40, .aload_n 0, 1) rfl) rfl ?_
    refine r_iload_n hk 1 (dtX0_take_0 4 (41, .iload_n 1, 1) rfl) rfl ?_
    refine r_callIm hF (fun v2 m3 h H locs ls hH hS hl => run_V (y := yX0_takeLetter) hk (in_main 3 (by decide)) rfl rfl (c_X0_takeLetter (kl K) hk.2.2.2.2.2.2.2.2.2.2.2 X  p1 m0 v2 m3 h) lk_X0_32 me_X0_takeLetter yf_X0_takeLetter (by decide) (by decide) rfl (Nat.le_of_ble_eq_true rfl) rfl (dtX0_take_0 5 (42, .invokevirtual 32, 3) rfl) hH hS hl) (fun v2 m3 hF => ?_)
    obtain ⟨hz, hF⟩ := ck_some hF
    cases Option.some.inj hF
    exact hR _ _ hz (dtX0_take_0 6 (45, .ireturn, 1) rfl)
  · rw [if_neg hs4_0] at hF
    by_cases hs4_1 : v1 = 1
    · rw [if_pos hs4_1] at hF
      refine r_tabIn hk 46 (dtX0_take_0 2 (4, .tableswitch 105 0 4 #[36, 42, 48, 70, 76], 36) rfl) (by rw [hs4_1]; decide) (by rw [hs4_1]; decide) (by rw [hs4_1]; rfl) (by decide) ?_
      refine r_aload_n hk 0 (dtX0_take_0 7 (46, .aload_n 0, 1) rfl) rfl ?_
      refine r_iload_n hk 1 (dtX0_take_0 8 (47, .iload_n 1, 1) rfl) rfl ?_
      refine r_callIm hF (fun v4 m5 h H locs ls hH hS hl => run_V (y := yX0_takeSign) hk (in_main 3 (by decide)) rfl rfl (c_X0_takeSign (kl K) hk.2.2.2.2.2.2.2.2.2.2.2 X  p1 m0 v4 m5 h) lk_X0_35 me_X0_takeSign yf_X0_takeSign (by decide) (by decide) rfl (Nat.le_of_ble_eq_true rfl) rfl (dtX0_take_0 9 (48, .invokevirtual 35, 3) rfl) hH hS hl) (fun v4 m5 hF => ?_)
      obtain ⟨hz, hF⟩ := ck_some hF
      cases Option.some.inj hF
      exact hR _ _ hz (dtX0_take_0 10 (51, .ireturn, 1) rfl)
    · rw [if_neg hs4_1] at hF
      by_cases hs4_2 : v1 = 2
      · rw [if_pos hs4_2] at hF
        refine r_tabIn hk 52 (dtX0_take_0 2 (4, .tableswitch 105 0 4 #[36, 42, 48, 70, 76], 36) rfl) (by rw [hs4_2]; decide) (by rw [hs4_2]; decide) (by rw [hs4_2]; rfl) (by decide) ?_
        refine r_aload_n hk 0 (dtX0_take_0 11 (52, .aload_n 0, 1) rfl) rfl ?_
        refine r_iload_n hk 1 (dtX0_take_0 12 (53, .iload_n 1, 1) rfl) rfl ?_
        refine r_callIm hF (fun v6 m7 h H locs ls hH hS hl => run_V (y := yX0_takeMinus) hk (in_main 3 (by decide)) rfl rfl (c_X0_takeMinus (kl K) hk.2.2.2.2.2.2.2.2.2.2.2 X  p1 m0 v6 m7 h) lk_X0_38 me_X0_takeMinus yf_X0_takeMinus (by decide) (by decide) rfl (Nat.le_of_ble_eq_true rfl) rfl (dtX0_take_0 13 (54, .invokevirtual 38, 3) rfl) hH hS hl) (fun v6 m7 hF => ?_)
        have j73_10 : ∀ (v8 : Int32) (m9 : Mem), J_X0_take_73 v8 m9 = some (rv, mE) → G X K 73 [] [.int v8] m9 := by
          intro v8 m9 hF
          unfold J_X0_take_73 at hF
          obtain ⟨hz, hF⟩ := ck_some hF
          cases Option.some.inj hF
          exact hR _ _ hz (dtX0_take_0 22 (73, .ireturn, 1) rfl)
        have j68_12 : ∀ (m11 : Mem), J_X0_take_68 m11 = some (rv, mE) → G X K 68 [] [] m11 := by
          intro m11 hF
          unfold J_X0_take_68 at hF
          refine r_iconst (v := 1) hk (dtX0_take_0 19 (68, .iconst 1, 1) rfl) (by decide) ?_
          refine r_goto hk 73 (dtX0_take_0 20 (69, .goto 4, 3) rfl) (by decide) ?_
          exact r_sub hk [] rfl (j73_10 1 m11 hF)
        refine r_if_ne hk 68 hF (dtX0_take_0 14 (57, .ifCond .ne 11, 3) rfl) (by decide) (fun hF => ?_) (fun hF => ?_)
        · exact r_sub hk [] rfl (j68_12 m7 hF)
        · refine r_aload_n hk 0 (dtX0_take_0 15 (60, .aload_n 0, 1) rfl) rfl ?_
          refine r_iload_n hk 1 (dtX0_take_0 16 (61, .iload_n 1, 1) rfl) rfl ?_
          refine r_callIm hF (fun v13 m14 h H locs ls hH hS hl => run_V (y := yX0_takeDigit) hk (in_main 3 (by decide)) rfl rfl (c_X0_takeDigit (kl K) hk.2.2.2.2.2.2.2.2.2.2.2 X  p1 m7 v13 m14 h) lk_X0_41 me_X0_takeDigit yf_X0_takeDigit (by decide) (by decide) rfl (Nat.le_of_ble_eq_true rfl) rfl (dtX0_take_0 17 (62, .invokevirtual 41, 3) rfl) hH hS hl) (fun v13 m14 hF => ?_)
          refine r_if_eq hk 72 hF (dtX0_take_0 18 (65, .ifCond .eq 7, 3) rfl) (by decide) (fun hF => ?_) (fun hF => ?_)
          · refine r_iconst (v := 0) hk (dtX0_take_0 21 (72, .iconst 0, 1) rfl) (by decide) ?_
            exact r_sub hk [] rfl (j73_10 0 m14 hF)
          · exact r_sub hk [] rfl (j68_12 m14 hF)
      · rw [if_neg hs4_2] at hF
        by_cases hs4_3 : v1 = 3
        · rw [if_pos hs4_3] at hF
          refine r_tabIn hk 74 (dtX0_take_0 2 (4, .tableswitch 105 0 4 #[36, 42, 48, 70, 76], 36) rfl) (by rw [hs4_3]; decide) (by rw [hs4_3]; decide) (by rw [hs4_3]; rfl) (by decide) ?_
          refine r_aload_n hk 0 (dtX0_take_0 23 (74, .aload_n 0, 1) rfl) rfl ?_
          refine r_iload_n hk 1 (dtX0_take_0 24 (75, .iload_n 1, 1) rfl) rfl ?_
          refine r_callIm hF (fun v15 m16 h H locs ls hH hS hl => run_V (y := yX0_takeDigit) hk (in_main 3 (by decide)) rfl rfl (c_X0_takeDigit (kl K) hk.2.2.2.2.2.2.2.2.2.2.2 X  p1 m0 v15 m16 h) lk_X0_41 me_X0_takeDigit yf_X0_takeDigit (by decide) (by decide) rfl (Nat.le_of_ble_eq_true rfl) rfl (dtX0_take_0 25 (76, .invokevirtual 41, 3) rfl) hH hS hl) (fun v15 m16 hF => ?_)
          obtain ⟨hz, hF⟩ := ck_some hF
          cases Option.some.inj hF
          exact hR _ _ hz (dtX0_take_0 26 (79, .ireturn, 1) rfl)
        · rw [if_neg hs4_3] at hF
          by_cases hs4_4 : v1 = 4
          · rw [if_pos hs4_4] at hF
            refine r_tabIn hk 80 (dtX0_take_0 2 (4, .tableswitch 105 0 4 #[36, 42, 48, 70, 76], 36) rfl) (by rw [hs4_4]; decide) (by rw [hs4_4]; decide) (by rw [hs4_4]; rfl) (by decide) ?_
            refine r_aload_n hk 0 (dtX0_take_0 27 (80, .aload_n 0, 1) rfl) rfl ?_
            refine r_iload_n hk 1 (dtX0_take_0 28 (81, .iload_n 1, 1) rfl) rfl ?_
            refine r_callIm hF (fun v17 m18 h H locs ls hH hS hl => run_V (y := yX0_takeAnd) hk (in_main 3 (by decide)) rfl rfl (c_X0_takeAnd (kl K) hk.2.2.2.2.2.2.2.2.2.2.2 X  p1 m0 v17 m18 h) lk_X0_44 me_X0_takeAnd yf_X0_takeAnd (by decide) (by decide) rfl (Nat.le_of_ble_eq_true rfl) rfl (dtX0_take_0 29 (82, .invokevirtual 44, 3) rfl) hH hS hl) (fun v17 m18 hF => ?_)
            have j108_21 : ∀ (v19 : Int32) (m20 : Mem), J_X0_take_108 v19 m20 = some (rv, mE) → G X K 108 [] [.int v19] m20 := by
              intro v19 m20 hF
              unfold J_X0_take_108 at hF
              obtain ⟨hz, hF⟩ := ck_some hF
              cases Option.some.inj hF
              exact hR _ _ hz (dtX0_take_0 41 (108, .ireturn, 1) rfl)
            have j103_23 : ∀ (m22 : Mem), J_X0_take_103 m22 = some (rv, mE) → G X K 103 [] [] m22 := by
              intro m22 hF
              unfold J_X0_take_103 at hF
              refine r_iconst (v := 1) hk (dtX0_take_0 38 (103, .iconst 1, 1) rfl) (by decide) ?_
              refine r_goto hk 108 (dtX0_take_0 39 (104, .goto 4, 3) rfl) (by decide) ?_
              exact r_sub hk [] rfl (j108_21 1 m22 hF)
            refine r_if_ne hk 103 hF (dtX0_take_0 30 (85, .ifCond .ne 18, 3) rfl) (by decide) (fun hF => ?_) (fun hF => ?_)
            · exact r_sub hk [] rfl (j103_23 m18 hF)
            · refine r_aload_n hk 0 (dtX0_take_0 31 (88, .aload_n 0, 1) rfl) rfl ?_
              refine r_callI hF (fun v24 h H locs ls hH hS hl => run_V (y := yX0_mayGrow) hk (in_main 3 (by decide)) rfl rfl (c_X0_mayGrow (kl K) hk.2.2.2.2.2.2.2.2.2.2.2 X   m18 v24 h) lk_X0_47 me_X0_mayGrow yf_X0_mayGrow (by decide) (by decide) rfl (Nat.le_of_ble_eq_true rfl) rfl (dtX0_take_0 32 (89, .invokevirtual 47, 3) rfl) hH hS hl) (fun v24 hF => ?_)
              have j107_26 : ∀ (m25 : Mem), J_X0_take_107 m25 = some (rv, mE) → G X K 107 [] [] m25 := by
                intro m25 hF
                unfold J_X0_take_107 at hF
                refine r_iconst (v := 0) hk (dtX0_take_0 40 (107, .iconst 0, 1) rfl) (by decide) ?_
                exact r_sub hk [] rfl (j108_21 0 m25 hF)
              refine r_if_eq hk 107 hF (dtX0_take_0 33 (92, .ifCond .eq 15, 3) rfl) (by decide) (fun hF => ?_) (fun hF => ?_)
              · exact r_sub hk [] rfl (j107_26 m18 hF)
              · refine r_aload_n hk 0 (dtX0_take_0 34 (95, .aload_n 0, 1) rfl) rfl ?_
                refine r_iload_n hk 1 (dtX0_take_0 35 (96, .iload_n 1, 1) rfl) rfl ?_
                refine r_callIm hF (fun v27 m28 h H locs ls hH hS hl => run_V (y := yX0_takeDigit) hk (in_main 3 (by decide)) rfl rfl (c_X0_takeDigit (kl K) hk.2.2.2.2.2.2.2.2.2.2.2 X  p1 m18 v27 m28 h) lk_X0_41 me_X0_takeDigit yf_X0_takeDigit (by decide) (by decide) rfl (Nat.le_of_ble_eq_true rfl) rfl (dtX0_take_0 36 (97, .invokevirtual 41, 3) rfl) hH hS hl) (fun v27 m28 hF => ?_)
                refine r_if_eq hk 107 hF (dtX0_take_0 37 (100, .ifCond .eq 7, 3) rfl) (by decide) (fun hF => ?_) (fun hF => ?_)
                · exact r_sub hk [] rfl (j107_26 m28 hF)
                · exact r_sub hk [] rfl (j103_23 m28 hF)
          · rw [if_neg hs4_4] at hF
            refine r_tabOut hk 109 (dtX0_take_0 2 (4, .tableswitch 105 0 4 #[36, 42, 48, 70, 76], 36) rfl) (by have q0 := lv_neT hs4_0 (a := 0) rfl; have q1 := lv_neT hs4_1 (a := 1) rfl; have q2 := lv_neT hs4_2 (a := 2) rfl; have q3 := lv_neT hs4_3 (a := 3) rfl; have q4 := lv_neT hs4_4 (a := 4) rfl; omega) (by decide) ?_
            refine r_iconst (v := 0) hk (dtX0_take_0 42 (109, .iconst 0, 1) rfl) (by decide) ?_
            obtain ⟨hz, hF⟩ := ck_some hF
            cases Option.some.inj hF
            exact hR _ _ hz (dtX0_take_0 43 (110, .ireturn, 1) rfl)
set_option maxHeartbeats 4000000 in
set_option maxRecDepth 100000 in
theorem c_X0_read (l : Launch) (hlf : l.stackTraces = false) (X : XW)  (p2 : Int32) (m0 : Mem) (rv : Int32) (mE : Mem) (hF : F_X0_read p2 m0 = some (rv, mE)) : MX X l yX0_read cX0_read 4 (some .int) 3 [.ref (xad X (0, 0, 0, 3)), .ref (xad X (0, 0, 0, 2)), .int p2] m0 (QI X rv mE) := by
  refine startI hlf (by decide +kernel) rfl [(0, .ref (xad X (0, 0, 0, 3))), (1, .ref (xad X (0, 0, 0, 2))), (2, .int p2)] rfl (Nat.le_of_ble_eq_true rfl) (fun K hk hR => ?_)
  unfold F_X0_read at hF
  refine r_aload_n hk 0 (dtX0_read_0 0 (0, .aload_n 0, 1) rfl) rfl ?_
  refine r_iconst (v := 0) hk (dtX0_read_0 1 (1, .iconst 0, 1) rfl) (by decide) ?_
  refine r_putI hk (k := 3) (fsX0 X) cbX0 (by decide) fl_X0_21 (in_main 3 (by decide)) (fun _ => rfl) rfl rfl (fun _ _ _ => rfl) (fun _ _ => (by decide : 3 < 6)) hF (dtX0_read_0 2 (2, .putfield 21, 3) rfl) (fun m1 hF => ?_)
  refine r_aload_n hk 0 (dtX0_read_0 3 (5, .aload_n 0, 1) rfl) rfl ?_
  refine r_iconst (v := 0) hk (dtX0_read_0 4 (6, .iconst 0, 1) rfl) (by decide) ?_
  refine r_putI hk (k := 4) (fsX0 X) cbX0 (by decide) fl_X0_25 (in_main 3 (by decide)) (fun _ => rfl) rfl rfl (fun _ _ _ => rfl) (fun _ _ => (by decide : 4 < 6)) hF (dtX0_read_0 5 (7, .putfield 25, 3) rfl) (fun m2 hF => ?_)
  refine r_iconst (v := 0) hk (dtX0_read_0 6 (10, .iconst 0, 1) rfl) (by decide) ?_
  refine r_istore_n hk [(3, .int 0), (0, .ref (xad X (0, 0, 0, 3))), (1, .ref (xad X (0, 0, 0, 2))), (2, .int p2)] (dtX0_read_0 7 (11, .istore_n 3, 1) rfl) (by decide) rfl ?_
  have e46_4 : ∀ (m3 : Mem), (C_X0_read_46 p2) m3 = some (rv, mE) → G X K 46 [(2, .int p2)] [] m3 := by
    intro m3 hF
    unfold C_X0_read_46 at hF
    refine r_iload_n hk 0 (dtX0_read_0 28 (46, .iload_n 2, 1) rfl) rfl ?_
    cases Option.some.inj hF
    exact hR _ _ (dtX0_read_0 29 (47, .ireturn, 1) rfl)
  have l8 : ∀ (n8 : Nat) (v5 : Int32) (m6 : Mem), L_X0_read_12 p2 n8 v5 m6 = some (rv, mE) → G X K 12 [(0, .ref (xad X (0, 0, 0, 3))), (1, .ref (xad X (0, 0, 0, 2))), (2, .int p2), (3, .int v5)] [] m6 := by
    intro n8
    induction n8 with
    | zero => intro v5 m6 hF; exact nomatch (show (none : Option (Int32 × Mem)) = some (rv, mE) from hF)
    | succ n8 ih8 =>
      intro v5 m6 hF
      rw [L_X0_read_12] at hF
      refine r_iload_n hk 3 (dtX0_read_0 8 (12, .iload_n 3, 1) rfl) rfl ?_
      refine r_iload_n hk 2 (dtX0_read_0 9 (13, .iload_n 2, 1) rfl) rfl ?_
      refine r_icmp_ge hk 46 hF (dtX0_read_0 10 (14, .if_icmp .ge 32, 3) rfl) (by decide) (fun hF => ?_) (fun hF => ?_)
      · exact r_sub hk [2] rfl (e46_4 m6 hF)
      · refine r_iload_n hk 3 (dtX0_read_0 11 (17, .iload_n 3, 1) rfl) rfl ?_
        refine r_aload_n hk 1 (dtX0_read_0 12 (18, .aload_n 1, 1) rfl) rfl ?_
        refine r_alen (v := 40) hk (in_main 2 (by decide)) (fun _ => rfl) (by decide) (dtX0_read_0 13 (19, .arraylength, 1) rfl) ?_
        refine r_icmp_ge hk 46 hF (dtX0_read_0 14 (20, .if_icmp .ge 26, 3) rfl) (by decide) (fun hF => ?_) (fun hF => ?_)
        · exact r_sub hk [2] rfl (e46_4 m6 hF)
        · refine r_aload_n hk 0 (dtX0_read_0 15 (23, .aload_n 0, 1) rfl) rfl ?_
          refine r_aload_n hk 1 (dtX0_read_0 16 (24, .aload_n 1, 1) rfl) rfl ?_
          refine r_iload_n hk 3 (dtX0_read_0 17 (25, .iload_n 3, 1) rfl) rfl ?_
          refine r_iald hk (in_main 2 (by decide)) (fun _ => rfl) hF (dtX0_read_0 18 (26, .iaload, 1) rfl) (fun v9 hF => ?_)
          refine r_callIm hF (fun v10 m11 h H locs ls hH hS hl => run_V (y := yX0_take) hk (in_main 3 (by decide)) rfl rfl (c_X0_take (kl K) hk.2.2.2.2.2.2.2.2.2.2.2 X  v9 m6 v10 m11 h) lk_X0_28 me_X0_take yf_X0_take (by decide) (by decide) rfl (Nat.le_of_ble_eq_true rfl) rfl (dtX0_read_0 19 (27, .invokevirtual 28, 3) rfl) hH hS hl) (fun v10 m11 hF => ?_)
          refine r_if_ne hk 40 hF (dtX0_read_0 20 (30, .ifCond .ne 10, 3) rfl) (by decide) (fun hF => ?_) (fun hF => ?_)
          · refine r_iinc hk 1 3 (fun v12 => [(3, .int v12), (0, .ref (xad X (0, 0, 0, 3))), (1, .ref (xad X (0, 0, 0, 2))), (2, .int p2)]) hF (dtX0_read_0 26 (40, .iinc 3 1, 3) rfl) rfl (by decide) (by decide) (fun _ => rfl) (fun v12 hF => ?_)
            refine r_goto hk 12 (dtX0_read_0 27 (43, .goto (-31), 3) rfl) (by decide) ?_
            exact r_sub hk [1, 2, 3, 0] rfl (ih8 v12 m11 hF)
          · refine r_aload_n hk 0 (dtX0_read_0 21 (33, .aload_n 0, 1) rfl) rfl ?_
            refine r_iconst (v := 5) hk (dtX0_read_0 22 (34, .iconst 5, 1) rfl) (by decide) ?_
            refine r_putI hk (k := 4) (fsX0 X) cbX0 (by decide) fl_X0_25 (in_main 3 (by decide)) (fun _ => rfl) rfl rfl (fun _ _ _ => rfl) (fun _ _ => (by decide : 4 < 6)) hF (dtX0_read_0 23 (35, .putfield 25, 3) rfl) (fun m13 hF => ?_)
            refine r_iload_n hk 3 (dtX0_read_0 24 (38, .iload_n 3, 1) rfl) rfl ?_
            cases Option.some.inj hF
            exact hR _ _ (dtX0_read_0 25 (39, .ireturn, 1) rfl)
  exact r_sub hk [1, 2, 3, 0] rfl (l8 fu 0 m2 hF)
set_option maxHeartbeats 4000000 in
set_option maxRecDepth 100000 in
theorem c_X0_isWhole (l : Launch) (hlf : l.stackTraces = false) (X : XW)   (m0 : Mem) (rv : Int32) (hF : F_X0_isWhole m0 = some rv) : MX X l yX0_isWhole cX0_isWhole 1 (some .boolean) 0 [.ref (xad X (0, 0, 0, 3))] m0 (QI X rv m0) := by
  refine startZ hlf (by decide +kernel) rfl [(0, .ref (xad X (0, 0, 0, 3)))] rfl (Nat.le_of_ble_eq_true rfl) (fun K hk hR => ?_)
  unfold F_X0_isWhole at hF
  refine r_aload_n hk 0 (dtX0_isWhole_0 0 (0, .aload_n 0, 1) rfl) rfl ?_
  refine r_getI hk (k := 4) (fsX0 X) cbX0 (by decide) fl_X0_25 (in_main 3 (by decide)) (fun _ => rfl) (fun _ _ => rfl) hF (dtX0_isWhole_0 1 (1, .getfield 25, 3) rfl) (fun v1 hF => ?_)
  refine r_iconst (v := 4) hk (dtX0_isWhole_0 2 (4, .iconst 4, 1) rfl) (by decide) ?_
  have j13_3 : ∀ (v2 : Int32), J_X0_isWhole_13 v2 = some rv → G X K 13 [] [.int v2] m0 := by
    intro v2 hF
    unfold J_X0_isWhole_13 at hF
    obtain ⟨hz, hF⟩ := ck_some hF
    cases Option.some.inj hF
    exact hR _ _ hz (dtX0_isWhole_0 7 (13, .ireturn, 1) rfl)
  refine r_icmp_ne hk 12 hF (dtX0_isWhole_0 3 (5, .if_icmp .ne 7, 3) rfl) (by decide) (fun hF => ?_) (fun hF => ?_)
  · refine r_iconst (v := 0) hk (dtX0_isWhole_0 6 (12, .iconst 0, 1) rfl) (by decide) ?_
    exact r_sub hk [] rfl (j13_3 0 hF)
  · refine r_iconst (v := 1) hk (dtX0_isWhole_0 4 (8, .iconst 1, 1) rfl) (by decide) ?_
    refine r_goto hk 13 (dtX0_isWhole_0 5 (9, .goto 4, 3) rfl) (by decide) ?_
    exact r_sub hk [] rfl (j13_3 1 hF)
set_option maxHeartbeats 4000000 in
set_option maxRecDepth 100000 in
theorem c_X3_readQuestion (l : Launch) (hlf : l.stackTraces = false) (X : XW)   (m0 : Mem) (rv : Int32) (mE : Mem) (hF : F_X3_readQuestion m0 = some (rv, mE)) : MX X l yX3_readQuestion cX3_readQuestion 1 (some .boolean) 4 [.ref (xad X (0, 0, 0, 0))] m0 (QI X rv mE) := by
  refine startZ hlf (by decide +kernel) rfl [(0, .ref (xad X (0, 0, 0, 0)))] rfl (Nat.le_of_ble_eq_true rfl) (fun K hk hR => ?_)
  unfold F_X3_readQuestion at hF
  refine r_aload_n hk 0 (dtX3_readQuestion_0 0 (0, .aload_n 0, 1) rfl) rfl ?_
  refine r_getR hk (k := 2) (fsX3 X) cbX3 (by decide) fl_X3_22 (in_main 0 (by decide)) (fun _ => rfl) (fun _ _ => rfl) (dtX3_readQuestion_0 1 (1, .getfield 22, 3) rfl) ?_
  refine r_aload_n hk 0 (dtX3_readQuestion_0 2 (4, .aload_n 0, 1) rfl) rfl ?_
  refine r_getR hk (k := 1) (fsX3 X) cbX3 (by decide) fl_X3_15 (in_main 0 (by decide)) (fun _ => rfl) (fun _ _ => rfl) (dtX3_readQuestion_0 3 (5, .getfield 15, 3) rfl) ?_
  refine r_aload_n hk 0 (dtX3_readQuestion_0 4 (8, .aload_n 0, 1) rfl) rfl ?_
  refine r_getI hk (k := 6) (fsX3 X) cbX3 (by decide) fl_X3_145 (in_main 0 (by decide)) (fun _ => rfl) (fun _ _ => rfl) hF (dtX3_readQuestion_0 5 (9, .getfield 145, 3) rfl) (fun v1 hF => ?_)
  refine r_callIm hF (fun v2 m3 h H locs ls hH hS hl => run_V (y := yX0_read) hk (in_main 3 (by decide)) rfl rfl (c_X0_read (kl K) hk.2.2.2.2.2.2.2.2.2.2.2 X  v1 m0 v2 m3 h) lk_X3_155 me_X0_read yf_X0_read (by decide) (by decide) rfl (Nat.le_of_ble_eq_true rfl) rfl (dtX3_readQuestion_0 6 (12, .invokevirtual 155, 3) rfl) hH hS hl) (fun v2 m3 hF => ?_)
  refine r_pop hk (dtX3_readQuestion_0 7 (15, .pop, 1) rfl) rfl ?_
  refine r_aload_n hk 0 (dtX3_readQuestion_0 8 (16, .aload_n 0, 1) rfl) rfl ?_
  refine r_getR hk (k := 2) (fsX3 X) cbX3 (by decide) fl_X3_22 (in_main 0 (by decide)) (fun _ => rfl) (fun _ _ => rfl) (dtX3_readQuestion_0 9 (17, .getfield 22, 3) rfl) ?_
  refine r_callI hF (fun v4 h H locs ls hH hS hl => run_V (y := yX0_isWhole) hk (in_main 3 (by decide)) rfl rfl (c_X0_isWhole (kl K) hk.2.2.2.2.2.2.2.2.2.2.2 X   m3 v4 h) lk_X3_280 me_X0_isWhole yf_X0_isWhole (by decide) (by decide) rfl (Nat.le_of_ble_eq_true rfl) rfl (dtX3_readQuestion_0 10 (20, .invokevirtual 280, 3) rfl) hH hS hl) (fun v4 hF => ?_)
  obtain ⟨hz, hF⟩ := ck_some hF
  cases Option.some.inj hF
  exact hR _ _ hz (dtX3_readQuestion_0 11 (23, .ireturn, 1) rfl)
set_option maxHeartbeats 4000000 in
set_option maxRecDepth 100000 in
theorem c_X2_columnOf (l : Launch) (hlf : l.stackTraces = false) (X : XW) (i0 : Nat) (hi0 : i0 < 7) (j0 : Nat) (hj0 : j0 < 3) (p1 : Int32) (m0 : Mem) (rv : Int32) (hF : F_X2_columnOf i0 j0 p1 m0 = some rv) : MX X l yX2_columnOf cX2_columnOf 3 (some .int) 0 [.ref (xad X (2, i0, j0, 0)), .int p1] m0 (QI X rv m0) := by
  refine startI hlf (by decide +kernel) rfl [(0, .ref (xad X (2, i0, j0, 0))), (1, .int p1)] rfl (Nat.le_of_ble_eq_true rfl) (fun K hk hR => ?_)
  unfold F_X2_columnOf at hF
  refine r_iconst (v := 0) hk (dtX2_columnOf_0 0 (0, .iconst 0, 1) rfl) (by decide) ?_
  refine r_istore_n hk [(2, .int 0), (0, .ref (xad X (2, i0, j0, 0))), (1, .int p1)] (dtX2_columnOf_0 1 (1, .istore_n 2, 1) rfl) (by decide) rfl ?_
  have e26_1 : C_X2_columnOf_26 = some rv → G X K 26 [] [] m0 := by
    intro hF
    unfold C_X2_columnOf_26 at hF
    refine r_iconst (v := (-1)) hk (dtX2_columnOf_0 15 (26, .iconst (-1), 1) rfl) (by decide) ?_
    cases Option.some.inj hF
    exact hR _ _ (dtX2_columnOf_0 16 (27, .ireturn, 1) rfl)
  have l4 : ∀ (n4 : Nat) (v2 : Int32), L_X2_columnOf_2 i0 j0 p1 m0 n4 v2 = some rv → G X K 2 [(0, .ref (xad X (2, i0, j0, 0))), (1, .int p1), (2, .int v2)] [] m0 := by
    intro n4
    induction n4 with
    | zero => intro v2 hF; exact nomatch (show (none : Option Int32) = some rv from hF)
    | succ n4 ih4 =>
      intro v2 hF
      rw [L_X2_columnOf_2] at hF
      refine r_iload_n hk 2 (dtX2_columnOf_0 2 (2, .iload_n 2, 1) rfl) rfl ?_
      refine r_bipush (v := 8) hk (dtX2_columnOf_0 3 (3, .bipush 8, 2) rfl) (by decide) ?_
      refine r_icmp_ge hk 26 hF (dtX2_columnOf_0 4 (5, .if_icmp .ge 21, 3) rfl) (by decide) (fun hF => ?_) (fun hF => ?_)
      · exact r_sub hk [] rfl (e26_1 hF)
      · refine r_aload_n hk 0 (dtX2_columnOf_0 5 (8, .aload_n 0, 1) rfl) rfl ?_
        refine r_getR hk (k := 0) (fsX2 X i0 j0) cbX2 (by decide) fl_X2_9 (in_tn i0 hi0 j0 hj0 0 (by decide)) (fun _ => rfl) (fun _ _ => rfl) (dtX2_columnOf_0 6 (9, .getfield 9, 3) rfl) ?_
        refine r_iload_n hk 2 (dtX2_columnOf_0 7 (12, .iload_n 2, 1) rfl) rfl ?_
        refine r_iald hk (in_tn i0 hi0 j0 hj0 1 (by decide)) (fun _ => rfl) hF (dtX2_columnOf_0 8 (13, .iaload, 1) rfl) (fun v5 hF => ?_)
        refine r_iload_n hk 1 (dtX2_columnOf_0 9 (14, .iload_n 1, 1) rfl) rfl ?_
        refine r_icmp_ne hk 20 hF (dtX2_columnOf_0 10 (15, .if_icmp .ne 5, 3) rfl) (by decide) (fun hF => ?_) (fun hF => ?_)
        · refine r_iinc hk 1 2 (fun v6 => [(2, .int v6), (0, .ref (xad X (2, i0, j0, 0))), (1, .int p1)]) hF (dtX2_columnOf_0 13 (20, .iinc 2 1, 3) rfl) rfl (by decide) (by decide) (fun _ => rfl) (fun v6 hF => ?_)
          refine r_goto hk 2 (dtX2_columnOf_0 14 (23, .goto (-21), 3) rfl) (by decide) ?_
          exact r_sub hk [1, 2, 0] rfl (ih4 v6 hF)
        · refine r_iload_n hk 2 (dtX2_columnOf_0 11 (18, .iload_n 2, 1) rfl) rfl ?_
          cases Option.some.inj hF
          exact hR _ _ (dtX2_columnOf_0 12 (19, .ireturn, 1) rfl)
  exact r_sub hk [1, 2, 0] rfl (l4 fu 0 hF)
set_option maxHeartbeats 4000000 in
set_option maxRecDepth 100000 in
theorem c_X0_allows (l : Launch) (hlf : l.stackTraces = false) (X : XW)  (p1 : Int32) (p2 : Int32) (m0 : Mem) (rv : Int32) (hF : F_X0_allows p1 p2 m0 = some rv) : MX X l yX0_allows cX0_allows 3 (some .boolean) 0 [.ref (xad X (0, 0, 0, 3)), .int p1, .int p2] m0 (QI X rv m0) := by
  refine startZ hlf (by decide +kernel) rfl [(0, .ref (xad X (0, 0, 0, 3))), (1, .int p1), (2, .int p2)] rfl (Nat.le_of_ble_eq_true rfl) (fun K hk hR => ?_)
  unfold F_X0_allows at hF
  refine r_aload_n hk 0 (dtX0_allows_0 0 (0, .aload_n 0, 1) rfl) rfl ?_
  refine r_getR hk (k := 1) (fsX0 X) cbX0 (by decide) fl_X0_15 (in_main 3 (by decide)) (fun _ => rfl) (fun _ _ => rfl) (dtX0_allows_0 1 (1, .getfield 15, 3) rfl) ?_
  refine r_iload_n hk 1 (dtX0_allows_0 2 (4, .iload_n 1, 1) rfl) rfl ?_
  refine r_iald hk (in_main 6 (by decide)) (fun _ => rfl) hF (dtX0_allows_0 3 (5, .iaload, 1) rfl) (fun v1 hF => ?_)
  by_cases hs6_60 : v1 = 60
  · rw [if_pos hs6_60] at hF
    refine r_lookup (off := 42) hk 48 (dtX0_allows_0 4 (6, .lookupswitch 58 #[(60, 42), (61, 26)], 26) rfl) (by decide) (lk_eq hs6_60 (by decide)) (by decide) ?_
    refine r_iload_n hk 2 (dtX0_allows_0 15 (48, .iload_n 2, 1) rfl) rfl ?_
    refine r_aload_n hk 0 (dtX0_allows_0 16 (49, .aload_n 0, 1) rfl) rfl ?_
    refine r_getR hk (k := 2) (fsX0 X) cbX0 (by decide) fl_X0_18 (in_main 3 (by decide)) (fun _ => rfl) (fun _ _ => rfl) (dtX0_allows_0 17 (50, .getfield 18, 3) rfl) ?_
    refine r_iload_n hk 1 (dtX0_allows_0 18 (53, .iload_n 1, 1) rfl) rfl ?_
    refine r_iald hk (in_main 7 (by decide)) (fun _ => rfl) hF (dtX0_allows_0 19 (54, .iaload, 1) rfl) (fun v2 hF => ?_)
    have j63_4 : ∀ (v3 : Int32), J_X0_allows_63 v3 = some rv → G X K 63 [] [.int v3] m0 := by
      intro v3 hF
      unfold J_X0_allows_63 at hF
      obtain ⟨hz, hF⟩ := ck_some hF
      cases Option.some.inj hF
      exact hR _ _ hz (dtX0_allows_0 24 (63, .ireturn, 1) rfl)
    refine r_icmp_ge hk 62 hF (dtX0_allows_0 20 (55, .if_icmp .ge 7, 3) rfl) (by decide) (fun hF => ?_) (fun hF => ?_)
    · refine r_iconst (v := 0) hk (dtX0_allows_0 23 (62, .iconst 0, 1) rfl) (by decide) ?_
      exact r_sub hk [] rfl (j63_4 0 hF)
    · refine r_iconst (v := 1) hk (dtX0_allows_0 21 (58, .iconst 1, 1) rfl) (by decide) ?_
      refine r_goto hk 63 (dtX0_allows_0 22 (59, .goto 4, 3) rfl) (by decide) ?_
      exact r_sub hk [] rfl (j63_4 1 hF)
  · rw [if_neg hs6_60] at hF
    by_cases hs6_61 : v1 = 61
    · rw [if_pos hs6_61] at hF
      refine r_lookup (off := 26) hk 32 (dtX0_allows_0 4 (6, .lookupswitch 58 #[(60, 42), (61, 26)], 26) rfl) (by decide) (lk_eq hs6_61 (by decide)) (by decide) ?_
      refine r_iload_n hk 2 (dtX0_allows_0 5 (32, .iload_n 2, 1) rfl) rfl ?_
      refine r_aload_n hk 0 (dtX0_allows_0 6 (33, .aload_n 0, 1) rfl) rfl ?_
      refine r_getR hk (k := 2) (fsX0 X) cbX0 (by decide) fl_X0_18 (in_main 3 (by decide)) (fun _ => rfl) (fun _ _ => rfl) (dtX0_allows_0 7 (34, .getfield 18, 3) rfl) ?_
      refine r_iload_n hk 1 (dtX0_allows_0 8 (37, .iload_n 1, 1) rfl) rfl ?_
      refine r_iald hk (in_main 7 (by decide)) (fun _ => rfl) hF (dtX0_allows_0 9 (38, .iaload, 1) rfl) (fun v5 hF => ?_)
      have j47_7 : ∀ (v6 : Int32), J_X0_allows_47 v6 = some rv → G X K 47 [] [.int v6] m0 := by
        intro v6 hF
        unfold J_X0_allows_47 at hF
        obtain ⟨hz, hF⟩ := ck_some hF
        cases Option.some.inj hF
        exact hR _ _ hz (dtX0_allows_0 14 (47, .ireturn, 1) rfl)
      refine r_icmp_ne hk 46 hF (dtX0_allows_0 10 (39, .if_icmp .ne 7, 3) rfl) (by decide) (fun hF => ?_) (fun hF => ?_)
      · refine r_iconst (v := 0) hk (dtX0_allows_0 13 (46, .iconst 0, 1) rfl) (by decide) ?_
        exact r_sub hk [] rfl (j47_7 0 hF)
      · refine r_iconst (v := 1) hk (dtX0_allows_0 11 (42, .iconst 1, 1) rfl) (by decide) ?_
        refine r_goto hk 47 (dtX0_allows_0 12 (43, .goto 4, 3) rfl) (by decide) ?_
        exact r_sub hk [] rfl (j47_7 1 hF)
    · rw [if_neg hs6_61] at hF
      refine r_lookup (off := 58) hk 64 (dtX0_allows_0 4 (6, .lookupswitch 58 #[(60, 42), (61, 26)], 26) rfl) (by decide) ((lv_osw hs6_60 (by decide)).trans ((lv_osw hs6_61 (by decide)).trans rfl)) (by decide) ?_
      refine r_iload_n hk 2 (dtX0_allows_0 25 (64, .iload_n 2, 1) rfl) rfl ?_
      refine r_aload_n hk 0 (dtX0_allows_0 26 (65, .aload_n 0, 1) rfl) rfl ?_
      refine r_getR hk (k := 2) (fsX0 X) cbX0 (by decide) fl_X0_18 (in_main 3 (by decide)) (fun _ => rfl) (fun _ _ => rfl) (dtX0_allows_0 27 (66, .getfield 18, 3) rfl) ?_
      refine r_iload_n hk 1 (dtX0_allows_0 28 (69, .iload_n 1, 1) rfl) rfl ?_
      refine r_iald hk (in_main 7 (by decide)) (fun _ => rfl) hF (dtX0_allows_0 29 (70, .iaload, 1) rfl) (fun v8 hF => ?_)
      have j79_10 : ∀ (v9 : Int32), J_X0_allows_79 v9 = some rv → G X K 79 [] [.int v9] m0 := by
        intro v9 hF
        unfold J_X0_allows_79 at hF
        obtain ⟨hz, hF⟩ := ck_some hF
        cases Option.some.inj hF
        exact hR _ _ hz (dtX0_allows_0 34 (79, .ireturn, 1) rfl)
      refine r_icmp_le hk 78 hF (dtX0_allows_0 30 (71, .if_icmp .le 7, 3) rfl) (by decide) (fun hF => ?_) (fun hF => ?_)
      · refine r_iconst (v := 0) hk (dtX0_allows_0 33 (78, .iconst 0, 1) rfl) (by decide) ?_
        exact r_sub hk [] rfl (j79_10 0 hF)
      · refine r_iconst (v := 1) hk (dtX0_allows_0 31 (74, .iconst 1, 1) rfl) (by decide) ?_
        refine r_goto hk 79 (dtX0_allows_0 32 (75, .goto 4, 3) rfl) (by decide) ?_
        exact r_sub hk [] rfl (j79_10 1 hF)
set_option maxHeartbeats 4000000 in
set_option maxRecDepth 100000 in
theorem c_X3_isAnswer (l : Launch) (hlf : l.stackTraces = false) (X : XW) (i2 : Nat) (hi2 : i2 < 7) (j2 : Nat) (hj2 : j2 < 3) (p1 : Int32) (m0 : Mem) (rv : Int32) (hF : F_X3_isAnswer i2 j2 p1 m0 = some rv) : MX X l yX3_isAnswer cX3_isAnswer 5 (some .boolean) 1 [.ref (xad X (0, 0, 0, 0)), .int p1, .ref (xad X (2, i2, j2, 0))] m0 (QI X rv m0) := by
  refine startZ hlf (by decide +kernel) rfl [(0, .ref (xad X (0, 0, 0, 0))), (1, .int p1), (2, .ref (xad X (2, i2, j2, 0)))] rfl (Nat.le_of_ble_eq_true rfl) (fun K hk hR => ?_)
  unfold F_X3_isAnswer at hF
  refine r_iconst (v := 0) hk (dtX3_isAnswer_0 0 (0, .iconst 0, 1) rfl) (by decide) ?_
  refine r_istore_n hk [(3, .int 0), (0, .ref (xad X (0, 0, 0, 0))), (1, .int p1), (2, .ref (xad X (2, i2, j2, 0)))] (dtX3_isAnswer_0 1 (1, .istore_n 3, 1) rfl) (by decide) rfl ?_
  have e64_1 : C_X3_isAnswer_64 = some rv → G X K 64 [] [] m0 := by
    intro hF
    unfold C_X3_isAnswer_64 at hF
    refine r_iconst (v := 1) hk (dtX3_isAnswer_0 32 (64, .iconst 1, 1) rfl) (by decide) ?_
    obtain ⟨hz, hF⟩ := ck_some hF
    cases Option.some.inj hF
    exact hR _ _ hz (dtX3_isAnswer_0 33 (65, .ireturn, 1) rfl)
  have l4 : ∀ (n4 : Nat) (v2 : Int32), L_X3_isAnswer_2 i2 j2 p1 m0 n4 v2 = some rv → G X K 2 [(0, .ref (xad X (0, 0, 0, 0))), (1, .int p1), (2, .ref (xad X (2, i2, j2, 0))), (3, .int v2)] [] m0 := by
    intro n4
    induction n4 with
    | zero => intro v2 hF; exact nomatch (show (none : Option Int32) = some rv from hF)
    | succ n4 ih4 =>
      intro v2 hF
      rw [L_X3_isAnswer_2] at hF
      refine r_iload_n hk 3 (dtX3_isAnswer_0 2 (2, .iload_n 3, 1) rfl) rfl ?_
      refine r_aload_n hk 0 (dtX3_isAnswer_0 3 (3, .aload_n 0, 1) rfl) rfl ?_
      refine r_getR hk (k := 2) (fsX3 X) cbX3 (by decide) fl_X3_22 (in_main 0 (by decide)) (fun _ => rfl) (fun _ _ => rfl) (dtX3_isAnswer_0 4 (4, .getfield 22, 3) rfl) ?_
      refine r_getI hk (k := 3) (fsX0 X) cbX0 (by decide) fl_X3_287 (in_main 3 (by decide)) (fun _ => rfl) (fun _ _ => rfl) hF (dtX3_isAnswer_0 5 (7, .getfield 287, 3) rfl) (fun v5 hF => ?_)
      refine r_icmp_ge hk 64 hF (dtX3_isAnswer_0 6 (10, .if_icmp .ge 54, 3) rfl) (by decide) (fun hF => ?_) (fun hF => ?_)
      · exact r_sub hk [] rfl (e64_1 hF)
      · refine r_aload_n hk 0 (dtX3_isAnswer_0 7 (13, .aload_n 0, 1) rfl) rfl ?_
        refine r_getS hk fl_X3_30 hF (dtX3_isAnswer_0 8 (14, .getfield 30, 3) rfl) (fun q6 hq6 hF => ?_)
        refine r_iload_n hk 1 (dtX3_isAnswer_0 9 (17, .iload_n 1, 1) rfl) rfl ?_
        refine r_aload_n hk 2 (dtX3_isAnswer_0 10 (18, .aload_n 2, 1) rfl) rfl ?_
        refine r_aload_n hk 0 (dtX3_isAnswer_0 11 (19, .aload_n 0, 1) rfl) rfl ?_
        refine r_getR hk (k := 2) (fsX3 X) cbX3 (by decide) fl_X3_22 (in_main 0 (by decide)) (fun _ => rfl) (fun _ _ => rfl) (dtX3_isAnswer_0 12 (20, .getfield 22, 3) rfl) ?_
        refine r_getR hk (k := 0) (fsX0 X) cbX0 (by decide) fl_X3_290 (in_main 3 (by decide)) (fun _ => rfl) (fun _ _ => rfl) (dtX3_isAnswer_0 13 (23, .getfield 290, 3) rfl) ?_
        refine r_iload_n hk 3 (dtX3_isAnswer_0 14 (26, .iload_n 3, 1) rfl) rfl ?_
        refine r_iald hk (in_main 5 (by decide)) (fun _ => rfl) hF (dtX3_isAnswer_0 15 (27, .iaload, 1) rfl) (fun v7 hF => ?_)
        refine r_callI hF (fun v8 h H locs ls hH hS hl => run_V (y := yX2_columnOf) hk (in_tn i2 hi2 j2 hj2 0 (by decide)) rfl rfl (c_X2_columnOf (kl K) hk.2.2.2.2.2.2.2.2.2.2.2 X i2 hi2 j2 hj2 v7 m0 v8 h) lk_X3_67 me_X2_columnOf yf_X2_columnOf (by decide) (by decide) rfl (Nat.le_of_ble_eq_true rfl) rfl (dtX3_isAnswer_0 16 (28, .invokevirtual 67, 3) rfl) hH hS hl) (fun v8 hF => ?_)
        refine r_callI hF (fun v9 h H locs ls hH hS hl => run_V (y := yX1_valueAt) hk (in_st q6 hq6 0 (by decide)) rfl rfl (c_X1_valueAt (kl K) hk.2.2.2.2.2.2.2.2.2.2.2 X q6 hq6 p1 v8 m0 v9 h) lk_X3_127 me_X1_valueAt yf_X1_valueAt (by decide) (by decide) rfl (Nat.le_of_ble_eq_true rfl) rfl (dtX3_isAnswer_0 17 (31, .invokevirtual 127, 3) rfl) hH hS hl) (fun v9 hF => ?_)
        refine r_istore hk [(4, .int v9), (0, .ref (xad X (0, 0, 0, 0))), (1, .int p1), (2, .ref (xad X (2, i2, j2, 0))), (3, .int v2)] (dtX3_isAnswer_0 18 (34, .istore 4, 2) rfl) (by decide) rfl ?_
        refine r_iload hk 0 (dtX3_isAnswer_0 19 (36, .iload 4, 2) rfl) rfl ?_
        refine r_ldc hk cn_X3_130 (dtX3_isAnswer_0 20 (38, .ldc 130, 2) rfl) ?_
        have j56_10 : J_X3_isAnswer_56 = some rv → G X K 56 [] [] m0 := by
          intro hF
          unfold J_X3_isAnswer_56 at hF
          refine r_iconst (v := 0) hk (dtX3_isAnswer_0 28 (56, .iconst 0, 1) rfl) (by decide) ?_
          obtain ⟨hz, hF⟩ := ck_some hF
          cases Option.some.inj hF
          exact hR _ _ hz (dtX3_isAnswer_0 29 (57, .ireturn, 1) rfl)
        refine r_icmp_eq hk 56 hF (dtX3_isAnswer_0 21 (40, .if_icmp .eq 16, 3) rfl) (by decide) (fun hF => ?_) (fun hF => ?_)
        · exact r_sub hk [] rfl (j56_10 hF)
        · refine r_aload_n hk 1 (dtX3_isAnswer_0 22 (43, .aload_n 0, 1) rfl) rfl ?_
          refine r_getR hk (k := 2) (fsX3 X) cbX3 (by decide) fl_X3_22 (in_main 0 (by decide)) (fun _ => rfl) (fun _ _ => rfl) (dtX3_isAnswer_0 23 (44, .getfield 22, 3) rfl) ?_
          refine r_iload_n hk 4 (dtX3_isAnswer_0 24 (47, .iload_n 3, 1) rfl) rfl ?_
          refine r_iload hk 0 (dtX3_isAnswer_0 25 (48, .iload 4, 2) rfl) rfl ?_
          refine r_callI hF (fun v11 h H locs ls hH hS hl => run_V (y := yX0_allows) hk (in_main 3 (by decide)) rfl rfl (c_X0_allows (kl K) hk.2.2.2.2.2.2.2.2.2.2.2 X  v2 v9 m0 v11 h) lk_X3_291 me_X0_allows yf_X0_allows (by decide) (by decide) rfl (Nat.le_of_ble_eq_true rfl) rfl (dtX3_isAnswer_0 26 (50, .invokevirtual 291, 3) rfl) hH hS hl) (fun v11 hF => ?_)
          refine r_if_ne hk 58 hF (dtX3_isAnswer_0 27 (53, .ifCond .ne 5, 3) rfl) (by decide) (fun hF => ?_) (fun hF => ?_)
          · refine r_iinc hk 1 4 (fun v12 => [(3, .int v12), (4, .int v9), (0, .ref (xad X (0, 0, 0, 0))), (1, .int p1), (2, .ref (xad X (2, i2, j2, 0)))]) hF (dtX3_isAnswer_0 30 (58, .iinc 3 1, 3) rfl) rfl (by decide) (by decide) (fun _ => rfl) (fun v12 hF => ?_)
            refine r_goto hk 2 (dtX3_isAnswer_0 31 (61, .goto (-59), 3) rfl) (by decide) ?_
            exact r_sub hk [2, 3, 4, 0] rfl (ih4 v12 hF)
          · exact r_sub hk [] rfl (j56_10 hF)
  exact r_sub hk [1, 2, 3, 0] rfl (l4 fu 0 hF)
set_option maxHeartbeats 4000000 in
set_option maxRecDepth 100000 in
theorem c_X3_collectAnswers (l : Launch) (hlf : l.stackTraces = false) (X : XW)  (p1 : Int32) (m0 : Mem) (rv : Int32) (mE : Mem) (hF : F_X3_collectAnswers p1 m0 = some (rv, mE)) : MX X l yX3_collectAnswers cX3_collectAnswers 4 (some .int) 2 [.ref (xad X (0, 0, 0, 0)), .int p1] m0 (QI X rv mE) := by
  refine startI hlf (by decide +kernel) rfl [(0, .ref (xad X (0, 0, 0, 0))), (1, .int p1)] rfl (Nat.le_of_ble_eq_true rfl) (fun K hk hR => ?_)
  unfold F_X3_collectAnswers at hF
  refine r_iconst (v := 0) hk (dtX3_collectAnswers_0 0 (0, .iconst 0, 1) rfl) (by decide) ?_
  refine r_istore_n hk [(2, .int 0), (0, .ref (xad X (0, 0, 0, 0))), (1, .int p1)] (dtX3_collectAnswers_0 1 (1, .istore_n 2, 1) rfl) (by decide) rfl ?_
  refine r_iconst (v := 0) hk (dtX3_collectAnswers_0 2 (2, .iconst 0, 1) rfl) (by decide) ?_
  refine r_istore_n hk [(3, .int 0), (2, .int 0), (0, .ref (xad X (0, 0, 0, 0))), (1, .int p1)] (dtX3_collectAnswers_0 3 (3, .istore_n 3, 1) rfl) (by decide) rfl ?_
  have e67_3 : ∀ (v1 : Int32) (m2 : Mem), C_X3_collectAnswers_67 v1 m2 = some (rv, mE) → G X K 67 [(2, .int v1)] [] m2 := by
    intro v1 m2 hF
    unfold C_X3_collectAnswers_67 at hF
    refine r_iload_n hk 0 (dtX3_collectAnswers_0 36 (67, .iload_n 2, 1) rfl) rfl ?_
    cases Option.some.inj hF
    exact hR _ _ (dtX3_collectAnswers_0 37 (68, .ireturn, 1) rfl)
  have l8 : ∀ (n8 : Nat) (v4 : Int32) (v5 : Int32) (m6 : Mem), L_X3_collectAnswers_4 p1 n8 v4 v5 m6 = some (rv, mE) → G X K 4 [(0, .ref (xad X (0, 0, 0, 0))), (1, .int p1), (2, .int v4), (3, .int v5)] [] m6 := by
    intro n8
    induction n8 with
    | zero => intro v4 v5 m6 hF; exact nomatch (show (none : Option (Int32 × Mem)) = some (rv, mE) from hF)
    | succ n8 ih8 =>
      intro v4 v5 m6 hF
      rw [L_X3_collectAnswers_4] at hF
      refine r_iload_n hk 3 (dtX3_collectAnswers_0 4 (4, .iload_n 3, 1) rfl) rfl ?_
      refine r_aload_n hk 0 (dtX3_collectAnswers_0 5 (5, .aload_n 0, 1) rfl) rfl ?_
      refine r_getS hk fl_X3_30 hF (dtX3_collectAnswers_0 6 (6, .getfield 30, 3) rfl) (fun q9 hq9 hF => ?_)
      refine r_getI hk (k := 3) (fsX1 X q9) cbX1 (by decide) fl_X3_204 (in_st q9 hq9 0 (by decide)) (fun _ => rfl) (fun _ _ => rfl) hF (dtX3_collectAnswers_0 7 (9, .getfield 204, 3) rfl) (fun v10 hF => ?_)
      refine r_icmp_ge hk 67 hF (dtX3_collectAnswers_0 8 (12, .if_icmp .ge 55, 3) rfl) (by decide) (fun hF => ?_) (fun hF => ?_)
      · exact r_sub hk [2] rfl (e67_3 v4 m6 hF)
      · refine r_iload_n hk 3 (dtX3_collectAnswers_0 9 (15, .iload_n 3, 1) rfl) rfl ?_
        refine r_bipush (v := 120) hk (dtX3_collectAnswers_0 10 (16, .bipush 120, 2) rfl) (by decide) ?_
        refine r_icmp_ge hk 67 hF (dtX3_collectAnswers_0 11 (18, .if_icmp .ge 49, 3) rfl) (by decide) (fun hF => ?_) (fun hF => ?_)
        · exact r_sub hk [2] rfl (e67_3 v4 m6 hF)
        · refine r_aload_n hk 0 (dtX3_collectAnswers_0 12 (21, .aload_n 0, 1) rfl) rfl ?_
          refine r_getS hk fl_X3_30 hF (dtX3_collectAnswers_0 13 (22, .getfield 30, 3) rfl) (fun q11 hq11 hF => ?_)
          refine r_getR hk (k := 1) (fsX1 X q11) cbX1 (by decide) fl_X3_134 (in_st q11 hq11 0 (by decide)) (fun _ => rfl) (fun _ _ => rfl) (dtX3_collectAnswers_0 14 (25, .getfield 134, 3) rfl) ?_
          refine r_iload_n hk 3 (dtX3_collectAnswers_0 15 (28, .iload_n 3, 1) rfl) rfl ?_
          refine r_iald hk (in_st q11 hq11 2 (by decide)) (fun _ => rfl) hF (dtX3_collectAnswers_0 16 (29, .iaload, 1) rfl) (fun v12 hF => ?_)
          refine r_iload_n hk 1 (dtX3_collectAnswers_0 17 (30, .iload_n 1, 1) rfl) rfl ?_
          have j61_15 : ∀ (v13 : Int32) (m14 : Mem), (J_X3_collectAnswers_61 v5 (fun w0 w1 w2 => L_X3_collectAnswers_4 p1 n8 w0 w1 w2)) v13 m14 = some (rv, mE) → G X K 61 [(0, .ref (xad X (0, 0, 0, 0))), (1, .int p1), (2, .int v13), (3, .int v5)] [] m14 := by
            intro v13 m14 hF
            unfold J_X3_collectAnswers_61 at hF
            refine r_iinc hk 1 3 (fun v16 => [(3, .int v16), (0, .ref (xad X (0, 0, 0, 0))), (1, .int p1), (2, .int v13)]) hF (dtX3_collectAnswers_0 34 (61, .iinc 3 1, 3) rfl) rfl (by decide) (by decide) (fun _ => rfl) (fun v16 hF => ?_)
            refine r_goto hk 4 (dtX3_collectAnswers_0 35 (64, .goto (-60), 3) rfl) (by decide) ?_
            exact r_sub hk [1, 2, 3, 0] rfl (ih8 v13 v16 m14 hF)
          refine r_icmp_ne hk 61 hF (dtX3_collectAnswers_0 18 (31, .if_icmp .ne 30, 3) rfl) (by decide) (fun hF => ?_) (fun hF => ?_)
          · exact r_sub hk [0, 1, 2, 3] rfl (j61_15 v4 m6 hF)
          · refine r_aload_n hk 0 (dtX3_collectAnswers_0 19 (34, .aload_n 0, 1) rfl) rfl ?_
            refine r_iload_n hk 3 (dtX3_collectAnswers_0 20 (35, .iload_n 3, 1) rfl) rfl ?_
            refine r_aload_n hk 0 (dtX3_collectAnswers_0 21 (36, .aload_n 0, 1) rfl) rfl ?_
            refine r_getS hk fl_X3_30 hF (dtX3_collectAnswers_0 22 (37, .getfield 30, 3) rfl) (fun q17 hq17 hF => ?_)
            refine r_getR hk (k := 0) (fsX1 X q17) cbX1 (by decide) fl_X3_49 (in_st q17 hq17 0 (by decide)) (fun _ => rfl) (fun _ _ => rfl) (dtX3_collectAnswers_0 23 (40, .getfield 49, 3) rfl) ?_
            refine r_iload_n hk 1 (dtX3_collectAnswers_0 24 (43, .iload_n 1, 1) rfl) rfl ?_
            refine r_aldT hk hq17 hF (dtX3_collectAnswers_0 25 (44, .aaload, 1) rfl) (fun q18 hq18 hF => ?_)
            refine r_callI hF (fun v19 h H locs ls hH hS hl => run_V (y := yX3_isAnswer) hk (in_main 0 (by decide)) rfl rfl (c_X3_isAnswer (kl K) hk.2.2.2.2.2.2.2.2.2.2.2 X q17 hq17 q18 hq18 v5 m6 v19 h) lk_X3_283 me_X3_isAnswer yf_X3_isAnswer (by decide) (by decide) rfl (Nat.le_of_ble_eq_true rfl) rfl (dtX3_collectAnswers_0 26 (45, .invokevirtual 283, 3) rfl) hH hS hl) (fun v19 hF => ?_)
            refine r_if_eq hk 61 hF (dtX3_collectAnswers_0 27 (48, .ifCond .eq 13, 3) rfl) (by decide) (fun hF => ?_) (fun hF => ?_)
            · exact r_sub hk [0, 1, 2, 3] rfl (j61_15 v4 m6 hF)
            · refine r_aload_n hk 0 (dtX3_collectAnswers_0 28 (51, .aload_n 0, 1) rfl) rfl ?_
              refine r_getR hk (k := 3) (fsX3 X) cbX3 (by decide) fl_X3_26 (in_main 0 (by decide)) (fun _ => rfl) (fun _ _ => rfl) (dtX3_collectAnswers_0 29 (52, .getfield 26, 3) rfl) ?_
              refine r_iload_n hk 2 (dtX3_collectAnswers_0 30 (55, .iload_n 2, 1) rfl) rfl ?_
              refine r_iload_n hk 3 (dtX3_collectAnswers_0 31 (56, .iload_n 3, 1) rfl) rfl ?_
              refine r_iast hk (in_main 4 (by decide)) (fun _ => rfl) hF (dtX3_collectAnswers_0 32 (57, .iastore, 1) rfl) (fun m20 hF => ?_)
              refine r_iinc hk 1 2 (fun v21 => [(2, .int v21), (0, .ref (xad X (0, 0, 0, 0))), (1, .int p1), (3, .int v5)]) hF (dtX3_collectAnswers_0 33 (58, .iinc 2 1, 3) rfl) rfl (by decide) (by decide) (fun _ => rfl) (fun v21 hF => ?_)
              exact r_sub hk [1, 2, 0, 3] rfl (j61_15 v21 m20 hF)
  exact r_sub hk [2, 3, 1, 0] rfl (l8 fu 0 0 m0 hF)
set_option maxHeartbeats 4000000 in
set_option maxRecDepth 100000 in
theorem c_X3_comesBefore (l : Launch) (hlf : l.stackTraces = false) (X : XW)  (p1 : Int32) (p2 : Int32) (p3 : Int32) (m0 : Mem) (rv : Int32) (hF : F_X3_comesBefore p1 p2 p3 m0 = some rv) : MX X l yX3_comesBefore cX3_comesBefore 6 (some .boolean) 1 [.ref (xad X (0, 0, 0, 0)), .int p1, .int p2, .int p3] m0 (QI X rv m0) := by
  refine startZ hlf (by decide +kernel) rfl [(0, .ref (xad X (0, 0, 0, 0))), (1, .int p1), (2, .int p2), (3, .int p3)] rfl (Nat.le_of_ble_eq_true rfl) (fun K hk hR => ?_)
  unfold F_X3_comesBefore at hF
  refine r_aload_n hk 0 (dtX3_comesBefore_0 0 (0, .aload_n 0, 1) rfl) rfl ?_
  refine r_getS hk fl_X3_30 hF (dtX3_comesBefore_0 1 (1, .getfield 30, 3) rfl) (fun q1 hq1 hF => ?_)
  refine r_iload_n hk 1 (dtX3_comesBefore_0 2 (4, .iload_n 1, 1) rfl) rfl ?_
  refine r_iload_n hk 3 (dtX3_comesBefore_0 3 (5, .iload_n 3, 1) rfl) rfl ?_
  refine r_callI hF (fun v2 h H locs ls hH hS hl => run_V (y := yX1_valueAt) hk (in_st q1 hq1 0 (by decide)) rfl rfl (c_X1_valueAt (kl K) hk.2.2.2.2.2.2.2.2.2.2.2 X q1 hq1 p1 p3 m0 v2 h) lk_X3_127 me_X1_valueAt yf_X1_valueAt (by decide) (by decide) rfl (Nat.le_of_ble_eq_true rfl) rfl (dtX3_comesBefore_0 4 (6, .invokevirtual 127, 3) rfl) hH hS hl) (fun v2 hF => ?_)
  refine r_istore hk [(4, .int v2), (0, .ref (xad X (0, 0, 0, 0))), (1, .int p1), (2, .int p2), (3, .int p3)] (dtX3_comesBefore_0 5 (9, .istore 4, 2) rfl) (by decide) rfl ?_
  refine r_aload_n hk 1 (dtX3_comesBefore_0 6 (11, .aload_n 0, 1) rfl) rfl ?_
  refine r_getS hk fl_X3_30 hF (dtX3_comesBefore_0 7 (12, .getfield 30, 3) rfl) (fun q3 hq3 hF => ?_)
  refine r_iload_n hk 3 (dtX3_comesBefore_0 8 (15, .iload_n 2, 1) rfl) rfl ?_
  refine r_iload_n hk 4 (dtX3_comesBefore_0 9 (16, .iload_n 3, 1) rfl) rfl ?_
  refine r_callI hF (fun v4 h H locs ls hH hS hl => run_V (y := yX1_valueAt) hk (in_st q3 hq3 0 (by decide)) rfl rfl (c_X1_valueAt (kl K) hk.2.2.2.2.2.2.2.2.2.2.2 X q3 hq3 p2 p3 m0 v4 h) lk_X3_127 me_X1_valueAt yf_X1_valueAt (by decide) (by decide) rfl (Nat.le_of_ble_eq_true rfl) rfl (dtX3_comesBefore_0 10 (17, .invokevirtual 127, 3) rfl) hH hS hl) (fun v4 hF => ?_)
  refine r_istore hk [(5, .int v4), (4, .int v2), (0, .ref (xad X (0, 0, 0, 0))), (1, .int p1), (2, .int p2), (3, .int p3)] (dtX3_comesBefore_0 11 (20, .istore 5, 2) rfl) (by decide) rfl ?_
  refine r_iload hk 1 (dtX3_comesBefore_0 12 (22, .iload 4, 2) rfl) rfl ?_
  refine r_ldc hk cn_X3_130 (dtX3_comesBefore_0 13 (24, .ldc 130, 2) rfl) ?_
  refine r_icmp_ne hk 31 hF (dtX3_comesBefore_0 14 (26, .if_icmp .ne 5, 3) rfl) (by decide) (fun hF => ?_) (fun hF => ?_)
  · refine r_iload hk 0 (dtX3_comesBefore_0 17 (31, .iload 5, 2) rfl) rfl ?_
    refine r_ldc hk cn_X3_130 (dtX3_comesBefore_0 18 (33, .ldc 130, 2) rfl) ?_
    have j50_6 : ∀ (v5 : Int32), J_X3_comesBefore_50 v5 = some rv → G X K 50 [] [.int v5] m0 := by
      intro v5 hF
      unfold J_X3_comesBefore_50 at hF
      obtain ⟨hz, hF⟩ := ck_some hF
      cases Option.some.inj hF
      exact hR _ _ hz (dtX3_comesBefore_0 26 (50, .ireturn, 1) rfl)
    have j45_7 : J_X3_comesBefore_45 = some rv → G X K 45 [] [] m0 := by
      intro hF
      unfold J_X3_comesBefore_45 at hF
      refine r_iconst (v := 1) hk (dtX3_comesBefore_0 23 (45, .iconst 1, 1) rfl) (by decide) ?_
      refine r_goto hk 50 (dtX3_comesBefore_0 24 (46, .goto 4, 3) rfl) (by decide) ?_
      exact r_sub hk [] rfl (j50_6 1 hF)
    refine r_icmp_eq hk 45 hF (dtX3_comesBefore_0 19 (35, .if_icmp .eq 10, 3) rfl) (by decide) (fun hF => ?_) (fun hF => ?_)
    · exact r_sub hk [] rfl (j45_7 hF)
    · refine r_iload hk 1 (dtX3_comesBefore_0 20 (38, .iload 4, 2) rfl) rfl ?_
      refine r_iload hk 0 (dtX3_comesBefore_0 21 (40, .iload 5, 2) rfl) rfl ?_
      refine r_icmp_ge hk 49 hF (dtX3_comesBefore_0 22 (42, .if_icmp .ge 7, 3) rfl) (by decide) (fun hF => ?_) (fun hF => ?_)
      · refine r_iconst (v := 0) hk (dtX3_comesBefore_0 25 (49, .iconst 0, 1) rfl) (by decide) ?_
        exact r_sub hk [] rfl (j50_6 0 hF)
      · exact r_sub hk [] rfl (j45_7 hF)
  · refine r_iconst (v := 0) hk (dtX3_comesBefore_0 15 (29, .iconst 0, 1) rfl) (by decide) ?_
    obtain ⟨hz, hF⟩ := ck_some hF
    cases Option.some.inj hF
    exact hR _ _ hz (dtX3_comesBefore_0 16 (30, .ireturn, 1) rfl)
set_option maxHeartbeats 4000000 in
set_option maxRecDepth 100000 in
theorem c_X3_sortAnswers (l : Launch) (hlf : l.stackTraces = false) (X : XW)  (p1 : Int32) (p2 : Int32) (m0 : Mem) (rv : Unit) (mE : Mem) (hF : F_X3_sortAnswers p1 p2 m0 = some (rv, mE)) : MX X l yX3_sortAnswers cX3_sortAnswers 6 none 2 [.ref (xad X (0, 0, 0, 0)), .int p1, .int p2] m0 (QV X mE) := by
  refine startV hlf (by decide +kernel) rfl [(0, .ref (xad X (0, 0, 0, 0))), (1, .int p1), (2, .int p2)] rfl (Nat.le_of_ble_eq_true rfl) (fun K hk hR => ?_)
  unfold F_X3_sortAnswers at hF
  refine r_iconst (v := 1) hk (dtX3_sortAnswers_0 0 (0, .iconst 1, 1) rfl) (by decide) ?_
  refine r_istore_n hk [(3, .int 1), (0, .ref (xad X (0, 0, 0, 0))), (1, .int p1), (2, .int p2)] (dtX3_sortAnswers_0 1 (1, .istore_n 3, 1) rfl) (by decide) rfl ?_
  have e79_2 : ∀ (m1 : Mem), C_X3_sortAnswers_79 m1 = some (rv, mE) → G X K 79 [] [] m1 := by
    intro m1 hF
    unfold C_X3_sortAnswers_79 at hF
    cases Option.some.inj hF
    exact hR _ _ (dtX3_sortAnswers_0 44 (79, .return_, 1) rfl)
  have l6 : ∀ (n6 : Nat) (v3 : Int32) (m4 : Mem), L_X3_sortAnswers_2 p1 p2 n6 v3 m4 = some (rv, mE) → G X K 2 [(0, .ref (xad X (0, 0, 0, 0))), (1, .int p1), (2, .int p2), (3, .int v3)] [] m4 := by
    intro n6
    induction n6 with
    | zero => intro v3 m4 hF; exact nomatch (show (none : Option (Unit × Mem)) = some (rv, mE) from hF)
    | succ n6 ih6 =>
      intro v3 m4 hF
      rw [L_X3_sortAnswers_2] at hF
      refine r_iload_n hk 3 (dtX3_sortAnswers_0 2 (2, .iload_n 3, 1) rfl) rfl ?_
      refine r_iload_n hk 1 (dtX3_sortAnswers_0 3 (3, .iload_n 1, 1) rfl) rfl ?_
      refine r_icmp_ge hk 79 hF (dtX3_sortAnswers_0 4 (4, .if_icmp .ge 75, 3) rfl) (by decide) (fun hF => ?_) (fun hF => ?_)
      · exact r_sub hk [] rfl (e79_2 m4 hF)
      · refine r_aload_n hk 0 (dtX3_sortAnswers_0 5 (7, .aload_n 0, 1) rfl) rfl ?_
        refine r_getR hk (k := 3) (fsX3 X) cbX3 (by decide) fl_X3_26 (in_main 0 (by decide)) (fun _ => rfl) (fun _ _ => rfl) (dtX3_sortAnswers_0 6 (8, .getfield 26, 3) rfl) ?_
        refine r_iload_n hk 3 (dtX3_sortAnswers_0 7 (11, .iload_n 3, 1) rfl) rfl ?_
        refine r_iald hk (in_main 4 (by decide)) (fun _ => rfl) hF (dtX3_sortAnswers_0 8 (12, .iaload, 1) rfl) (fun v7 hF => ?_)
        refine r_istore hk [(4, .int v7), (0, .ref (xad X (0, 0, 0, 0))), (1, .int p1), (2, .int p2), (3, .int v3)] (dtX3_sortAnswers_0 9 (13, .istore 4, 2) rfl) (by decide) rfl ?_
        refine r_iload_n hk 4 (dtX3_sortAnswers_0 10 (15, .iload_n 3, 1) rfl) rfl ?_
        refine r_istore hk [(5, .int v3), (4, .int v7), (0, .ref (xad X (0, 0, 0, 0))), (1, .int p1), (2, .int p2), (3, .int v3)] (dtX3_sortAnswers_0 11 (16, .istore 5, 2) rfl) (by decide) rfl ?_
        have e64_10 : ∀ (v8 : Int32) (m9 : Mem), (C_X3_sortAnswers_64 v3 (fun w0 w1 => L_X3_sortAnswers_2 p1 p2 n6 w0 w1) v7) v8 m9 = some (rv, mE) → G X K 64 [(0, .ref (xad X (0, 0, 0, 0))), (1, .int p1), (2, .int p2), (3, .int v3), (4, .int v7), (5, .int v8)] [] m9 := by
          intro v8 m9 hF
          unfold C_X3_sortAnswers_64 at hF
          refine r_aload_n hk 0 (dtX3_sortAnswers_0 37 (64, .aload_n 0, 1) rfl) rfl ?_
          refine r_getR hk (k := 3) (fsX3 X) cbX3 (by decide) fl_X3_26 (in_main 0 (by decide)) (fun _ => rfl) (fun _ _ => rfl) (dtX3_sortAnswers_0 38 (65, .getfield 26, 3) rfl) ?_
          refine r_iload hk 5 (dtX3_sortAnswers_0 39 (68, .iload 5, 2) rfl) rfl ?_
          refine r_iload hk 4 (dtX3_sortAnswers_0 40 (70, .iload 4, 2) rfl) rfl ?_
          refine r_iast hk (in_main 4 (by decide)) (fun _ => rfl) hF (dtX3_sortAnswers_0 41 (72, .iastore, 1) rfl) (fun m11 hF => ?_)
          refine r_iinc hk 1 3 (fun v12 => [(3, .int v12), (0, .ref (xad X (0, 0, 0, 0))), (1, .int p1), (2, .int p2), (4, .int v7), (5, .int v8)]) hF (dtX3_sortAnswers_0 42 (73, .iinc 3 1, 3) rfl) rfl (by decide) (by decide) (fun _ => rfl) (fun v12 hF => ?_)
          refine r_goto hk 2 (dtX3_sortAnswers_0 43 (76, .goto (-74), 3) rfl) (by decide) ?_
          exact r_sub hk [1, 2, 3, 0] rfl (ih6 v12 m11 hF)
        have l16 : ∀ (n16 : Nat) (v13 : Int32) (m14 : Mem), L_X3_sortAnswers_18 p2 v3 (fun w0 w1 => L_X3_sortAnswers_2 p1 p2 n6 w0 w1) v7 n16 v13 m14 = some (rv, mE) → G X K 18 [(0, .ref (xad X (0, 0, 0, 0))), (1, .int p1), (2, .int p2), (3, .int v3), (4, .int v7), (5, .int v13)] [] m14 := by
          intro n16
          induction n16 with
          | zero => intro v13 m14 hF; exact nomatch (show (none : Option (Unit × Mem)) = some (rv, mE) from hF)
          | succ n16 ih16 =>
            intro v13 m14 hF
            rw [L_X3_sortAnswers_18] at hF
            refine r_iload hk 5 (dtX3_sortAnswers_0 12 (18, .iload 5, 2) rfl) rfl ?_
            refine r_if_le hk 64 hF (dtX3_sortAnswers_0 13 (20, .ifCond .le 44, 3) rfl) (by decide) (fun hF => ?_) (fun hF => ?_)
            · exact r_sub hk [0, 1, 2, 3, 4, 5] rfl (e64_10 v13 m14 hF)
            · refine r_aload_n hk 0 (dtX3_sortAnswers_0 14 (23, .aload_n 0, 1) rfl) rfl ?_
              refine r_iload hk 4 (dtX3_sortAnswers_0 15 (24, .iload 4, 2) rfl) rfl ?_
              refine r_aload_n hk 0 (dtX3_sortAnswers_0 16 (26, .aload_n 0, 1) rfl) rfl ?_
              refine r_getR hk (k := 3) (fsX3 X) cbX3 (by decide) fl_X3_26 (in_main 0 (by decide)) (fun _ => rfl) (fun _ _ => rfl) (dtX3_sortAnswers_0 17 (27, .getfield 26, 3) rfl) ?_
              refine r_iload hk 5 (dtX3_sortAnswers_0 18 (30, .iload 5, 2) rfl) rfl ?_
              refine r_iconst (v := 1) hk (dtX3_sortAnswers_0 19 (32, .iconst 1, 1) rfl) (by decide) ?_
              refine r_isub hk hF (dtX3_sortAnswers_0 20 (33, .isub, 1) rfl) (fun v17 hF => ?_)
              refine r_iald hk (in_main 4 (by decide)) (fun _ => rfl) hF (dtX3_sortAnswers_0 21 (34, .iaload, 1) rfl) (fun v18 hF => ?_)
              refine r_iload_n hk 2 (dtX3_sortAnswers_0 22 (35, .iload_n 2, 1) rfl) rfl ?_
              refine r_callI hF (fun v19 h H locs ls hH hS hl => run_V (y := yX3_comesBefore) hk (in_main 0 (by decide)) rfl rfl (c_X3_comesBefore (kl K) hk.2.2.2.2.2.2.2.2.2.2.2 X  v7 v18 p2 m14 v19 h) lk_X3_294 me_X3_comesBefore yf_X3_comesBefore (by decide) (by decide) rfl (Nat.le_of_ble_eq_true rfl) rfl (dtX3_sortAnswers_0 23 (36, .invokevirtual 294, 3) rfl) hH hS hl) (fun v19 hF => ?_)
              refine r_if_eq hk 64 hF (dtX3_sortAnswers_0 24 (39, .ifCond .eq 25, 3) rfl) (by decide) (fun hF => ?_) (fun hF => ?_)
              · exact r_sub hk [0, 1, 2, 3, 4, 5] rfl (e64_10 v13 m14 hF)
              · refine r_aload_n hk 0 (dtX3_sortAnswers_0 25 (42, .aload_n 0, 1) rfl) rfl ?_
                refine r_getR hk (k := 3) (fsX3 X) cbX3 (by decide) fl_X3_26 (in_main 0 (by decide)) (fun _ => rfl) (fun _ _ => rfl) (dtX3_sortAnswers_0 26 (43, .getfield 26, 3) rfl) ?_
                refine r_iload hk 5 (dtX3_sortAnswers_0 27 (46, .iload 5, 2) rfl) rfl ?_
                refine r_aload_n hk 0 (dtX3_sortAnswers_0 28 (48, .aload_n 0, 1) rfl) rfl ?_
                refine r_getR hk (k := 3) (fsX3 X) cbX3 (by decide) fl_X3_26 (in_main 0 (by decide)) (fun _ => rfl) (fun _ _ => rfl) (dtX3_sortAnswers_0 29 (49, .getfield 26, 3) rfl) ?_
                refine r_iload hk 5 (dtX3_sortAnswers_0 30 (52, .iload 5, 2) rfl) rfl ?_
                refine r_iconst (v := 1) hk (dtX3_sortAnswers_0 31 (54, .iconst 1, 1) rfl) (by decide) ?_
                refine r_isub hk hF (dtX3_sortAnswers_0 32 (55, .isub, 1) rfl) (fun v20 hF => ?_)
                refine r_iald hk (in_main 4 (by decide)) (fun _ => rfl) hF (dtX3_sortAnswers_0 33 (56, .iaload, 1) rfl) (fun v21 hF => ?_)
                refine r_iast hk (in_main 4 (by decide)) (fun _ => rfl) hF (dtX3_sortAnswers_0 34 (57, .iastore, 1) rfl) (fun m22 hF => ?_)
                refine r_iinc hk (-1) 5 (fun v23 => [(5, .int v23), (0, .ref (xad X (0, 0, 0, 0))), (1, .int p1), (2, .int p2), (3, .int v3), (4, .int v7)]) hF (dtX3_sortAnswers_0 35 (58, .iinc 5 (-1), 3) rfl) rfl (by decide) (by decide) (fun _ => rfl) (fun v23 hF => ?_)
                refine r_goto hk 18 (dtX3_sortAnswers_0 36 (61, .goto (-43), 3) rfl) (by decide) ?_
                exact r_sub hk [1, 2, 3, 4, 5, 0] rfl (ih16 v23 m22 hF)
        exact r_sub hk [2, 3, 4, 5, 1, 0] rfl (l16 fu v3 m4 hF)
  exact r_sub hk [1, 2, 3, 0] rfl (l6 fu 1 m0 hF)
set_option maxHeartbeats 4000000 in
set_option maxRecDepth 100000 in
theorem c_X3_answerAt (l : Launch) (hlf : l.stackTraces = false) (X : XW)  (p1 : Int32) (p2 : Int32) (m0 : Mem) (rv : Int32) (hF : F_X3_answerAt p1 p2 m0 = some rv) : MX X l yX3_answerAt cX3_answerAt 3 (some .int) 0 [.ref (xad X (0, 0, 0, 0)), .int p1, .int p2] m0 (QI X rv m0) := by
  refine startI hlf (by decide +kernel) rfl [(0, .ref (xad X (0, 0, 0, 0))), (1, .int p1), (2, .int p2)] rfl (Nat.le_of_ble_eq_true rfl) (fun K hk hR => ?_)
  unfold F_X3_answerAt at hF
  refine r_iload_n hk 1 (dtX3_answerAt_0 0 (0, .iload_n 1, 1) rfl) rfl ?_
  have j25_2 : ∀ (v1 : Int32), J_X3_answerAt_25 v1 = some rv → G X K 25 [] [.int v1] m0 := by
    intro v1 hF
    unfold J_X3_answerAt_25 at hF
    cases Option.some.inj hF
    exact hR _ _ (dtX3_answerAt_0 14 (25, .ireturn, 1) rfl)
  have j24_3 : J_X3_answerAt_24 = some rv → G X K 24 [] [] m0 := by
    intro hF
    unfold J_X3_answerAt_24 at hF
    refine r_iconst (v := (-1)) hk (dtX3_answerAt_0 13 (24, .iconst (-1), 1) rfl) (by decide) ?_
    exact r_sub hk [] rfl (j25_2 (-1) hF)
  refine r_if_lt hk 24 hF (dtX3_answerAt_0 1 (1, .ifCond .lt 23, 3) rfl) (by decide) (fun hF => ?_) (fun hF => ?_)
  · exact r_sub hk [] rfl (j24_3 hF)
  · refine r_iload_n hk 1 (dtX3_answerAt_0 2 (4, .iload_n 1, 1) rfl) rfl ?_
    refine r_iload_n hk 2 (dtX3_answerAt_0 3 (5, .iload_n 2, 1) rfl) rfl ?_
    refine r_icmp_ge hk 24 hF (dtX3_answerAt_0 4 (6, .if_icmp .ge 18, 3) rfl) (by decide) (fun hF => ?_) (fun hF => ?_)
    · exact r_sub hk [] rfl (j24_3 hF)
    · refine r_iload_n hk 1 (dtX3_answerAt_0 5 (9, .iload_n 1, 1) rfl) rfl ?_
      refine r_bipush (v := 120) hk (dtX3_answerAt_0 6 (10, .bipush 120, 2) rfl) (by decide) ?_
      refine r_icmp_ge hk 24 hF (dtX3_answerAt_0 7 (12, .if_icmp .ge 12, 3) rfl) (by decide) (fun hF => ?_) (fun hF => ?_)
      · exact r_sub hk [] rfl (j24_3 hF)
      · refine r_aload_n hk 0 (dtX3_answerAt_0 8 (15, .aload_n 0, 1) rfl) rfl ?_
        refine r_getR hk (k := 3) (fsX3 X) cbX3 (by decide) fl_X3_26 (in_main 0 (by decide)) (fun _ => rfl) (fun _ _ => rfl) (dtX3_answerAt_0 9 (16, .getfield 26, 3) rfl) ?_
        refine r_iload_n hk 1 (dtX3_answerAt_0 10 (19, .iload_n 1, 1) rfl) rfl ?_
        refine r_iald hk (in_main 4 (by decide)) (fun _ => rfl) hF (dtX3_answerAt_0 11 (20, .iaload, 1) rfl) (fun v4 hF => ?_)
        refine r_goto hk 25 (dtX3_answerAt_0 12 (21, .goto 4, 3) rfl) (by decide) ?_
        exact r_sub hk [] rfl (j25_2 v4 hF)
set_option maxHeartbeats 4000000 in
set_option maxRecDepth 100000 in
theorem c_X3_answer (l : Launch) (hlf : l.stackTraces = false) (X : XW)  (p1 : Int32) (p2 : Int32) (p3 : Int32) (m0 : Mem) (rv : Int32 ⊕ Nat) (mE : Mem) (hF : F_X3_answer p1 p2 p3 m0 = some (rv, mE)) : MT X l yX3_answer cX3_answer 5 (some .int) 8 [.ref (xad X (0, 0, 0, 0)), .int p1, .int p2, .int p3] m0 rv mE (QTI X rv mE) := by
  refine startTI hlf (by decide +kernel) rfl [(0, .ref (xad X (0, 0, 0, 0))), (1, .int p1), (2, .int p2), (3, .int p3)] rfl (Nat.le_of_ble_eq_true rfl) (fun K hk hR hX => ?_)
  unfold F_X3_answer at hF
  refine r_iload_n hk 1 (dtX3_answer_0 0 (0, .iload_n 1, 1) rfl) rfl ?_
  refine r_callI hF (fun v1 h H locs ls hH hS hl => run_S hk (c_X3_isTenant (kl K) hk.2.2.2.2.2.2.2.2.2.2.2 X  p1 m0 v1 h) lk_X3_34 me_X3_isTenant yf_X3_isTenant (by decide) (by decide) rfl (Nat.le_of_ble_eq_true rfl) rfl (dtX3_answer_0 1 (1, .invokestatic 34, 3) rfl) hH hS hl) (fun v1 hF => ?_)
  have j28_3 : ∀ (v2 : Int32), (J_X3_answer_28 p1 p2 p3 m0) v2 = some (rv, mE) → G X K 28 [(0, .ref (xad X (0, 0, 0, 0))), (1, .int p1), (2, .int p2), (3, .int p3)] [.int v2] m0 := by
    intro v2 hF
    unfold J_X3_answer_28 at hF
    refine r_callVts hk hF (fun c h => by cases Option.some.inj h; exact hX c rfl) (fun R h hf H locs ls hH hS hl => runT_S hk (c_X3_require (kl K) hk.2.2.2.2.2.2.2.2.2.2.2 X  v2 m0 R h) lk_X3_41 me_X3_require yf_X3_require (by decide) (by decide) rfl (Nat.le_of_ble_eq_true rfl) rfl (dtX3_answer_0 14 (28, .invokestatic 41, 3) rfl) hf hH hS hl) (fun _ hF => ?_)
    refine r_aload_n hk 0 (dtX3_answer_0 15 (31, .aload_n 0, 1) rfl) rfl ?_
    refine r_callIm hF (fun v4 m5 h H locs ls hH hS hl => run_V (y := yX3_readQuestion) hk (in_main 0 (by decide)) rfl rfl (c_X3_readQuestion (kl K) hk.2.2.2.2.2.2.2.2.2.2.2 X   m0 v4 m5 h) lk_X3_159 me_X3_readQuestion yf_X3_readQuestion (by decide) (by decide) rfl (Nat.le_of_ble_eq_true rfl) rfl (dtX3_answer_0 16 (32, .invokevirtual 159, 3) rfl) hH hS hl) (fun v4 m5 hF => ?_)
    refine r_if_ne hk 40 hF (dtX3_answer_0 17 (35, .ifCond .ne 5, 3) rfl) (by decide) (fun hF => ?_) (fun hF => ?_)
    · refine r_aload_n hk 0 (dtX3_answer_0 20 (40, .aload_n 0, 1) rfl) rfl ?_
      refine r_iload_n hk 1 (dtX3_answer_0 21 (41, .iload_n 1, 1) rfl) rfl ?_
      refine r_callIm hF (fun v6 m7 h H locs ls hH hS hl => run_V (y := yX3_collectAnswers) hk (in_main 0 (by decide)) rfl rfl (c_X3_collectAnswers (kl K) hk.2.2.2.2.2.2.2.2.2.2.2 X  p1 m5 v6 m7 h) lk_X3_163 me_X3_collectAnswers yf_X3_collectAnswers (by decide) (by decide) rfl (Nat.le_of_ble_eq_true rfl) rfl (dtX3_answer_0 22 (42, .invokevirtual 163, 3) rfl) hH hS hl) (fun v6 m7 hF => ?_)
      refine r_istore hk [(4, .int v6), (0, .ref (xad X (0, 0, 0, 0))), (1, .int p1), (2, .int p2), (3, .int p3)] (dtX3_answer_0 23 (45, .istore 4, 2) rfl) (by decide) rfl ?_
      refine r_iload_n hk 3 (dtX3_answer_0 24 (47, .iload_n 2, 1) rfl) rfl ?_
      refine r_iconst (v := (-1)) hk (dtX3_answer_0 25 (48, .iconst (-1), 1) rfl) (by decide) ?_
      have j71_9 : ∀ (m8 : Mem), (J_X3_answer_71 p3 v6) m8 = some (rv, mE) → G X K 71 [(0, .ref (xad X (0, 0, 0, 0))), (3, .int p3), (4, .int v6)] [] m8 := by
        intro m8 hF
        unfold J_X3_answer_71 at hF
        refine r_aload_n hk 0 (dtX3_answer_0 37 (71, .aload_n 0, 1) rfl) rfl ?_
        refine r_iload_n hk 1 (dtX3_answer_0 38 (72, .iload_n 3, 1) rfl) rfl ?_
        refine r_iload hk 2 (dtX3_answer_0 39 (73, .iload 4, 2) rfl) rfl ?_
        refine r_callI hF (fun v10 h H locs ls hH hS hl => run_V (y := yX3_answerAt) hk (in_main 0 (by decide)) rfl rfl (c_X3_answerAt (kl K) hk.2.2.2.2.2.2.2.2.2.2.2 X  p3 v6 m8 v10 h) lk_X3_201 me_X3_answerAt yf_X3_answerAt (by decide) (by decide) rfl (Nat.le_of_ble_eq_true rfl) rfl (dtX3_answer_0 40 (75, .invokevirtual 201, 3) rfl) hH hS hl) (fun v10 hF => ?_)
        cases Option.some.inj hF
        exact hR v10 rfl _ _ (dtX3_answer_0 41 (78, .ireturn, 1) rfl)
      refine r_icmp_eq hk 71 hF (dtX3_answer_0 26 (49, .if_icmp .eq 22, 3) rfl) (by decide) (fun hF => ?_) (fun hF => ?_)
      · exact r_sub hk [1, 4, 0] rfl (j71_9 m7 hF)
      · refine r_aload_n hk 1 (dtX3_answer_0 27 (52, .aload_n 0, 1) rfl) rfl ?_
        refine r_iload hk 0 (dtX3_answer_0 28 (53, .iload 4, 2) rfl) rfl ?_
        refine r_aload_n hk 1 (dtX3_answer_0 29 (55, .aload_n 0, 1) rfl) rfl ?_
        refine r_getS hk fl_X3_30 hF (dtX3_answer_0 30 (56, .getfield 30, 3) rfl) (fun q11 hq11 hF => ?_)
        refine r_getR hk (k := 0) (fsX1 X q11) cbX1 (by decide) fl_X3_49 (in_st q11 hq11 0 (by decide)) (fun _ => rfl) (fun _ _ => rfl) (dtX3_answer_0 31 (59, .getfield 49, 3) rfl) ?_
        refine r_iload_n hk 2 (dtX3_answer_0 32 (62, .iload_n 1, 1) rfl) rfl ?_
        refine r_aldT hk hq11 hF (dtX3_answer_0 33 (63, .aaload, 1) rfl) (fun q12 hq12 hF => ?_)
        refine r_iload_n hk 3 (dtX3_answer_0 34 (64, .iload_n 2, 1) rfl) rfl ?_
        refine r_callI hF (fun v13 h H locs ls hH hS hl => run_V (y := yX2_columnOf) hk (in_tn q11 hq11 q12 hq12 0 (by decide)) rfl rfl (c_X2_columnOf (kl K) hk.2.2.2.2.2.2.2.2.2.2.2 X q11 hq11 q12 hq12 p2 m7 v13 h) lk_X3_67 me_X2_columnOf yf_X2_columnOf (by decide) (by decide) rfl (Nat.le_of_ble_eq_true rfl) rfl (dtX3_answer_0 35 (65, .invokevirtual 67, 3) rfl) hH hS hl) (fun v13 hF => ?_)
        refine r_callVm hF (fun w m14 h H locs ls hH hS hl => run_V (y := yX3_sortAnswers) hk (in_main 0 (by decide)) rfl rfl (c_X3_sortAnswers (kl K) hk.2.2.2.2.2.2.2.2.2.2.2 X  v6 v13 m7 w m14 h) lk_X3_197 me_X3_sortAnswers yf_X3_sortAnswers (by decide) (by decide) rfl (Nat.le_of_ble_eq_true rfl) rfl (dtX3_answer_0 36 (68, .invokevirtual 197, 3) rfl) hH hS hl) (fun _ m14 hF => ?_)
        exact r_sub hk [1, 4, 0] rfl (j71_9 m14 hF)
    · refine r_iconst (v := (-1)) hk (dtX3_answer_0 18 (38, .iconst (-1), 1) rfl) (by decide) ?_
      cases Option.some.inj hF
      exact hR (-1) rfl _ _ (dtX3_answer_0 19 (39, .ireturn, 1) rfl)
  have j27_15 : (J_X3_answer_27 p1 p2 p3 m0) = some (rv, mE) → G X K 27 [(0, .ref (xad X (0, 0, 0, 0))), (1, .int p1), (2, .int p2), (3, .int p3)] [] m0 := by
    intro hF
    unfold J_X3_answer_27 at hF
    refine r_iconst (v := 0) hk (dtX3_answer_0 13 (27, .iconst 0, 1) rfl) (by decide) ?_
    exact r_sub hk [0, 1, 2, 3] rfl (j28_3 0 hF)
  refine r_if_eq hk 27 hF (dtX3_answer_0 2 (4, .ifCond .eq 23, 3) rfl) (by decide) (fun hF => ?_) (fun hF => ?_)
  · exact r_sub hk [0, 1, 2, 3] rfl (j27_15 hF)
  · refine r_iload_n hk 2 (dtX3_answer_0 3 (7, .iload_n 2, 1) rfl) rfl ?_
    refine r_iconst (v := (-1)) hk (dtX3_answer_0 4 (8, .iconst (-1), 1) rfl) (by decide) ?_
    have j19_16 : (J_X3_answer_19 p1 p2 p3 m0) = some (rv, mE) → G X K 19 [(0, .ref (xad X (0, 0, 0, 0))), (1, .int p1), (2, .int p2), (3, .int p3)] [] m0 := by
      intro hF
      unfold J_X3_answer_19 at hF
      refine r_iload_n hk 3 (dtX3_answer_0 9 (19, .iload_n 3, 1) rfl) rfl ?_
      refine r_if_lt hk 27 hF (dtX3_answer_0 10 (20, .ifCond .lt 7, 3) rfl) (by decide) (fun hF => ?_) (fun hF => ?_)
      · exact r_sub hk [0, 1, 2, 3] rfl (j27_15 hF)
      · refine r_iconst (v := 1) hk (dtX3_answer_0 11 (23, .iconst 1, 1) rfl) (by decide) ?_
        refine r_goto hk 28 (dtX3_answer_0 12 (24, .goto 4, 3) rfl) (by decide) ?_
        exact r_sub hk [0, 1, 2, 3] rfl (j28_3 1 hF)
    refine r_icmp_eq hk 19 hF (dtX3_answer_0 5 (9, .if_icmp .eq 10, 3) rfl) (by decide) (fun hF => ?_) (fun hF => ?_)
    · exact r_sub hk [0, 1, 2, 3] rfl (j19_16 hF)
    · refine r_iload_n hk 2 (dtX3_answer_0 6 (12, .iload_n 2, 1) rfl) rfl ?_
      refine r_callI hF (fun v17 h H locs ls hH hS hl => run_S hk (c_X3_isLetter (kl K) hk.2.2.2.2.2.2.2.2.2.2.2 X  p2 m0 v17 h) lk_X3_38 me_X3_isLetter yf_X3_isLetter (by decide) (by decide) rfl (Nat.le_of_ble_eq_true rfl) rfl (dtX3_answer_0 7 (13, .invokestatic 38, 3) rfl) hH hS hl) (fun v17 hF => ?_)
      refine r_if_eq hk 27 hF (dtX3_answer_0 8 (16, .ifCond .eq 11, 3) rfl) (by decide) (fun hF => ?_) (fun hF => ?_)
      · exact r_sub hk [0, 1, 2, 3] rfl (j27_15 hF)
      · exact r_sub hk [0, 1, 2, 3] rfl (j19_16 hF)
set_option maxHeartbeats 4000000 in
set_option maxRecDepth 100000 in
theorem c_X3_rowsToLookAt (l : Launch) (hlf : l.stackTraces = false) (X : XW)  (p1 : Int32) (p2 : Int32) (p3 : Int32) (m0 : Mem) (rv : Int32) (hF : F_X3_rowsToLookAt p1 p2 p3 m0 = some rv) : MX X l yX3_rowsToLookAt cX3_rowsToLookAt 9 (some .int) 2 [.ref (xad X (0, 0, 0, 0)), .int p1, .int p2, .int p3] m0 (QI X rv m0) := by
  refine startI hlf (by decide +kernel) rfl [(0, .ref (xad X (0, 0, 0, 0))), (1, .int p1), (2, .int p2), (3, .int p3)] rfl (Nat.le_of_ble_eq_true rfl) (fun K hk hR => ?_)
  unfold F_X3_rowsToLookAt at hF
  refine r_iload_n hk 2 (dtX3_rowsToLookAt_0 0 (0, .iload_n 2, 1) rfl) rfl ?_
  refine r_if_eq hk 13 hF (dtX3_rowsToLookAt_0 1 (1, .ifCond .eq 12, 3) rfl) (by decide) (fun hF => ?_) (fun hF => ?_)
  · refine r_aload_n hk 0 (dtX3_rowsToLookAt_0 7 (13, .aload_n 0, 1) rfl) rfl ?_
    refine r_getS hk fl_X3_30 hF (dtX3_rowsToLookAt_0 8 (14, .getfield 30, 3) rfl) (fun q1 hq1 hF => ?_)
    refine r_getR hk (k := 0) (fsX1 X q1) cbX1 (by decide) fl_X3_49 (in_st q1 hq1 0 (by decide)) (fun _ => rfl) (fun _ _ => rfl) (dtX3_rowsToLookAt_0 9 (17, .getfield 49, 3) rfl) ?_
    refine r_iload_n hk 1 (dtX3_rowsToLookAt_0 10 (20, .iload_n 1, 1) rfl) rfl ?_
    refine r_aldT hk hq1 hF (dtX3_rowsToLookAt_0 11 (21, .aaload, 1) rfl) (fun q2 hq2 hF => ?_)
    refine r_astore hk [(4, .ref (xad X (2, q1, q2, 0))), (0, .ref (xad X (0, 0, 0, 0))), (1, .int p1), (2, .int p2), (3, .int p3)] (dtX3_rowsToLookAt_0 12 (22, .astore 4, 2) rfl) (by decide) rfl ?_
    refine r_aload_n hk 1 (dtX3_rowsToLookAt_0 13 (24, .aload_n 0, 1) rfl) rfl ?_
    refine r_getS hk fl_X3_30 hF (dtX3_rowsToLookAt_0 14 (25, .getfield 30, 3) rfl) (fun q3 hq3 hF => ?_)
    refine r_callI hF (fun v4 h H locs ls hH hS hl => run_V (y := yX1_tableRows) hk (in_st q3 hq3 0 (by decide)) rfl rfl (c_X1_tableRows (kl K) hk.2.2.2.2.2.2.2.2.2.2.2 X q3 hq3  m0 v4 h) lk_X3_110 me_X1_tableRows yf_X1_tableRows (by decide) (by decide) rfl (Nat.le_of_ble_eq_true rfl) rfl (dtX3_rowsToLookAt_0 15 (28, .invokevirtual 110, 3) rfl) hH hS hl) (fun v4 hF => ?_)
    refine r_istore hk [(5, .int v4), (4, .ref (xad X (2, q1, q2, 0))), (0, .ref (xad X (0, 0, 0, 0))), (1, .int p1), (2, .int p2), (3, .int p3)] (dtX3_rowsToLookAt_0 16 (31, .istore 5, 2) rfl) (by decide) rfl ?_
    refine r_iconst (v := 0) hk (dtX3_rowsToLookAt_0 17 (33, .iconst 0, 1) rfl) (by decide) ?_
    refine r_istore hk [(6, .int 0), (5, .int v4), (4, .ref (xad X (2, q1, q2, 0))), (0, .ref (xad X (0, 0, 0, 0))), (1, .int p1), (2, .int p2), (3, .int p3)] (dtX3_rowsToLookAt_0 18 (34, .istore 6, 2) rfl) (by decide) rfl ?_
    have e140_6 : ∀ (v5 : Int32), C_X3_rowsToLookAt_140 v5 = some rv → G X K 140 [(5, .int v5)] [] m0 := by
      intro v5 hF
      unfold C_X3_rowsToLookAt_140 at hF
      refine r_iload hk 0 (dtX3_rowsToLookAt_1 3 (140, .iload 5, 2) rfl) rfl ?_
      cases Option.some.inj hF
      exact hR _ _ (dtX3_rowsToLookAt_1 4 (142, .ireturn, 1) rfl)
    have l10 : ∀ (n10 : Nat) (v7 : Int32) (v8 : Int32), L_X3_rowsToLookAt_36 p1 p3 m0 q1 q2 n10 v7 v8 = some rv → G X K 36 [(0, .ref (xad X (0, 0, 0, 0))), (1, .int p1), (3, .int p3), (4, .ref (xad X (2, q1, q2, 0))), (5, .int v7), (6, .int v8)] [] m0 := by
      intro n10
      induction n10 with
      | zero => intro v7 v8 hF; exact nomatch (show (none : Option Int32) = some rv from hF)
      | succ n10 ih10 =>
        intro v7 v8 hF
        rw [L_X3_rowsToLookAt_36] at hF
        refine r_iload hk 5 (dtX3_rowsToLookAt_0 19 (36, .iload 6, 2) rfl) rfl ?_
        refine r_aload_n hk 0 (dtX3_rowsToLookAt_0 20 (38, .aload_n 0, 1) rfl) rfl ?_
        refine r_getR hk (k := 2) (fsX3 X) cbX3 (by decide) fl_X3_22 (in_main 0 (by decide)) (fun _ => rfl) (fun _ _ => rfl) (dtX3_rowsToLookAt_0 21 (39, .getfield 22, 3) rfl) ?_
        refine r_getI hk (k := 3) (fsX0 X) cbX0 (by decide) fl_X3_287 (in_main 3 (by decide)) (fun _ => rfl) (fun _ _ => rfl) hF (dtX3_rowsToLookAt_0 22 (42, .getfield 287, 3) rfl) (fun v11 hF => ?_)
        refine r_icmp_ge hk 140 hF (dtX3_rowsToLookAt_0 23 (45, .if_icmp .ge 95, 3) rfl) (by decide) (fun hF => ?_) (fun hF => ?_)
        · exact r_sub hk [4] rfl (e140_6 v7 hF)
        · refine r_aload_n hk 0 (dtX3_rowsToLookAt_0 24 (48, .aload_n 0, 1) rfl) rfl ?_
          refine r_getR hk (k := 2) (fsX3 X) cbX3 (by decide) fl_X3_22 (in_main 0 (by decide)) (fun _ => rfl) (fun _ _ => rfl) (dtX3_rowsToLookAt_0 25 (49, .getfield 22, 3) rfl) ?_
          refine r_getR hk (k := 0) (fsX0 X) cbX0 (by decide) fl_X3_290 (in_main 3 (by decide)) (fun _ => rfl) (fun _ _ => rfl) (dtX3_rowsToLookAt_0 26 (52, .getfield 290, 3) rfl) ?_
          refine r_iload hk 5 (dtX3_rowsToLookAt_0 27 (55, .iload 6, 2) rfl) rfl ?_
          refine r_iald hk (in_main 5 (by decide)) (fun _ => rfl) hF (dtX3_rowsToLookAt_0 28 (57, .iaload, 1) rfl) (fun v12 hF => ?_)
          refine r_istore hk [(7, .int v12), (0, .ref (xad X (0, 0, 0, 0))), (1, .int p1), (3, .int p3), (4, .ref (xad X (2, q1, q2, 0))), (5, .int v7), (6, .int v8)] (dtX3_rowsToLookAt_0 29 (58, .istore 7, 2) rfl) (by decide) rfl ?_
          refine r_aload hk 4 (dtX3_rowsToLookAt_0 30 (60, .aload 4, 2) rfl) rfl ?_
          refine r_iload hk 0 (dtX3_rowsToLookAt_0 31 (62, .iload 7, 2) rfl) rfl ?_
          refine r_callI hF (fun v13 h H locs ls hH hS hl => run_V (y := yX2_columnOf) hk (in_tn q1 hq1 q2 hq2 0 (by decide)) rfl rfl (c_X2_columnOf (kl K) hk.2.2.2.2.2.2.2.2.2.2.2 X q1 hq1 q2 hq2 v12 m0 v13 h) lk_X3_67 me_X2_columnOf yf_X2_columnOf (by decide) (by decide) rfl (Nat.le_of_ble_eq_true rfl) rfl (dtX3_rowsToLookAt_0 32 (64, .invokevirtual 67, 3) rfl) hH hS hl) (fun v13 hF => ?_)
          refine r_istore hk [(8, .int v13), (7, .int v12), (0, .ref (xad X (0, 0, 0, 0))), (1, .int p1), (3, .int p3), (4, .ref (xad X (2, q1, q2, 0))), (5, .int v7), (6, .int v8)] (dtX3_rowsToLookAt_0 33 (67, .istore 8, 2) rfl) (by decide) rfl ?_
          refine r_aload_n hk 2 (dtX3_rowsToLookAt_0 34 (69, .aload_n 0, 1) rfl) rfl ?_
          refine r_getR hk (k := 2) (fsX3 X) cbX3 (by decide) fl_X3_22 (in_main 0 (by decide)) (fun _ => rfl) (fun _ _ => rfl) (dtX3_rowsToLookAt_0 35 (70, .getfield 22, 3) rfl) ?_
          refine r_getR hk (k := 1) (fsX0 X) cbX0 (by decide) fl_X3_298 (in_main 3 (by decide)) (fun _ => rfl) (fun _ _ => rfl) (dtX3_rowsToLookAt_0 36 (73, .getfield 298, 3) rfl) ?_
          refine r_iload hk 7 (dtX3_rowsToLookAt_0 37 (76, .iload 6, 2) rfl) rfl ?_
          refine r_iald hk (in_main 6 (by decide)) (fun _ => rfl) hF (dtX3_rowsToLookAt_0 38 (78, .iaload, 1) rfl) (fun v14 hF => ?_)
          refine r_bipush (v := 61) hk (dtX3_rowsToLookAt_0 39 (79, .bipush 61, 2) rfl) (by decide) ?_
          have j134_16 : ∀ (v15 : Int32), (J_X3_rowsToLookAt_134 v8 (fun w0 w1 => L_X3_rowsToLookAt_36 p1 p3 m0 q1 q2 n10 w0 w1)) v15 = some rv → G X K 134 [(0, .ref (xad X (0, 0, 0, 0))), (1, .int p1), (3, .int p3), (4, .ref (xad X (2, q1, q2, 0))), (5, .int v15), (6, .int v8)] [] m0 := by
            intro v15 hF
            unfold J_X3_rowsToLookAt_134 at hF
            refine r_iinc hk 1 5 (fun v17 => [(6, .int v17), (0, .ref (xad X (0, 0, 0, 0))), (1, .int p1), (3, .int p3), (4, .ref (xad X (2, q1, q2, 0))), (5, .int v15)]) hF (dtX3_rowsToLookAt_1 1 (134, .iinc 6 1, 3) rfl) rfl (by decide) (by decide) (fun _ => rfl) (fun v17 hF => ?_)
            refine r_goto hk 36 (dtX3_rowsToLookAt_1 2 (137, .goto (-101), 3) rfl) (by decide) ?_
            exact r_sub hk [1, 2, 3, 4, 5, 0] rfl (ih10 v15 v17 hF)
          refine r_icmp_ne hk 134 hF (dtX3_rowsToLookAt_0 40 (81, .if_icmp .ne 53, 3) rfl) (by decide) (fun hF => ?_) (fun hF => ?_)
          · exact r_sub hk [2, 3, 4, 5, 6, 7] rfl (j134_16 v7 hF)
          · refine r_iload hk 0 (dtX3_rowsToLookAt_0 41 (84, .iload 8, 2) rfl) rfl ?_
            refine r_iconst (v := (-1)) hk (dtX3_rowsToLookAt_0 42 (86, .iconst (-1), 1) rfl) (by decide) ?_
            refine r_icmp_eq hk 134 hF (dtX3_rowsToLookAt_0 43 (87, .if_icmp .eq 47, 3) rfl) (by decide) (fun hF => ?_) (fun hF => ?_)
            · exact r_sub hk [2, 3, 4, 5, 6, 7] rfl (j134_16 v7 hF)
            · refine r_aload hk 5 (dtX3_rowsToLookAt_0 44 (90, .aload 4, 2) rfl) rfl ?_
              refine r_getR hk (k := 2) (fsX2 X q1 q2) cbX2 (by decide) fl_X3_92 (in_tn q1 hq1 q2 hq2 0 (by decide)) (fun _ => rfl) (fun _ _ => rfl) (dtX3_rowsToLookAt_0 45 (92, .getfield 92, 3) rfl) ?_
              refine r_iload hk 0 (dtX3_rowsToLookAt_0 46 (95, .iload 8, 2) rfl) rfl ?_
              refine r_zald hk (in_tn q1 hq1 q2 hq2 3 (by decide)) (fun _ => rfl) hF (dtX3_rowsToLookAt_0 47 (97, .baload, 1) rfl) (fun v18 hF => ?_)
              have j107_19 : (J_X3_rowsToLookAt_107 p1 m0 v7 v8 (fun w0 w1 => L_X3_rowsToLookAt_36 p1 p3 m0 q1 q2 n10 w0 w1) v13) = some rv → G X K 107 [(0, .ref (xad X (0, 0, 0, 0))), (1, .int p1), (3, .int p3), (4, .ref (xad X (2, q1, q2, 0))), (5, .int v7), (6, .int v8), (8, .int v13)] [] m0 := by
                intro hF
                unfold J_X3_rowsToLookAt_107 at hF
                refine r_iload hk 4 (dtX3_rowsToLookAt_0 52 (107, .iload 5, 2) rfl) rfl ?_
                refine r_aload_n hk 0 (dtX3_rowsToLookAt_0 53 (109, .aload_n 0, 1) rfl) rfl ?_
                refine r_getS hk fl_X3_30 hF (dtX3_rowsToLookAt_0 54 (110, .getfield 30, 3) rfl) (fun q20 hq20 hF => ?_)
                refine r_iload_n hk 1 (dtX3_rowsToLookAt_0 55 (113, .iload_n 1, 1) rfl) rfl ?_
                refine r_iload hk 6 (dtX3_rowsToLookAt_0 56 (114, .iload 8, 2) rfl) rfl ?_
                refine r_aload_n hk 0 (dtX3_rowsToLookAt_0 57 (116, .aload_n 0, 1) rfl) rfl ?_
                refine r_getR hk (k := 2) (fsX3 X) cbX3 (by decide) fl_X3_22 (in_main 0 (by decide)) (fun _ => rfl) (fun _ _ => rfl) (dtX3_rowsToLookAt_0 58 (117, .getfield 22, 3) rfl) ?_
                refine r_getR hk (k := 2) (fsX0 X) cbX0 (by decide) fl_X3_301 (in_main 3 (by decide)) (fun _ => rfl) (fun _ _ => rfl) (dtX3_rowsToLookAt_0 59 (120, .getfield 301, 3) rfl) ?_
                refine r_iload hk 5 (dtX3_rowsToLookAt_0 60 (123, .iload 6, 2) rfl) rfl ?_
                refine r_iald hk (in_main 7 (by decide)) (fun _ => rfl) hF (dtX3_rowsToLookAt_0 61 (125, .iaload, 1) rfl) (fun v21 hF => ?_)
                refine r_callI hF (fun v22 h H locs ls hH hS hl => run_V (y := yX1_rowsWith) hk (in_st q20 hq20 0 (by decide)) rfl rfl (c_X1_rowsWith (kl K) hk.2.2.2.2.2.2.2.2.2.2.2 X q20 hq20 p1 v13 v21 m0 v22 h) lk_X3_304 me_X1_rowsWith yf_X1_rowsWith (by decide) (by decide) rfl (Nat.le_of_ble_eq_true rfl) rfl (dtX3_rowsToLookAt_0 62 (126, .invokevirtual 304, 3) rfl) hH hS hl) (fun v22 hF => ?_)
                refine r_mmin hk lk_X3_307 hF (by decide) (Nat.le_of_ble_eq_true rfl) (dtX3_rowsToLookAt_0 63 (129, .invokestatic 307, 3) rfl) (fun v23 hF => ?_)
                refine r_istore hk [(5, .int v23), (0, .ref (xad X (0, 0, 0, 0))), (1, .int p1), (3, .int p3), (4, .ref (xad X (2, q1, q2, 0))), (6, .int v8), (8, .int v13)] (dtX3_rowsToLookAt_1 0 (132, .istore 5, 2) rfl) (by decide) rfl ?_
                exact r_sub hk [1, 2, 3, 4, 0, 5] rfl (j134_16 v23 hF)
              refine r_if_ne hk 107 hF (dtX3_rowsToLookAt_0 48 (98, .ifCond .ne 9, 3) rfl) (by decide) (fun hF => ?_) (fun hF => ?_)
              · exact r_sub hk [2, 3, 4, 5, 6, 7, 0] rfl (j107_19 hF)
              · refine r_iload hk 1 (dtX3_rowsToLookAt_0 49 (101, .iload 7, 2) rfl) rfl ?_
                refine r_iload_n hk 4 (dtX3_rowsToLookAt_0 50 (103, .iload_n 3, 1) rfl) rfl ?_
                refine r_icmp_ne hk 134 hF (dtX3_rowsToLookAt_0 51 (104, .if_icmp .ne 30, 3) rfl) (by decide) (fun hF => ?_) (fun hF => ?_)
                · exact r_sub hk [2, 3, 4, 5, 6, 7] rfl (j134_16 v7 hF)
                · exact r_sub hk [2, 3, 4, 5, 6, 7, 0] rfl (j107_19 hF)
    exact r_sub hk [3, 4, 6, 2, 1, 0] rfl (l10 fu v4 0 hF)
  · refine r_aload_n hk 0 (dtX3_rowsToLookAt_0 2 (4, .aload_n 0, 1) rfl) rfl ?_
    refine r_getS hk fl_X3_30 hF (dtX3_rowsToLookAt_0 3 (5, .getfield 30, 3) rfl) (fun q24 hq24 hF => ?_)
    refine r_iload_n hk 1 (dtX3_rowsToLookAt_0 4 (8, .iload_n 1, 1) rfl) rfl ?_
    refine r_callI hF (fun v25 h H locs ls hH hS hl => run_V (y := yX1_rowsOf) hk (in_st q24 hq24 0 (by decide)) rfl rfl (c_X1_rowsOf (kl K) hk.2.2.2.2.2.2.2.2.2.2.2 X q24 hq24 p1 m0 v25 h) lk_X3_100 me_X1_rowsOf yf_X1_rowsOf (by decide) (by decide) rfl (Nat.le_of_ble_eq_true rfl) rfl (dtX3_rowsToLookAt_0 5 (9, .invokevirtual 100, 3) rfl) hH hS hl) (fun v25 hF => ?_)
    cases Option.some.inj hF
    exact hR _ _ (dtX3_rowsToLookAt_0 6 (12, .ireturn, 1) rfl)
end
section
/-! the walks (written by dec.py) -/
set_option maxHeartbeats 4000000 in
set_option maxRecDepth 100000 in
theorem c_X3_looked (l : Launch) (hlf : l.stackTraces = false) (X : XW)  (p1 : Int32) (p2 : Int32) (m0 : Mem) (rv : Int32 ⊕ Nat) (mE : Mem) (hF : F_X3_looked p1 p2 m0 = some (rv, mE)) : MT X l yX3_looked cX3_looked 3 (some .int) 8 [.ref (xad X (0, 0, 0, 0)), .int p1, .int p2] m0 rv mE (QTI X rv mE) := by
  refine startTI hlf (by decide +kernel) rfl [(0, .ref (xad X (0, 0, 0, 0))), (1, .int p1), (2, .int p2)] rfl (Nat.le_of_ble_eq_true rfl) (fun K hk hR hX => ?_)
  unfold F_X3_looked at hF
  refine r_iload_n hk 1 (dtX3_looked_0 0 (0, .iload_n 1, 1) rfl) rfl ?_
  refine r_callI hF (fun v1 h H locs ls hH hS hl => run_S hk (c_X3_isTenant (kl K) hk.2.2.2.2.2.2.2.2.2.2.2 X  p1 m0 v1 h) lk_X3_34 me_X3_isTenant yf_X3_isTenant (by decide) (by decide) rfl (Nat.le_of_ble_eq_true rfl) rfl (dtX3_looked_0 1 (1, .invokestatic 34, 3) rfl) hH hS hl) (fun v1 hF => ?_)
  refine r_callVts hk hF (fun c h => by cases Option.some.inj h; exact hX c rfl) (fun R h hf H locs ls hH hS hl => runT_S hk (c_X3_require (kl K) hk.2.2.2.2.2.2.2.2.2.2.2 X  v1 m0 R h) lk_X3_41 me_X3_require yf_X3_require (by decide) (by decide) rfl (Nat.le_of_ble_eq_true rfl) rfl (dtX3_looked_0 2 (4, .invokestatic 41, 3) rfl) hf hH hS hl) (fun _ hF => ?_)
  refine r_aload_n hk 0 (dtX3_looked_0 3 (7, .aload_n 0, 1) rfl) rfl ?_
  refine r_callIm hF (fun v2 m3 h H locs ls hH hS hl => run_V (y := yX3_readQuestion) hk (in_main 0 (by decide)) rfl rfl (c_X3_readQuestion (kl K) hk.2.2.2.2.2.2.2.2.2.2.2 X   m0 v2 m3 h) lk_X3_159 me_X3_readQuestion yf_X3_readQuestion (by decide) (by decide) rfl (Nat.le_of_ble_eq_true rfl) rfl (dtX3_looked_0 4 (8, .invokevirtual 159, 3) rfl) hH hS hl) (fun v2 m3 hF => ?_)
  refine r_if_ne hk 16 hF (dtX3_looked_0 5 (11, .ifCond .ne 5, 3) rfl) (by decide) (fun hF => ?_) (fun hF => ?_)
  · refine r_aload_n hk 0 (dtX3_looked_0 8 (16, .aload_n 0, 1) rfl) rfl ?_
    refine r_iload_n hk 1 (dtX3_looked_0 9 (17, .iload_n 1, 1) rfl) rfl ?_
    refine r_iload_n hk 2 (dtX3_looked_0 10 (18, .iload_n 2, 1) rfl) rfl ?_
    have j42_5 : ∀ (v4 : Int32), (J_X3_looked_42 p1 m3) v4 = some (rv, mE) → G X K 42 [] [.int v4, .int p1, .ref (xad X (0, 0, 0, 0))] m3 := by
      intro v4 hF
      unfold J_X3_looked_42 at hF
      refine r_iconst (v := (-1)) hk (dtX3_looked_0 22 (42, .iconst (-1), 1) rfl) (by decide) ?_
      refine r_callI hF (fun v6 h H locs ls hH hS hl => run_V (y := yX3_rowsToLookAt) hk (in_main 0 (by decide)) rfl rfl (c_X3_rowsToLookAt (kl K) hk.2.2.2.2.2.2.2.2.2.2.2 X  p1 v4 (-1) m3 v6 h) lk_X3_172 me_X3_rowsToLookAt yf_X3_rowsToLookAt (by decide) (by decide) rfl (Nat.le_of_ble_eq_true rfl) rfl (dtX3_looked_0 23 (43, .invokevirtual 172, 3) rfl) hH hS hl) (fun v6 hF => ?_)
      cases Option.some.inj hF
      exact hR v6 rfl _ _ (dtX3_looked_0 24 (46, .ireturn, 1) rfl)
    have j37_7 : (J_X3_looked_37 p1 m3) = some (rv, mE) → G X K 37 [] [.int p1, .ref (xad X (0, 0, 0, 0))] m3 := by
      intro hF
      unfold J_X3_looked_37 at hF
      refine r_iconst (v := 1) hk (dtX3_looked_0 19 (37, .iconst 1, 1) rfl) (by decide) ?_
      refine r_goto hk 42 (dtX3_looked_0 20 (38, .goto 4, 3) rfl) (by decide) ?_
      exact r_sub hk [] rfl (j42_5 1 hF)
    refine r_if_ne hk 37 hF (dtX3_looked_0 11 (19, .ifCond .ne 18, 3) rfl) (by decide) (fun hF => ?_) (fun hF => ?_)
    · exact r_sub hk [] rfl (j37_7 hF)
    · refine r_aload_n hk 0 (dtX3_looked_0 12 (22, .aload_n 0, 1) rfl) rfl ?_
      refine r_getS hk fl_X3_30 hF (dtX3_looked_0 13 (23, .getfield 30, 3) rfl) (fun q8 hq8 hF => ?_)
      refine r_getR hk (k := 0) (fsX1 X q8) cbX1 (by decide) fl_X3_49 (in_st q8 hq8 0 (by decide)) (fun _ => rfl) (fun _ _ => rfl) (dtX3_looked_0 14 (26, .getfield 49, 3) rfl) ?_
      refine r_iload_n hk 1 (dtX3_looked_0 15 (29, .iload_n 1, 1) rfl) rfl ?_
      refine r_aldT hk hq8 hF (dtX3_looked_0 16 (30, .aaload, 1) rfl) (fun q9 hq9 hF => ?_)
      refine r_getI hk (k := 5) (fsX2 X q8 q9) cbX2 (by decide) fl_X3_106 (in_tn q8 hq8 q9 hq9 0 (by decide)) (fun _ => rfl) (fun _ _ => rfl) hF (dtX3_looked_0 17 (31, .getfield 106, 3) rfl) (fun v10 hF => ?_)
      refine r_if_eq hk 41 hF (dtX3_looked_0 18 (34, .ifCond .eq 7, 3) rfl) (by decide) (fun hF => ?_) (fun hF => ?_)
      · refine r_iconst (v := 0) hk (dtX3_looked_0 21 (41, .iconst 0, 1) rfl) (by decide) ?_
        exact r_sub hk [] rfl (j42_5 0 hF)
      · exact r_sub hk [] rfl (j37_7 hF)
  · refine r_iconst (v := (-1)) hk (dtX3_looked_0 6 (14, .iconst (-1), 1) rfl) (by decide) ?_
    cases Option.some.inj hF
    exact hR (-1) rfl _ _ (dtX3_looked_0 7 (15, .ireturn, 1) rfl)
set_option maxHeartbeats 4000000 in
set_option maxRecDepth 100000 in
theorem c_X2_define (l : Launch) (hlf : l.stackTraces = false) (X : XW) (i0 : Nat) (hi0 : i0 < 7) (j0 : Nat) (hj0 : j0 < 3) (p1 : Int32) (p2 : Int32) (p3 : Int32) (p4 : Int32) (m0 : Mem) (rv : Unit) (mE : Mem) (hF : F_X2_define i0 j0 p1 p2 p3 p4 m0 = some (rv, mE)) : MX X l yX2_define cX2_define 5 none 0 [.ref (xad X (2, i0, j0, 0)), .int p1, .int p2, .int p3, .int p4] m0 (QV X mE) := by
  refine startV hlf (by decide +kernel) rfl [(0, .ref (xad X (2, i0, j0, 0))), (1, .int p1), (2, .int p2), (3, .int p3), (4, .int p4)] rfl (Nat.le_of_ble_eq_true rfl) (fun K hk hR => ?_)
  unfold F_X2_define at hF
  refine r_iload_n hk 1 (dtX2_define_0 0 (0, .iload_n 1, 1) rfl) rfl ?_
  have j32_2 : ∀ (m1 : Mem), J_X2_define_32 m1 = some (rv, mE) → G X K 32 [] [] m1 := by
    intro m1 hF
    unfold J_X2_define_32 at hF
    cases Option.some.inj hF
    exact hR _ _ (dtX2_define_0 20 (32, .return_, 1) rfl)
  refine r_if_lt hk 32 hF (dtX2_define_0 1 (1, .ifCond .lt 31, 3) rfl) (by decide) (fun hF => ?_) (fun hF => ?_)
  · exact r_sub hk [] rfl (j32_2 m0 hF)
  · refine r_iload_n hk 1 (dtX2_define_0 2 (4, .iload_n 1, 1) rfl) rfl ?_
    refine r_bipush (v := 8) hk (dtX2_define_0 3 (5, .bipush 8, 2) rfl) (by decide) ?_
    refine r_icmp_ge hk 32 hF (dtX2_define_0 4 (7, .if_icmp .ge 25, 3) rfl) (by decide) (fun hF => ?_) (fun hF => ?_)
    · exact r_sub hk [] rfl (j32_2 m0 hF)
    · refine r_aload_n hk 0 (dtX2_define_0 5 (10, .aload_n 0, 1) rfl) rfl ?_
      refine r_getR hk (k := 0) (fsX2 X i0 j0) cbX2 (by decide) fl_X2_9 (in_tn i0 hi0 j0 hj0 0 (by decide)) (fun _ => rfl) (fun _ _ => rfl) (dtX2_define_0 6 (11, .getfield 9, 3) rfl) ?_
      refine r_iload_n hk 1 (dtX2_define_0 7 (14, .iload_n 1, 1) rfl) rfl ?_
      refine r_iload_n hk 2 (dtX2_define_0 8 (15, .iload_n 2, 1) rfl) rfl ?_
      refine r_iast hk (in_tn i0 hi0 j0 hj0 1 (by decide)) (fun _ => rfl) hF (dtX2_define_0 9 (16, .iastore, 1) rfl) (fun m3 hF => ?_)
      refine r_aload_n hk 0 (dtX2_define_0 10 (17, .aload_n 0, 1) rfl) rfl ?_
      refine r_getR hk (k := 1) (fsX2 X i0 j0) cbX2 (by decide) fl_X2_15 (in_tn i0 hi0 j0 hj0 0 (by decide)) (fun _ => rfl) (fun _ _ => rfl) (dtX2_define_0 11 (18, .getfield 15, 3) rfl) ?_
      refine r_iload_n hk 1 (dtX2_define_0 12 (21, .iload_n 1, 1) rfl) rfl ?_
      refine r_iload_n hk 3 (dtX2_define_0 13 (22, .iload_n 3, 1) rfl) rfl ?_
      refine r_iast hk (in_tn i0 hi0 j0 hj0 2 (by decide)) (fun _ => rfl) hF (dtX2_define_0 14 (23, .iastore, 1) rfl) (fun m4 hF => ?_)
      refine r_aload_n hk 0 (dtX2_define_0 15 (24, .aload_n 0, 1) rfl) rfl ?_
      refine r_getR hk (k := 2) (fsX2 X i0 j0) cbX2 (by decide) fl_X2_18 (in_tn i0 hi0 j0 hj0 0 (by decide)) (fun _ => rfl) (fun _ _ => rfl) (dtX2_define_0 16 (25, .getfield 18, 3) rfl) ?_
      refine r_iload_n hk 1 (dtX2_define_0 17 (28, .iload_n 1, 1) rfl) rfl ?_
      refine r_iload hk 4 (dtX2_define_0 18 (29, .iload 4, 2) rfl) rfl ?_
      refine r_zast hk (in_tn i0 hi0 j0 hj0 3 (by decide)) (fun _ => rfl) hF (dtX2_define_0 19 (31, .bastore, 1) rfl) (fun m5 hF => ?_)
      exact r_sub hk [] rfl (j32_2 m5 hF)
set_option maxHeartbeats 4000000 in
set_option maxRecDepth 100000 in
theorem c_X2_copyFrom (l : Launch) (hlf : l.stackTraces = false) (X : XW) (i0 : Nat) (hi0 : i0 < 7) (j0 : Nat) (hj0 : j0 < 3) (i1 : Nat) (hi1 : i1 < 7) (j1 : Nat) (hj1 : j1 < 3)  (m0 : Mem) (rv : Unit) (mE : Mem) (hF : F_X2_copyFrom i0 j0 i1 j1 m0 = some (rv, mE)) : MX X l yX2_copyFrom cX2_copyFrom 3 none 1 [.ref (xad X (2, i0, j0, 0)), .ref (xad X (2, i1, j1, 0))] m0 (QV X mE) := by
  refine startV hlf (by decide +kernel) rfl [(0, .ref (xad X (2, i0, j0, 0))), (1, .ref (xad X (2, i1, j1, 0)))] rfl (Nat.le_of_ble_eq_true rfl) (fun K hk hR => ?_)
  unfold F_X2_copyFrom at hF
  refine r_iconst (v := 0) hk (dtX2_copyFrom_0 0 (0, .iconst 0, 1) rfl) (by decide) ?_
  refine r_istore_n hk [(2, .int 0), (0, .ref (xad X (2, i0, j0, 0))), (1, .ref (xad X (2, i1, j1, 0)))] (dtX2_copyFrom_0 1 (1, .istore_n 2, 1) rfl) (by decide) rfl ?_
  have e37_2 : ∀ (m1 : Mem), (C_X2_copyFrom_37 i0 j0 i1 j1) m1 = some (rv, mE) → G X K 37 [(0, .ref (xad X (2, i0, j0, 0))), (1, .ref (xad X (2, i1, j1, 0)))] [] m1 := by
    intro m1 hF
    unfold C_X2_copyFrom_37 at hF
    refine r_aload_n hk 0 (dtX2_copyFrom_0 22 (37, .aload_n 0, 1) rfl) rfl ?_
    refine r_aload_n hk 1 (dtX2_copyFrom_0 23 (38, .aload_n 1, 1) rfl) rfl ?_
    refine r_getI hk (k := 3) (fsX2 X i1 j1) cbX2 (by decide) fl_X2_22 (in_tn i1 hi1 j1 hj1 0 (by decide)) (fun _ => rfl) (fun _ _ => rfl) hF (dtX2_copyFrom_0 24 (39, .getfield 22, 3) rfl) (fun v3 hF => ?_)
    refine r_putI hk (k := 3) (fsX2 X i0 j0) cbX2 (by decide) fl_X2_22 (in_tn i0 hi0 j0 hj0 0 (by decide)) (fun _ => rfl) rfl rfl (fun _ _ _ => rfl) (fun _ _ => (by decide : 3 < 10)) hF (dtX2_copyFrom_0 25 (42, .putfield 22, 3) rfl) (fun m4 hF => ?_)
    refine r_aload_n hk 0 (dtX2_copyFrom_0 26 (45, .aload_n 0, 1) rfl) rfl ?_
    refine r_aload_n hk 1 (dtX2_copyFrom_0 27 (46, .aload_n 1, 1) rfl) rfl ?_
    refine r_getI hk (k := 4) (fsX2 X i1 j1) cbX2 (by decide) fl_X2_26 (in_tn i1 hi1 j1 hj1 0 (by decide)) (fun _ => rfl) (fun _ _ => rfl) hF (dtX2_copyFrom_0 28 (47, .getfield 26, 3) rfl) (fun v5 hF => ?_)
    refine r_putI hk (k := 4) (fsX2 X i0 j0) cbX2 (by decide) fl_X2_26 (in_tn i0 hi0 j0 hj0 0 (by decide)) (fun _ => rfl) rfl rfl (fun _ _ _ => rfl) (fun _ _ => (by decide : 4 < 10)) hF (dtX2_copyFrom_0 29 (50, .putfield 26, 3) rfl) (fun m6 hF => ?_)
    refine r_aload_n hk 0 (dtX2_copyFrom_0 30 (53, .aload_n 0, 1) rfl) rfl ?_
    refine r_aload_n hk 1 (dtX2_copyFrom_0 31 (54, .aload_n 1, 1) rfl) rfl ?_
    refine r_getI hk (k := 5) (fsX2 X i1 j1) cbX2 (by decide) fl_X2_33 (in_tn i1 hi1 j1 hj1 0 (by decide)) (fun _ => rfl) (fun _ _ => rfl) hF (dtX2_copyFrom_0 32 (55, .getfield 33, 3) rfl) (fun v7 hF => ?_)
    refine r_putZ hk (k := 5) (fsX2 X i0 j0) cbX2 (by decide) fl_X2_33 (in_tn i0 hi0 j0 hj0 0 (by decide)) (fun _ => rfl) rfl rfl (fun _ _ _ => rfl) (fun _ _ => (by decide : 5 < 10)) hF (dtX2_copyFrom_0 33 (58, .putfield 33, 3) rfl) (fun m8 hF => ?_)
    refine r_aload_n hk 0 (dtX2_copyFrom_0 34 (61, .aload_n 0, 1) rfl) rfl ?_
    refine r_aload_n hk 1 (dtX2_copyFrom_0 35 (62, .aload_n 1, 1) rfl) rfl ?_
    refine r_getI hk (k := 6) (fsX2 X i1 j1) cbX2 (by decide) fl_X2_37 (in_tn i1 hi1 j1 hj1 0 (by decide)) (fun _ => rfl) (fun _ _ => rfl) hF (dtX2_copyFrom_0 36 (63, .getfield 37, 3) rfl) (fun v9 hF => ?_)
    refine r_putI hk (k := 6) (fsX2 X i0 j0) cbX2 (by decide) fl_X2_37 (in_tn i0 hi0 j0 hj0 0 (by decide)) (fun _ => rfl) rfl rfl (fun _ _ _ => rfl) (fun _ _ => (by decide : 6 < 10)) hF (dtX2_copyFrom_0 37 (66, .putfield 37, 3) rfl) (fun m10 hF => ?_)
    refine r_aload_n hk 0 (dtX2_copyFrom_0 38 (69, .aload_n 0, 1) rfl) rfl ?_
    refine r_aload_n hk 1 (dtX2_copyFrom_0 39 (70, .aload_n 1, 1) rfl) rfl ?_
    refine r_getI hk (k := 7) (fsX2 X i1 j1) cbX2 (by decide) fl_X2_40 (in_tn i1 hi1 j1 hj1 0 (by decide)) (fun _ => rfl) (fun _ _ => rfl) hF (dtX2_copyFrom_0 40 (71, .getfield 40, 3) rfl) (fun v11 hF => ?_)
    refine r_putI hk (k := 7) (fsX2 X i0 j0) cbX2 (by decide) fl_X2_40 (in_tn i0 hi0 j0 hj0 0 (by decide)) (fun _ => rfl) rfl rfl (fun _ _ _ => rfl) (fun _ _ => (by decide : 7 < 10)) hF (dtX2_copyFrom_0 41 (74, .putfield 40, 3) rfl) (fun m12 hF => ?_)
    refine r_aload_n hk 0 (dtX2_copyFrom_0 42 (77, .aload_n 0, 1) rfl) rfl ?_
    refine r_aload_n hk 1 (dtX2_copyFrom_0 43 (78, .aload_n 1, 1) rfl) rfl ?_
    refine r_getI hk (k := 8) (fsX2 X i1 j1) cbX2 (by decide) fl_X2_43 (in_tn i1 hi1 j1 hj1 0 (by decide)) (fun _ => rfl) (fun _ _ => rfl) hF (dtX2_copyFrom_0 44 (79, .getfield 43, 3) rfl) (fun v13 hF => ?_)
    refine r_putI hk (k := 8) (fsX2 X i0 j0) cbX2 (by decide) fl_X2_43 (in_tn i0 hi0 j0 hj0 0 (by decide)) (fun _ => rfl) rfl rfl (fun _ _ _ => rfl) (fun _ _ => (by decide : 8 < 10)) hF (dtX2_copyFrom_0 45 (82, .putfield 43, 3) rfl) (fun m14 hF => ?_)
    refine r_aload_n hk 0 (dtX2_copyFrom_0 46 (85, .aload_n 0, 1) rfl) rfl ?_
    refine r_aload_n hk 1 (dtX2_copyFrom_0 47 (86, .aload_n 1, 1) rfl) rfl ?_
    refine r_getI hk (k := 9) (fsX2 X i1 j1) cbX2 (by decide) fl_X2_46 (in_tn i1 hi1 j1 hj1 0 (by decide)) (fun _ => rfl) (fun _ _ => rfl) hF (dtX2_copyFrom_0 48 (87, .getfield 46, 3) rfl) (fun v15 hF => ?_)
    refine r_putI hk (k := 9) (fsX2 X i0 j0) cbX2 (by decide) fl_X2_46 (in_tn i0 hi0 j0 hj0 0 (by decide)) (fun _ => rfl) rfl rfl (fun _ _ _ => rfl) (fun _ _ => (by decide : 9 < 10)) hF (dtX2_copyFrom_0 49 (90, .putfield 46, 3) rfl) (fun m16 hF => ?_)
    cases Option.some.inj hF
    exact hR _ _ (dtX2_copyFrom_0 50 (93, .return_, 1) rfl)
  have l20 : ∀ (n20 : Nat) (v17 : Int32) (m18 : Mem), L_X2_copyFrom_2 i0 j0 i1 j1 n20 v17 m18 = some (rv, mE) → G X K 2 [(0, .ref (xad X (2, i0, j0, 0))), (1, .ref (xad X (2, i1, j1, 0))), (2, .int v17)] [] m18 := by
    intro n20
    induction n20 with
    | zero => intro v17 m18 hF; exact nomatch (show (none : Option (Unit × Mem)) = some (rv, mE) from hF)
    | succ n20 ih20 =>
      intro v17 m18 hF
      rw [L_X2_copyFrom_2] at hF
      refine r_iload_n hk 2 (dtX2_copyFrom_0 2 (2, .iload_n 2, 1) rfl) rfl ?_
      refine r_bipush (v := 8) hk (dtX2_copyFrom_0 3 (3, .bipush 8, 2) rfl) (by decide) ?_
      refine r_icmp_ge hk 37 hF (dtX2_copyFrom_0 4 (5, .if_icmp .ge 32, 3) rfl) (by decide) (fun hF => ?_) (fun hF => ?_)
      · exact r_sub hk [0, 1] rfl (e37_2 m18 hF)
      · refine r_aload_n hk 0 (dtX2_copyFrom_0 5 (8, .aload_n 0, 1) rfl) rfl ?_
        refine r_iload_n hk 2 (dtX2_copyFrom_0 6 (9, .iload_n 2, 1) rfl) rfl ?_
        refine r_aload_n hk 1 (dtX2_copyFrom_0 7 (10, .aload_n 1, 1) rfl) rfl ?_
        refine r_getR hk (k := 0) (fsX2 X i1 j1) cbX2 (by decide) fl_X2_9 (in_tn i1 hi1 j1 hj1 0 (by decide)) (fun _ => rfl) (fun _ _ => rfl) (dtX2_copyFrom_0 8 (11, .getfield 9, 3) rfl) ?_
        refine r_iload_n hk 2 (dtX2_copyFrom_0 9 (14, .iload_n 2, 1) rfl) rfl ?_
        refine r_iald hk (in_tn i1 hi1 j1 hj1 1 (by decide)) (fun _ => rfl) hF (dtX2_copyFrom_0 10 (15, .iaload, 1) rfl) (fun v21 hF => ?_)
        refine r_aload_n hk 1 (dtX2_copyFrom_0 11 (16, .aload_n 1, 1) rfl) rfl ?_
        refine r_getR hk (k := 1) (fsX2 X i1 j1) cbX2 (by decide) fl_X2_15 (in_tn i1 hi1 j1 hj1 0 (by decide)) (fun _ => rfl) (fun _ _ => rfl) (dtX2_copyFrom_0 12 (17, .getfield 15, 3) rfl) ?_
        refine r_iload_n hk 2 (dtX2_copyFrom_0 13 (20, .iload_n 2, 1) rfl) rfl ?_
        refine r_iald hk (in_tn i1 hi1 j1 hj1 2 (by decide)) (fun _ => rfl) hF (dtX2_copyFrom_0 14 (21, .iaload, 1) rfl) (fun v22 hF => ?_)
        refine r_aload_n hk 1 (dtX2_copyFrom_0 15 (22, .aload_n 1, 1) rfl) rfl ?_
        refine r_getR hk (k := 2) (fsX2 X i1 j1) cbX2 (by decide) fl_X2_18 (in_tn i1 hi1 j1 hj1 0 (by decide)) (fun _ => rfl) (fun _ _ => rfl) (dtX2_copyFrom_0 16 (23, .getfield 18, 3) rfl) ?_
        refine r_iload_n hk 2 (dtX2_copyFrom_0 17 (26, .iload_n 2, 1) rfl) rfl ?_
        refine r_zald hk (in_tn i1 hi1 j1 hj1 3 (by decide)) (fun _ => rfl) hF (dtX2_copyFrom_0 18 (27, .baload, 1) rfl) (fun v23 hF => ?_)
        refine r_callVm hF (fun w m24 h H locs ls hH hS hl => run_V (y := yX2_define) hk (in_tn i0 hi0 j0 hj0 0 (by decide)) rfl rfl (c_X2_define (kl K) hk.2.2.2.2.2.2.2.2.2.2.2 X i0 hi0 j0 hj0 v17 v21 v22 v23 m18 w m24 h) lk_X2_29 me_X2_define yf_X2_define (by decide) (by decide) rfl (Nat.le_of_ble_eq_true rfl) rfl (dtX2_copyFrom_0 19 (28, .invokevirtual 29, 3) rfl) hH hS hl) (fun _ m24 hF => ?_)
        refine r_iinc hk 1 2 (fun v25 => [(2, .int v25), (0, .ref (xad X (2, i0, j0, 0))), (1, .ref (xad X (2, i1, j1, 0)))]) hF (dtX2_copyFrom_0 20 (31, .iinc 2 1, 3) rfl) rfl (by decide) (by decide) (fun _ => rfl) (fun v25 hF => ?_)
        refine r_goto hk 2 (dtX2_copyFrom_0 21 (34, .goto (-32), 3) rfl) (by decide) ?_
        exact r_sub hk [1, 2, 0] rfl (ih20 v25 m24 hF)
  exact r_sub hk [1, 2, 0] rfl (l20 fu 0 m0 hF)
set_option maxHeartbeats 4000000 in
set_option maxRecDepth 100000 in
theorem c_X1_copyFrom (l : Launch) (hlf : l.stackTraces = false) (X : XW) (i0 : Nat) (hi0 : i0 < 7) (i1 : Nat) (hi1 : i1 < 7)  (m0 : Mem) (rv : Unit) (mE : Mem) (hF : F_X1_copyFrom i0 i1 m0 = some (rv, mE)) : MX X l yX1_copyFrom cX1_copyFrom 3 none 2 [.ref (xad X (1, i0, 0, 0)), .ref (xad X (1, i1, 0, 0))] m0 (QV X mE) := by
  refine startV hlf (by decide +kernel) rfl [(0, .ref (xad X (1, i0, 0, 0))), (1, .ref (xad X (1, i1, 0, 0)))] rfl (Nat.le_of_ble_eq_true rfl) (fun K hk hR => ?_)
  unfold F_X1_copyFrom at hF
  refine r_iconst (v := 0) hk (dtX1_copyFrom_0 0 (0, .iconst 0, 1) rfl) (by decide) ?_
  refine r_istore_n hk [(2, .int 0), (0, .ref (xad X (1, i0, 0, 0))), (1, .ref (xad X (1, i1, 0, 0)))] (dtX1_copyFrom_0 1 (1, .istore_n 2, 1) rfl) (by decide) rfl ?_
  have e28_2 : ∀ (m1 : Mem), (C_X1_copyFrom_28 i0 i1) m1 = some (rv, mE) → G X K 28 [(0, .ref (xad X (1, i0, 0, 0))), (1, .ref (xad X (1, i1, 0, 0)))] [] m1 := by
    intro m1 hF
    unfold C_X1_copyFrom_28 at hF
    refine r_aload_n hk 0 (dtX1_copyFrom_0 16 (28, .aload_n 0, 1) rfl) rfl ?_
    refine r_aload_n hk 1 (dtX1_copyFrom_0 17 (29, .aload_n 1, 1) rfl) rfl ?_
    refine r_getI hk (k := 3) (fsX1 X i1) cbX1 (by decide) fl_X1_29 (in_st i1 hi1 0 (by decide)) (fun _ => rfl) (fun _ _ => rfl) hF (dtX1_copyFrom_0 18 (30, .getfield 29, 3) rfl) (fun v3 hF => ?_)
    refine r_putI hk (k := 3) (fsX1 X i0) cbX1 (by decide) fl_X1_29 (in_st i0 hi0 0 (by decide)) (fun _ => rfl) rfl rfl (fun _ _ _ => rfl) (fun _ _ => (by decide : 3 < 4)) hF (dtX1_copyFrom_0 19 (33, .putfield 29, 3) rfl) (fun m4 hF => ?_)
    refine r_aload_n hk 1 (dtX1_copyFrom_0 20 (36, .aload_n 1, 1) rfl) rfl ?_
    refine r_getR hk (k := 1) (fsX1 X i1) cbX1 (by decide) fl_X1_17 (in_st i1 hi1 0 (by decide)) (fun _ => rfl) (fun _ _ => rfl) (dtX1_copyFrom_0 21 (37, .getfield 17, 3) rfl) ?_
    refine r_iconst (v := 0) hk (dtX1_copyFrom_0 22 (40, .iconst 0, 1) rfl) (by decide) ?_
    refine r_aload_n hk 0 (dtX1_copyFrom_0 23 (41, .aload_n 0, 1) rfl) rfl ?_
    refine r_getR hk (k := 1) (fsX1 X i0) cbX1 (by decide) fl_X1_17 (in_st i0 hi0 0 (by decide)) (fun _ => rfl) (fun _ _ => rfl) (dtX1_copyFrom_0 24 (42, .getfield 17, 3) rfl) ?_
    refine r_iconst (v := 0) hk (dtX1_copyFrom_0 25 (45, .iconst 0, 1) rfl) (by decide) ?_
    refine r_aload_n hk 0 (dtX1_copyFrom_0 26 (46, .aload_n 0, 1) rfl) rfl ?_
    refine r_getI hk (k := 3) (fsX1 X i0) cbX1 (by decide) fl_X1_29 (in_st i0 hi0 0 (by decide)) (fun _ => rfl) (fun _ _ => rfl) hF (dtX1_copyFrom_0 27 (47, .getfield 29, 3) rfl) (fun v5 hF => ?_)
    refine r_copyi hk (in_st i1 hi1 2 (by decide)) (fun _ => rfl) (in_st i0 hi0 2 (by decide)) (fun _ => rfl) lk_X1_33 hF (by decide) (Nat.le_of_ble_eq_true rfl) (dtX1_copyFrom_0 28 (50, .invokestatic 33, 3) rfl) (fun m6 hF => ?_)
    refine r_aload_n hk 1 (dtX1_copyFrom_0 29 (53, .aload_n 1, 1) rfl) rfl ?_
    refine r_getR hk (k := 2) (fsX1 X i1) cbX1 (by decide) fl_X1_21 (in_st i1 hi1 0 (by decide)) (fun _ => rfl) (fun _ _ => rfl) (dtX1_copyFrom_0 30 (54, .getfield 21, 3) rfl) ?_
    refine r_iconst (v := 0) hk (dtX1_copyFrom_0 31 (57, .iconst 0, 1) rfl) (by decide) ?_
    refine r_aload_n hk 0 (dtX1_copyFrom_0 32 (58, .aload_n 0, 1) rfl) rfl ?_
    refine r_getR hk (k := 2) (fsX1 X i0) cbX1 (by decide) fl_X1_21 (in_st i0 hi0 0 (by decide)) (fun _ => rfl) (fun _ _ => rfl) (dtX1_copyFrom_0 33 (59, .getfield 21, 3) rfl) ?_
    refine r_iconst (v := 0) hk (dtX1_copyFrom_0 34 (62, .iconst 0, 1) rfl) (by decide) ?_
    refine r_aload_n hk 0 (dtX1_copyFrom_0 35 (63, .aload_n 0, 1) rfl) rfl ?_
    refine r_getI hk (k := 3) (fsX1 X i0) cbX1 (by decide) fl_X1_29 (in_st i0 hi0 0 (by decide)) (fun _ => rfl) (fun _ _ => rfl) hF (dtX1_copyFrom_0 36 (64, .getfield 29, 3) rfl) (fun v7 hF => ?_)
    refine r_bipush (v := 8) hk (dtX1_copyFrom_0 37 (67, .bipush 8, 2) rfl) (by decide) ?_
    refine r_imul hk hF (dtX1_copyFrom_0 38 (69, .imul, 1) rfl) (fun v8 hF => ?_)
    refine r_copyi hk (in_st i1 hi1 3 (by decide)) (fun _ => rfl) (in_st i0 hi0 3 (by decide)) (fun _ => rfl) lk_X1_33 hF (by decide) (Nat.le_of_ble_eq_true rfl) (dtX1_copyFrom_0 39 (70, .invokestatic 33, 3) rfl) (fun m9 hF => ?_)
    cases Option.some.inj hF
    exact hR _ _ (dtX1_copyFrom_0 40 (73, .return_, 1) rfl)
  have l13 : ∀ (n13 : Nat) (v10 : Int32) (m11 : Mem), L_X1_copyFrom_2 i0 i1 n13 v10 m11 = some (rv, mE) → G X K 2 [(0, .ref (xad X (1, i0, 0, 0))), (1, .ref (xad X (1, i1, 0, 0))), (2, .int v10)] [] m11 := by
    intro n13
    induction n13 with
    | zero => intro v10 m11 hF; exact nomatch (show (none : Option (Unit × Mem)) = some (rv, mE) from hF)
    | succ n13 ih13 =>
      intro v10 m11 hF
      rw [L_X1_copyFrom_2] at hF
      refine r_iload_n hk 2 (dtX1_copyFrom_0 2 (2, .iload_n 2, 1) rfl) rfl ?_
      refine r_iconst (v := 3) hk (dtX1_copyFrom_0 3 (3, .iconst 3, 1) rfl) (by decide) ?_
      refine r_icmp_ge hk 28 hF (dtX1_copyFrom_0 4 (4, .if_icmp .ge 24, 3) rfl) (by decide) (fun hF => ?_) (fun hF => ?_)
      · exact r_sub hk [0, 1] rfl (e28_2 m11 hF)
      · refine r_aload_n hk 0 (dtX1_copyFrom_0 5 (7, .aload_n 0, 1) rfl) rfl ?_
        refine r_getR hk (k := 0) (fsX1 X i0) cbX1 (by decide) fl_X1_11 (in_st i0 hi0 0 (by decide)) (fun _ => rfl) (fun _ _ => rfl) (dtX1_copyFrom_0 6 (8, .getfield 11, 3) rfl) ?_
        refine r_iload_n hk 2 (dtX1_copyFrom_0 7 (11, .iload_n 2, 1) rfl) rfl ?_
        refine r_aldT hk hi0 hF (dtX1_copyFrom_0 8 (12, .aaload, 1) rfl) (fun q14 hq14 hF => ?_)
        refine r_aload_n hk 1 (dtX1_copyFrom_0 9 (13, .aload_n 1, 1) rfl) rfl ?_
        refine r_getR hk (k := 0) (fsX1 X i1) cbX1 (by decide) fl_X1_11 (in_st i1 hi1 0 (by decide)) (fun _ => rfl) (fun _ _ => rfl) (dtX1_copyFrom_0 10 (14, .getfield 11, 3) rfl) ?_
        refine r_iload_n hk 2 (dtX1_copyFrom_0 11 (17, .iload_n 2, 1) rfl) rfl ?_
        refine r_aldT hk hi1 hF (dtX1_copyFrom_0 12 (18, .aaload, 1) rfl) (fun q15 hq15 hF => ?_)
        refine r_callVm hF (fun w m16 h H locs ls hH hS hl => run_V (y := yX2_copyFrom) hk (in_tn i0 hi0 q14 hq14 0 (by decide)) rfl rfl (c_X2_copyFrom (kl K) hk.2.2.2.2.2.2.2.2.2.2.2 X i0 hi0 q14 hq14 i1 hi1 q15 hq15  m11 w m16 h) lk_X1_25 me_X2_copyFrom yf_X2_copyFrom (by decide) (by decide) rfl (Nat.le_of_ble_eq_true rfl) rfl (dtX1_copyFrom_0 13 (19, .invokevirtual 25, 3) rfl) hH hS hl) (fun _ m16 hF => ?_)
        refine r_iinc hk 1 2 (fun v17 => [(2, .int v17), (0, .ref (xad X (1, i0, 0, 0))), (1, .ref (xad X (1, i1, 0, 0)))]) hF (dtX1_copyFrom_0 14 (22, .iinc 2 1, 3) rfl) rfl (by decide) (by decide) (fun _ => rfl) (fun v17 hF => ?_)
        refine r_goto hk 2 (dtX1_copyFrom_0 15 (25, .goto (-23), 3) rfl) (by decide) ?_
        exact r_sub hk [1, 2, 0] rfl (ih13 v17 m16 hF)
  exact r_sub hk [1, 2, 0] rfl (l13 fu 0 m0 hF)
set_option maxHeartbeats 4000000 in
set_option maxRecDepth 100000 in
theorem c_X3_save (l : Launch) (hlf : l.stackTraces = false) (X : XW)   (m0 : Mem) (rv : Nat) (mE : Mem) (hF : F_X3_save m0 = some (rv, mE)) : MX X l yX3_save cX3_save 3 (some (.object RX1)) 3 [.ref (xad X (0, 0, 0, 0))] m0 (QR X (xad X (1, rv, 0, 0)) mE) := by
  refine startR hlf (by decide +kernel) rfl [(0, .ref (xad X (0, 0, 0, 0)))] rfl (Nat.le_of_ble_eq_true rfl) (fun K hk hR => ?_)
  unfold F_X3_save at hF
  refine r_aload_n hk 0 (dtX3_save_0 0 (0, .aload_n 0, 1) rfl) rfl ?_
  refine r_getI hk (k := 5) (fsX3 X) cbX3 (by decide) fl_X3_179 (in_main 0 (by decide)) (fun _ => rfl) (fun _ _ => rfl) hF (dtX3_save_0 1 (1, .getfield 179, 3) rfl) (fun v1 hF => ?_)
  refine r_bipush (v := 6) hk (dtX3_save_0 2 (4, .bipush 6, 2) rfl) (by decide) ?_
  have j56_3 : ∀ (m2 : Mem), J_X3_save_56 m2 = some (rv, mE) → G X K 56 [(0, .ref (xad X (0, 0, 0, 0)))] [] m2 := by
    intro m2 hF
    unfold J_X3_save_56 at hF
    refine r_aload_n hk 0 (dtX3_save_0 34 (56, .aload_n 0, 1) rfl) rfl ?_
    refine r_getR hk (k := 0) (fsX3 X) cbX3 (by decide) fl_X3_11 (in_main 0 (by decide)) (fun _ => rfl) (fun _ _ => rfl) (dtX3_save_0 35 (57, .getfield 11, 3) rfl) ?_
    refine r_aload_n hk 0 (dtX3_save_0 36 (60, .aload_n 0, 1) rfl) rfl ?_
    refine r_getI hk (k := 5) (fsX3 X) cbX3 (by decide) fl_X3_179 (in_main 0 (by decide)) (fun _ => rfl) (fun _ _ => rfl) hF (dtX3_save_0 37 (61, .getfield 179, 3) rfl) (fun v4 hF => ?_)
    refine r_aldS hk hF (dtX3_save_0 38 (64, .aaload, 1) rfl) (fun q5 hq5 hF => ?_)
    refine r_astore_n hk [(1, .ref (xad X (1, q5, 0, 0))), (0, .ref (xad X (0, 0, 0, 0)))] (dtX3_save_0 39 (65, .astore_n 1, 1) rfl) (by decide) rfl ?_
    refine r_aload_n hk 0 (dtX3_save_0 40 (66, .aload_n 1, 1) rfl) rfl ?_
    refine r_aload_n hk 1 (dtX3_save_0 41 (67, .aload_n 0, 1) rfl) rfl ?_
    refine r_getS hk fl_X3_30 hF (dtX3_save_0 42 (68, .getfield 30, 3) rfl) (fun q6 hq6 hF => ?_)
    refine r_callVm hF (fun w m7 h H locs ls hH hS hl => run_V (y := yX1_copyFrom) hk (in_st q5 hq5 0 (by decide)) rfl rfl (c_X1_copyFrom (kl K) hk.2.2.2.2.2.2.2.2.2.2.2 X q5 hq5 q6 hq6  m2 w m7 h) lk_X3_277 me_X1_copyFrom yf_X1_copyFrom (by decide) (by decide) rfl (Nat.le_of_ble_eq_true rfl) rfl (dtX3_save_0 43 (71, .invokevirtual 277, 3) rfl) hH hS hl) (fun _ m7 hF => ?_)
    refine r_aload_n hk 1 (dtX3_save_0 44 (74, .aload_n 0, 1) rfl) rfl ?_
    refine r_dup hk (dtX3_save_0 45 (75, .dup, 1) rfl) rfl ?_
    refine r_getI hk (k := 5) (fsX3 X) cbX3 (by decide) fl_X3_179 (in_main 0 (by decide)) (fun _ => rfl) (fun _ _ => rfl) hF (dtX3_save_0 46 (76, .getfield 179, 3) rfl) (fun v8 hF => ?_)
    refine r_iconst (v := 1) hk (dtX3_save_0 47 (79, .iconst 1, 1) rfl) (by decide) ?_
    refine r_iadd hk hF (dtX3_save_0 48 (80, .iadd, 1) rfl) (fun v9 hF => ?_)
    refine r_putI hk (k := 5) (fsX3 X) cbX3 (by decide) fl_X3_179 (in_main 0 (by decide)) (fun _ => rfl) rfl rfl (fun _ _ _ => rfl) (fun _ _ => (by decide : 5 < 7)) hF (dtX3_save_0 49 (81, .putfield 179, 3) rfl) (fun m10 hF => ?_)
    refine r_aload_n hk 0 (dtX3_save_0 50 (84, .aload_n 1, 1) rfl) rfl ?_
    cases Option.some.inj hF
    exact hR _ _ (dtX3_save_0 51 (85, .areturn, 1) rfl)
  refine r_icmp_lt hk 56 hF (dtX3_save_0 3 (6, .if_icmp .lt 50, 3) rfl) (by decide) (fun hF => ?_) (fun hF => ?_)
  · exact r_sub hk [0] rfl (j56_3 m0 hF)
  · refine r_aload_n hk 0 (dtX3_save_0 4 (9, .aload_n 0, 1) rfl) rfl ?_
    refine r_getR hk (k := 0) (fsX3 X) cbX3 (by decide) fl_X3_11 (in_main 0 (by decide)) (fun _ => rfl) (fun _ _ => rfl) (dtX3_save_0 5 (10, .getfield 11, 3) rfl) ?_
    refine r_iconst (v := 0) hk (dtX3_save_0 6 (13, .iconst 0, 1) rfl) (by decide) ?_
    refine r_aldS hk hF (dtX3_save_0 7 (14, .aaload, 1) rfl) (fun q11 hq11 hF => ?_)
    refine r_astore_n hk [(1, .ref (xad X (1, q11, 0, 0))), (0, .ref (xad X (0, 0, 0, 0)))] (dtX3_save_0 8 (15, .astore_n 1, 1) rfl) (by decide) rfl ?_
    refine r_iconst (v := 1) hk (dtX3_save_0 9 (16, .iconst 1, 1) rfl) (by decide) ?_
    refine r_istore_n hk [(2, .int 1), (1, .ref (xad X (1, q11, 0, 0))), (0, .ref (xad X (0, 0, 0, 0)))] (dtX3_save_0 10 (17, .istore_n 2, 1) rfl) (by decide) rfl ?_
    have e44_13 : ∀ (m12 : Mem), (C_X3_save_44 q11) m12 = some (rv, mE) → G X K 44 [(0, .ref (xad X (0, 0, 0, 0))), (1, .ref (xad X (1, q11, 0, 0)))] [] m12 := by
      intro m12 hF
      unfold C_X3_save_44 at hF
      refine r_aload_n hk 0 (dtX3_save_0 26 (44, .aload_n 0, 1) rfl) rfl ?_
      refine r_getR hk (k := 0) (fsX3 X) cbX3 (by decide) fl_X3_11 (in_main 0 (by decide)) (fun _ => rfl) (fun _ _ => rfl) (dtX3_save_0 27 (45, .getfield 11, 3) rfl) ?_
      refine r_iconst (v := 5) hk (dtX3_save_0 28 (48, .iconst 5, 1) rfl) (by decide) ?_
      refine r_aload_n hk 1 (dtX3_save_0 29 (49, .aload_n 1, 1) rfl) rfl ?_
      refine r_aastS hk hq11 hF (dtX3_save_0 30 (50, .aastore, 1) rfl) (fun m14 hF => ?_)
      refine r_aload_n hk 0 (dtX3_save_0 31 (51, .aload_n 0, 1) rfl) rfl ?_
      refine r_iconst (v := 5) hk (dtX3_save_0 32 (52, .iconst 5, 1) rfl) (by decide) ?_
      refine r_putI hk (k := 5) (fsX3 X) cbX3 (by decide) fl_X3_179 (in_main 0 (by decide)) (fun _ => rfl) rfl rfl (fun _ _ _ => rfl) (fun _ _ => (by decide : 5 < 7)) hF (dtX3_save_0 33 (53, .putfield 179, 3) rfl) (fun m15 hF => ?_)
      exact r_sub hk [0] rfl (j56_3 m15 hF)
    have l19 : ∀ (n19 : Nat) (v16 : Int32) (m17 : Mem), L_X3_save_18 q11 n19 v16 m17 = some (rv, mE) → G X K 18 [(0, .ref (xad X (0, 0, 0, 0))), (1, .ref (xad X (1, q11, 0, 0))), (2, .int v16)] [] m17 := by
      intro n19
      induction n19 with
      | zero => intro v16 m17 hF; exact nomatch (show (none : Option (Nat × Mem)) = some (rv, mE) from hF)
      | succ n19 ih19 =>
        intro v16 m17 hF
        rw [L_X3_save_18] at hF
        refine r_iload_n hk 2 (dtX3_save_0 11 (18, .iload_n 2, 1) rfl) rfl ?_
        refine r_bipush (v := 6) hk (dtX3_save_0 12 (19, .bipush 6, 2) rfl) (by decide) ?_
        refine r_icmp_ge hk 44 hF (dtX3_save_0 13 (21, .if_icmp .ge 23, 3) rfl) (by decide) (fun hF => ?_) (fun hF => ?_)
        · exact r_sub hk [0, 1] rfl (e44_13 m17 hF)
        · refine r_aload_n hk 0 (dtX3_save_0 14 (24, .aload_n 0, 1) rfl) rfl ?_
          refine r_getR hk (k := 0) (fsX3 X) cbX3 (by decide) fl_X3_11 (in_main 0 (by decide)) (fun _ => rfl) (fun _ _ => rfl) (dtX3_save_0 15 (25, .getfield 11, 3) rfl) ?_
          refine r_iload_n hk 2 (dtX3_save_0 16 (28, .iload_n 2, 1) rfl) rfl ?_
          refine r_iconst (v := 1) hk (dtX3_save_0 17 (29, .iconst 1, 1) rfl) (by decide) ?_
          refine r_isub hk hF (dtX3_save_0 18 (30, .isub, 1) rfl) (fun v20 hF => ?_)
          refine r_aload_n hk 0 (dtX3_save_0 19 (31, .aload_n 0, 1) rfl) rfl ?_
          refine r_getR hk (k := 0) (fsX3 X) cbX3 (by decide) fl_X3_11 (in_main 0 (by decide)) (fun _ => rfl) (fun _ _ => rfl) (dtX3_save_0 20 (32, .getfield 11, 3) rfl) ?_
          refine r_iload_n hk 2 (dtX3_save_0 21 (35, .iload_n 2, 1) rfl) rfl ?_
          refine r_aldS hk hF (dtX3_save_0 22 (36, .aaload, 1) rfl) (fun q21 hq21 hF => ?_)
          refine r_aastS hk hq21 hF (dtX3_save_0 23 (37, .aastore, 1) rfl) (fun m22 hF => ?_)
          refine r_iinc hk 1 2 (fun v23 => [(2, .int v23), (0, .ref (xad X (0, 0, 0, 0))), (1, .ref (xad X (1, q11, 0, 0)))]) hF (dtX3_save_0 24 (38, .iinc 2 1, 3) rfl) rfl (by decide) (by decide) (fun _ => rfl) (fun v23 hF => ?_)
          refine r_goto hk 18 (dtX3_save_0 25 (41, .goto (-23), 3) rfl) (by decide) ?_
          exact r_sub hk [1, 2, 0] rfl (ih19 v23 m22 hF)
    exact r_sub hk [2, 1, 0] rfl (l19 fu 1 m0 hF)
set_option maxHeartbeats 4000000 in
set_option maxRecDepth 100000 in
theorem c_X3_ask (l : Launch) (hlf : l.stackTraces = false) (X : XW)  (p1 : Int32) (m0 : Mem) (rv : Int32 ⊕ Nat) (mE : Mem) (hF : F_X3_ask p1 m0 = some (rv, mE)) : MT X l yX3_ask cX3_ask 4 (some .int) 8 [.ref (xad X (0, 0, 0, 0)), .int p1] m0 rv mE (QTI X rv mE) := by
  refine startTI hlf (by decide +kernel) rfl [(0, .ref (xad X (0, 0, 0, 0))), (1, .int p1)] rfl (Nat.le_of_ble_eq_true rfl) (fun K hk hR hX => ?_)
  unfold F_X3_ask at hF
  refine r_iload_n hk 1 (dtX3_ask_0 0 (0, .iload_n 1, 1) rfl) rfl ?_
  refine r_callI hF (fun v1 h H locs ls hH hS hl => run_S hk (c_X3_isTenant (kl K) hk.2.2.2.2.2.2.2.2.2.2.2 X  p1 m0 v1 h) lk_X3_34 me_X3_isTenant yf_X3_isTenant (by decide) (by decide) rfl (Nat.le_of_ble_eq_true rfl) rfl (dtX3_ask_0 1 (1, .invokestatic 34, 3) rfl) hH hS hl) (fun v1 hF => ?_)
  have j19_4 : ∀ (v2 : Int32) (m3 : Mem), (J_X3_ask_19 p1) v2 m3 = some (rv, mE) → G X K 19 [(0, .ref (xad X (0, 0, 0, 0))), (1, .int p1)] [.int v2] m3 := by
    intro v2 m3 hF
    unfold J_X3_ask_19 at hF
    refine r_callVts hk hF (fun c h => by cases Option.some.inj h; exact hX c rfl) (fun R h hf H locs ls hH hS hl => runT_S hk (c_X3_require (kl K) hk.2.2.2.2.2.2.2.2.2.2.2 X  v2 m3 R h) lk_X3_41 me_X3_require yf_X3_require (by decide) (by decide) rfl (Nat.le_of_ble_eq_true rfl) rfl (dtX3_ask_0 9 (19, .invokestatic 41, 3) rfl) hf hH hS hl) (fun _ hF => ?_)
    refine r_aload_n hk 0 (dtX3_ask_0 10 (22, .aload_n 0, 1) rfl) rfl ?_
    refine r_callRm (fun q => xad X (1, q, 0, 0)) hF (fun q5 m6 h H locs ls hH hS hl => run_V (y := yX3_save) hk (in_main 0 (by decide)) rfl rfl (c_X3_save (kl K) hk.2.2.2.2.2.2.2.2.2.2.2 X   m3 q5 m6 h) lk_X3_45 me_X3_save yf_X3_save (by decide) (by decide) rfl (Nat.le_of_ble_eq_true rfl) rfl (dtX3_ask_0 11 (23, .invokevirtual 45, 3) rfl) hH hS hl) (fun q5 m6 _ hF => ?_)
    obtain ⟨hq5, hF⟩ := bp_some hF
    refine r_pop hk (dtX3_ask_0 12 (26, .pop, 1) rfl) rfl ?_
    refine r_aload_n hk 0 (dtX3_ask_0 13 (27, .aload_n 0, 1) rfl) rfl ?_
    refine r_getS hk fl_X3_30 hF (dtX3_ask_0 14 (28, .getfield 30, 3) rfl) (fun q7 hq7 hF => ?_)
    refine r_getR hk (k := 0) (fsX1 X q7) cbX1 (by decide) fl_X3_49 (in_st q7 hq7 0 (by decide)) (fun _ => rfl) (fun _ _ => rfl) (dtX3_ask_0 15 (31, .getfield 49, 3) rfl) ?_
    refine r_iload_n hk 1 (dtX3_ask_0 16 (34, .iload_n 1, 1) rfl) rfl ?_
    refine r_aldT hk hq7 hF (dtX3_ask_0 17 (35, .aaload, 1) rfl) (fun q8 hq8 hF => ?_)
    refine r_astore_n hk [(2, .ref (xad X (2, q7, q8, 0))), (0, .ref (xad X (0, 0, 0, 0))), (1, .int p1)] (dtX3_ask_0 18 (36, .astore_n 2, 1) rfl) (by decide) rfl ?_
    refine r_aload_n hk 1 (dtX3_ask_0 19 (37, .aload_n 0, 1) rfl) rfl ?_
    refine r_iload_n hk 2 (dtX3_ask_0 20 (38, .iload_n 1, 1) rfl) rfl ?_
    refine r_callIm hF (fun v9 m10 h H locs ls hH hS hl => run_V (y := yX3_collectAnswers) hk (in_main 0 (by decide)) rfl rfl (c_X3_collectAnswers (kl K) hk.2.2.2.2.2.2.2.2.2.2.2 X  p1 m6 v9 m10 h) lk_X3_163 me_X3_collectAnswers yf_X3_collectAnswers (by decide) (by decide) rfl (Nat.le_of_ble_eq_true rfl) rfl (dtX3_ask_0 21 (39, .invokevirtual 163, 3) rfl) hH hS hl) (fun v9 m10 hF => ?_)
    refine r_istore_n hk [(3, .int v9), (2, .ref (xad X (2, q7, q8, 0))), (0, .ref (xad X (0, 0, 0, 0))), (1, .int p1)] (dtX3_ask_0 22 (42, .istore_n 3, 1) rfl) (by decide) rfl ?_
    refine r_aload_n hk 1 (dtX3_ask_0 23 (43, .aload_n 2, 1) rfl) rfl ?_
    refine r_dup hk (dtX3_ask_0 24 (44, .dup, 1) rfl) rfl ?_
    refine r_getI hk (k := 6) (fsX2 X q7 q8) cbX2 (by decide) fl_X3_166 (in_tn q7 hq7 q8 hq8 0 (by decide)) (fun _ => rfl) (fun _ _ => rfl) hF (dtX3_ask_0 25 (45, .getfield 166, 3) rfl) (fun v11 hF => ?_)
    refine r_iconst (v := 1) hk (dtX3_ask_0 26 (48, .iconst 1, 1) rfl) (by decide) ?_
    refine r_iadd hk hF (dtX3_ask_0 27 (49, .iadd, 1) rfl) (fun v12 hF => ?_)
    refine r_putI hk (k := 6) (fsX2 X q7 q8) cbX2 (by decide) fl_X3_166 (in_tn q7 hq7 q8 hq8 0 (by decide)) (fun _ => rfl) rfl rfl (fun _ _ _ => rfl) (fun _ _ => (by decide : 6 < 10)) hF (dtX3_ask_0 28 (50, .putfield 166, 3) rfl) (fun m13 hF => ?_)
    refine r_aload_n hk 1 (dtX3_ask_0 29 (53, .aload_n 2, 1) rfl) rfl ?_
    refine r_dup hk (dtX3_ask_0 30 (54, .dup, 1) rfl) rfl ?_
    refine r_getI hk (k := 7) (fsX2 X q7 q8) cbX2 (by decide) fl_X3_169 (in_tn q7 hq7 q8 hq8 0 (by decide)) (fun _ => rfl) (fun _ _ => rfl) hF (dtX3_ask_0 31 (55, .getfield 169, 3) rfl) (fun v14 hF => ?_)
    refine r_aload_n hk 2 (dtX3_ask_0 32 (58, .aload_n 0, 1) rfl) rfl ?_
    refine r_iload_n hk 3 (dtX3_ask_0 33 (59, .iload_n 1, 1) rfl) rfl ?_
    refine r_aload_n hk 1 (dtX3_ask_0 34 (60, .aload_n 2, 1) rfl) rfl ?_
    refine r_getI hk (k := 5) (fsX2 X q7 q8) cbX2 (by decide) fl_X3_106 (in_tn q7 hq7 q8 hq8 0 (by decide)) (fun _ => rfl) (fun _ _ => rfl) hF (dtX3_ask_0 35 (61, .getfield 106, 3) rfl) (fun v15 hF => ?_)
    refine r_iconst (v := (-1)) hk (dtX3_ask_0 36 (64, .iconst (-1), 1) rfl) (by decide) ?_
    refine r_callI hF (fun v16 h H locs ls hH hS hl => run_V (y := yX3_rowsToLookAt) hk (in_main 0 (by decide)) rfl rfl (c_X3_rowsToLookAt (kl K) hk.2.2.2.2.2.2.2.2.2.2.2 X  p1 v15 (-1) m13 v16 h) lk_X3_172 me_X3_rowsToLookAt yf_X3_rowsToLookAt (by decide) (by decide) rfl (Nat.le_of_ble_eq_true rfl) rfl (dtX3_ask_0 37 (65, .invokevirtual 172, 3) rfl) hH hS hl) (fun v16 hF => ?_)
    refine r_iadd hk hF (dtX3_ask_0 38 (68, .iadd, 1) rfl) (fun v17 hF => ?_)
    refine r_putI hk (k := 7) (fsX2 X q7 q8) cbX2 (by decide) fl_X3_169 (in_tn q7 hq7 q8 hq8 0 (by decide)) (fun _ => rfl) rfl rfl (fun _ _ _ => rfl) (fun _ _ => (by decide : 7 < 10)) hF (dtX3_ask_0 39 (69, .putfield 169, 3) rfl) (fun m18 hF => ?_)
    refine r_aload_n hk 1 (dtX3_ask_0 40 (72, .aload_n 2, 1) rfl) rfl ?_
    refine r_dup hk (dtX3_ask_0 41 (73, .dup, 1) rfl) rfl ?_
    refine r_getI hk (k := 8) (fsX2 X q7 q8) cbX2 (by decide) fl_X3_176 (in_tn q7 hq7 q8 hq8 0 (by decide)) (fun _ => rfl) (fun _ _ => rfl) hF (dtX3_ask_0 42 (74, .getfield 176, 3) rfl) (fun v19 hF => ?_)
    refine r_iload_n hk 0 (dtX3_ask_0 43 (77, .iload_n 3, 1) rfl) rfl ?_
    refine r_iadd hk hF (dtX3_ask_0 44 (78, .iadd, 1) rfl) (fun v20 hF => ?_)
    refine r_putI hk (k := 8) (fsX2 X q7 q8) cbX2 (by decide) fl_X3_176 (in_tn q7 hq7 q8 hq8 0 (by decide)) (fun _ => rfl) rfl rfl (fun _ _ _ => rfl) (fun _ _ => (by decide : 8 < 10)) hF (dtX3_ask_0 45 (79, .putfield 176, 3) rfl) (fun m21 hF => ?_)
    refine r_iload_n hk 0 (dtX3_ask_0 46 (82, .iload_n 3, 1) rfl) rfl ?_
    cases Option.some.inj hF
    exact hR v9 rfl _ _ (dtX3_ask_0 47 (83, .ireturn, 1) rfl)
  have j18_23 : ∀ (m22 : Mem), (J_X3_ask_18 p1) m22 = some (rv, mE) → G X K 18 [(0, .ref (xad X (0, 0, 0, 0))), (1, .int p1)] [] m22 := by
    intro m22 hF
    unfold J_X3_ask_18 at hF
    refine r_iconst (v := 0) hk (dtX3_ask_0 8 (18, .iconst 0, 1) rfl) (by decide) ?_
    exact r_sub hk [0, 1] rfl (j19_4 0 m22 hF)
  refine r_if_eq hk 18 hF (dtX3_ask_0 2 (4, .ifCond .eq 14, 3) rfl) (by decide) (fun hF => ?_) (fun hF => ?_)
  · exact r_sub hk [0, 1] rfl (j18_23 m0 hF)
  · refine r_aload_n hk 0 (dtX3_ask_0 3 (7, .aload_n 0, 1) rfl) rfl ?_
    refine r_callIm hF (fun v24 m25 h H locs ls hH hS hl => run_V (y := yX3_readQuestion) hk (in_main 0 (by decide)) rfl rfl (c_X3_readQuestion (kl K) hk.2.2.2.2.2.2.2.2.2.2.2 X   m0 v24 m25 h) lk_X3_159 me_X3_readQuestion yf_X3_readQuestion (by decide) (by decide) rfl (Nat.le_of_ble_eq_true rfl) rfl (dtX3_ask_0 4 (8, .invokevirtual 159, 3) rfl) hH hS hl) (fun v24 m25 hF => ?_)
    refine r_if_eq hk 18 hF (dtX3_ask_0 5 (11, .ifCond .eq 7, 3) rfl) (by decide) (fun hF => ?_) (fun hF => ?_)
    · exact r_sub hk [0, 1] rfl (j18_23 m25 hF)
    · refine r_iconst (v := 1) hk (dtX3_ask_0 6 (14, .iconst 1, 1) rfl) (by decide) ?_
      refine r_goto hk 19 (dtX3_ask_0 7 (15, .goto 4, 3) rfl) (by decide) ?_
      exact r_sub hk [0, 1] rfl (j19_4 1 m25 hF)
set_option maxHeartbeats 4000000 in
set_option maxRecDepth 100000 in
theorem c_X3_bestLetter (l : Launch) (hlf : l.stackTraces = false) (X : XW)  (p1 : Int32) (m0 : Mem) (rv : Int32) (hF : F_X3_bestLetter p1 m0 = some rv) : MX X l yX3_bestLetter cX3_bestLetter 9 (some .int) 3 [.ref (xad X (0, 0, 0, 0)), .int p1] m0 (QI X rv m0) := by
  refine startI hlf (by decide +kernel) rfl [(0, .ref (xad X (0, 0, 0, 0))), (1, .int p1)] rfl (Nat.le_of_ble_eq_true rfl) (fun K hk hR => ?_)
  unfold F_X3_bestLetter at hF
  refine r_aload_n hk 0 (dtX3_bestLetter_0 0 (0, .aload_n 0, 1) rfl) rfl ?_
  refine r_getS hk fl_X3_30 hF (dtX3_bestLetter_0 1 (1, .getfield 30, 3) rfl) (fun q1 hq1 hF => ?_)
  refine r_getR hk (k := 0) (fsX1 X q1) cbX1 (by decide) fl_X3_49 (in_st q1 hq1 0 (by decide)) (fun _ => rfl) (fun _ _ => rfl) (dtX3_bestLetter_0 2 (4, .getfield 49, 3) rfl) ?_
  refine r_iload_n hk 1 (dtX3_bestLetter_0 3 (7, .iload_n 1, 1) rfl) rfl ?_
  refine r_aldT hk hq1 hF (dtX3_bestLetter_0 4 (8, .aaload, 1) rfl) (fun q2 hq2 hF => ?_)
  refine r_astore_n hk [(2, .ref (xad X (2, q1, q2, 0))), (0, .ref (xad X (0, 0, 0, 0))), (1, .int p1)] (dtX3_bestLetter_0 5 (9, .astore_n 2, 1) rfl) (by decide) rfl ?_
  refine r_iconst (v := (-1)) hk (dtX3_bestLetter_0 6 (10, .iconst (-1), 1) rfl) (by decide) ?_
  refine r_istore_n hk [(3, .int (-1)), (2, .ref (xad X (2, q1, q2, 0))), (0, .ref (xad X (0, 0, 0, 0))), (1, .int p1)] (dtX3_bestLetter_0 7 (11, .istore_n 3, 1) rfl) (by decide) rfl ?_
  refine r_aload_n hk 2 (dtX3_bestLetter_0 8 (12, .aload_n 0, 1) rfl) rfl ?_
  refine r_iload_n hk 3 (dtX3_bestLetter_0 9 (13, .iload_n 1, 1) rfl) rfl ?_
  refine r_aload_n hk 1 (dtX3_bestLetter_0 10 (14, .aload_n 2, 1) rfl) rfl ?_
  refine r_getI hk (k := 5) (fsX2 X q1 q2) cbX2 (by decide) fl_X3_106 (in_tn q1 hq1 q2 hq2 0 (by decide)) (fun _ => rfl) (fun _ _ => rfl) hF (dtX3_bestLetter_0 11 (15, .getfield 106, 3) rfl) (fun v3 hF => ?_)
  refine r_iconst (v := (-1)) hk (dtX3_bestLetter_0 12 (18, .iconst (-1), 1) rfl) (by decide) ?_
  refine r_callI hF (fun v4 h H locs ls hH hS hl => run_V (y := yX3_rowsToLookAt) hk (in_main 0 (by decide)) rfl rfl (c_X3_rowsToLookAt (kl K) hk.2.2.2.2.2.2.2.2.2.2.2 X  p1 v3 (-1) m0 v4 h) lk_X3_172 me_X3_rowsToLookAt yf_X3_rowsToLookAt (by decide) (by decide) rfl (Nat.le_of_ble_eq_true rfl) rfl (dtX3_bestLetter_0 13 (19, .invokevirtual 172, 3) rfl) hH hS hl) (fun v4 hF => ?_)
  refine r_istore hk [(4, .int v4), (3, .int (-1)), (2, .ref (xad X (2, q1, q2, 0))), (0, .ref (xad X (0, 0, 0, 0))), (1, .int p1)] (dtX3_bestLetter_0 14 (22, .istore 4, 2) rfl) (by decide) rfl ?_
  refine r_iconst (v := 0) hk (dtX3_bestLetter_0 15 (24, .iconst 0, 1) rfl) (by decide) ?_
  refine r_istore hk [(5, .int 0), (4, .int v4), (3, .int (-1)), (2, .ref (xad X (2, q1, q2, 0))), (0, .ref (xad X (0, 0, 0, 0))), (1, .int p1)] (dtX3_bestLetter_0 16 (25, .istore 5, 2) rfl) (by decide) rfl ?_
  have e123_6 : ∀ (v5 : Int32), C_X3_bestLetter_123 v5 = some rv → G X K 123 [(3, .int v5)] [] m0 := by
    intro v5 hF
    unfold C_X3_bestLetter_123 at hF
    refine r_iload_n hk 0 (dtX3_bestLetter_0 63 (123, .iload_n 3, 1) rfl) rfl ?_
    cases Option.some.inj hF
    exact hR _ _ (dtX3_bestLetter_1 0 (124, .ireturn, 1) rfl)
  have l11 : ∀ (n11 : Nat) (v7 : Int32) (v8 : Int32) (v9 : Int32), L_X3_bestLetter_27 p1 m0 q1 q2 n11 v7 v8 v9 = some rv → G X K 27 [(0, .ref (xad X (0, 0, 0, 0))), (1, .int p1), (2, .ref (xad X (2, q1, q2, 0))), (3, .int v7), (4, .int v8), (5, .int v9)] [] m0 := by
    intro n11
    induction n11 with
    | zero => intro v7 v8 v9 hF; exact nomatch (show (none : Option Int32) = some rv from hF)
    | succ n11 ih11 =>
      intro v7 v8 v9 hF
      rw [L_X3_bestLetter_27] at hF
      refine r_iload hk 5 (dtX3_bestLetter_0 17 (27, .iload 5, 2) rfl) rfl ?_
      refine r_aload_n hk 0 (dtX3_bestLetter_0 18 (29, .aload_n 0, 1) rfl) rfl ?_
      refine r_getR hk (k := 2) (fsX3 X) cbX3 (by decide) fl_X3_22 (in_main 0 (by decide)) (fun _ => rfl) (fun _ _ => rfl) (dtX3_bestLetter_0 19 (30, .getfield 22, 3) rfl) ?_
      refine r_getI hk (k := 3) (fsX0 X) cbX0 (by decide) fl_X3_287 (in_main 3 (by decide)) (fun _ => rfl) (fun _ _ => rfl) hF (dtX3_bestLetter_0 20 (33, .getfield 287, 3) rfl) (fun v12 hF => ?_)
      refine r_icmp_ge hk 123 hF (dtX3_bestLetter_0 21 (36, .if_icmp .ge 87, 3) rfl) (by decide) (fun hF => ?_) (fun hF => ?_)
      · exact r_sub hk [3] rfl (e123_6 v7 hF)
      · refine r_aload_n hk 0 (dtX3_bestLetter_0 22 (39, .aload_n 0, 1) rfl) rfl ?_
        refine r_getR hk (k := 2) (fsX3 X) cbX3 (by decide) fl_X3_22 (in_main 0 (by decide)) (fun _ => rfl) (fun _ _ => rfl) (dtX3_bestLetter_0 23 (40, .getfield 22, 3) rfl) ?_
        refine r_getR hk (k := 0) (fsX0 X) cbX0 (by decide) fl_X3_290 (in_main 3 (by decide)) (fun _ => rfl) (fun _ _ => rfl) (dtX3_bestLetter_0 24 (43, .getfield 290, 3) rfl) ?_
        refine r_iload hk 5 (dtX3_bestLetter_0 25 (46, .iload 5, 2) rfl) rfl ?_
        refine r_iald hk (in_main 5 (by decide)) (fun _ => rfl) hF (dtX3_bestLetter_0 26 (48, .iaload, 1) rfl) (fun v13 hF => ?_)
        refine r_istore hk [(6, .int v13), (0, .ref (xad X (0, 0, 0, 0))), (1, .int p1), (2, .ref (xad X (2, q1, q2, 0))), (3, .int v7), (4, .int v8), (5, .int v9)] (dtX3_bestLetter_0 27 (49, .istore 6, 2) rfl) (by decide) rfl ?_
        refine r_aload_n hk 3 (dtX3_bestLetter_0 28 (51, .aload_n 2, 1) rfl) rfl ?_
        refine r_iload hk 0 (dtX3_bestLetter_0 29 (52, .iload 6, 2) rfl) rfl ?_
        refine r_callI hF (fun v14 h H locs ls hH hS hl => run_V (y := yX2_columnOf) hk (in_tn q1 hq1 q2 hq2 0 (by decide)) rfl rfl (c_X2_columnOf (kl K) hk.2.2.2.2.2.2.2.2.2.2.2 X q1 hq1 q2 hq2 v13 m0 v14 h) lk_X3_67 me_X2_columnOf yf_X2_columnOf (by decide) (by decide) rfl (Nat.le_of_ble_eq_true rfl) rfl (dtX3_bestLetter_0 30 (54, .invokevirtual 67, 3) rfl) hH hS hl) (fun v14 hF => ?_)
        refine r_istore hk [(7, .int v14), (6, .int v13), (0, .ref (xad X (0, 0, 0, 0))), (1, .int p1), (2, .ref (xad X (2, q1, q2, 0))), (3, .int v7), (4, .int v8), (5, .int v9)] (dtX3_bestLetter_0 31 (57, .istore 7, 2) rfl) (by decide) rfl ?_
        refine r_aload_n hk 2 (dtX3_bestLetter_0 32 (59, .aload_n 0, 1) rfl) rfl ?_
        refine r_getR hk (k := 2) (fsX3 X) cbX3 (by decide) fl_X3_22 (in_main 0 (by decide)) (fun _ => rfl) (fun _ _ => rfl) (dtX3_bestLetter_0 33 (60, .getfield 22, 3) rfl) ?_
        refine r_getR hk (k := 1) (fsX0 X) cbX0 (by decide) fl_X3_298 (in_main 3 (by decide)) (fun _ => rfl) (fun _ _ => rfl) (dtX3_bestLetter_0 34 (63, .getfield 298, 3) rfl) ?_
        refine r_iload hk 7 (dtX3_bestLetter_0 35 (66, .iload 5, 2) rfl) rfl ?_
        refine r_iald hk (in_main 6 (by decide)) (fun _ => rfl) hF (dtX3_bestLetter_0 36 (68, .iaload, 1) rfl) (fun v15 hF => ?_)
        refine r_bipush (v := 61) hk (dtX3_bestLetter_0 37 (69, .bipush 61, 2) rfl) (by decide) ?_
        have j117_18 : ∀ (v16 : Int32) (v17 : Int32), (J_X3_bestLetter_117 v9 (fun w0 w1 w2 => L_X3_bestLetter_27 p1 m0 q1 q2 n11 w0 w1 w2)) v16 v17 = some rv → G X K 117 [(0, .ref (xad X (0, 0, 0, 0))), (1, .int p1), (2, .ref (xad X (2, q1, q2, 0))), (3, .int v16), (4, .int v17), (5, .int v9)] [] m0 := by
          intro v16 v17 hF
          unfold J_X3_bestLetter_117 at hF
          refine r_iinc hk 1 5 (fun v19 => [(5, .int v19), (0, .ref (xad X (0, 0, 0, 0))), (1, .int p1), (2, .ref (xad X (2, q1, q2, 0))), (3, .int v16), (4, .int v17)]) hF (dtX3_bestLetter_0 61 (117, .iinc 5 1, 3) rfl) rfl (by decide) (by decide) (fun _ => rfl) (fun v19 hF => ?_)
          refine r_goto hk 27 (dtX3_bestLetter_0 62 (120, .goto (-93), 3) rfl) (by decide) ?_
          exact r_sub hk [1, 2, 3, 4, 5, 0] rfl (ih11 v16 v17 v19 hF)
        refine r_icmp_ne hk 117 hF (dtX3_bestLetter_0 38 (71, .if_icmp .ne 46, 3) rfl) (by decide) (fun hF => ?_) (fun hF => ?_)
        · exact r_sub hk [2, 3, 4, 5, 6, 7] rfl (j117_18 v7 v8 hF)
        · refine r_iload hk 0 (dtX3_bestLetter_0 39 (74, .iload 7, 2) rfl) rfl ?_
          refine r_iconst (v := (-1)) hk (dtX3_bestLetter_0 40 (76, .iconst (-1), 1) rfl) (by decide) ?_
          refine r_icmp_eq hk 117 hF (dtX3_bestLetter_0 41 (77, .if_icmp .eq 40, 3) rfl) (by decide) (fun hF => ?_) (fun hF => ?_)
          · exact r_sub hk [2, 3, 4, 5, 6, 7] rfl (j117_18 v7 v8 hF)
          · refine r_aload_n hk 4 (dtX3_bestLetter_0 42 (80, .aload_n 2, 1) rfl) rfl ?_
            refine r_getR hk (k := 2) (fsX2 X q1 q2) cbX2 (by decide) fl_X3_92 (in_tn q1 hq1 q2 hq2 0 (by decide)) (fun _ => rfl) (fun _ _ => rfl) (dtX3_bestLetter_0 43 (81, .getfield 92, 3) rfl) ?_
            refine r_iload hk 0 (dtX3_bestLetter_0 44 (84, .iload 7, 2) rfl) rfl ?_
            refine r_zald hk (in_tn q1 hq1 q2 hq2 3 (by decide)) (fun _ => rfl) hF (dtX3_bestLetter_0 45 (86, .baload, 1) rfl) (fun v20 hF => ?_)
            refine r_if_ne hk 117 hF (dtX3_bestLetter_0 46 (87, .ifCond .ne 30, 3) rfl) (by decide) (fun hF => ?_) (fun hF => ?_)
            · exact r_sub hk [2, 3, 4, 5, 6, 7] rfl (j117_18 v7 v8 hF)
            · refine r_aload_n hk 2 (dtX3_bestLetter_0 47 (90, .aload_n 0, 1) rfl) rfl ?_
              refine r_iload_n hk 3 (dtX3_bestLetter_0 48 (91, .iload_n 1, 1) rfl) rfl ?_
              refine r_aload_n hk 4 (dtX3_bestLetter_0 49 (92, .aload_n 2, 1) rfl) rfl ?_
              refine r_getI hk (k := 5) (fsX2 X q1 q2) cbX2 (by decide) fl_X3_106 (in_tn q1 hq1 q2 hq2 0 (by decide)) (fun _ => rfl) (fun _ _ => rfl) hF (dtX3_bestLetter_0 50 (93, .getfield 106, 3) rfl) (fun v21 hF => ?_)
              refine r_iload hk 1 (dtX3_bestLetter_0 51 (96, .iload 6, 2) rfl) rfl ?_
              refine r_callI hF (fun v22 h H locs ls hH hS hl => run_V (y := yX3_rowsToLookAt) hk (in_main 0 (by decide)) rfl rfl (c_X3_rowsToLookAt (kl K) hk.2.2.2.2.2.2.2.2.2.2.2 X  p1 v21 v13 m0 v22 h) lk_X3_172 me_X3_rowsToLookAt yf_X3_rowsToLookAt (by decide) (by decide) rfl (Nat.le_of_ble_eq_true rfl) rfl (dtX3_bestLetter_0 52 (98, .invokevirtual 172, 3) rfl) hH hS hl) (fun v22 hF => ?_)
              refine r_istore hk [(8, .int v22), (7, .int v14), (6, .int v13), (0, .ref (xad X (0, 0, 0, 0))), (1, .int p1), (2, .ref (xad X (2, q1, q2, 0))), (3, .int v7), (4, .int v8), (5, .int v9)] (dtX3_bestLetter_0 53 (101, .istore 8, 2) rfl) (by decide) rfl ?_
              refine r_iload hk 0 (dtX3_bestLetter_0 54 (103, .iload 8, 2) rfl) rfl ?_
              refine r_iload hk 7 (dtX3_bestLetter_0 55 (105, .iload 4, 2) rfl) rfl ?_
              refine r_icmp_ge hk 117 hF (dtX3_bestLetter_0 56 (107, .if_icmp .ge 10, 3) rfl) (by decide) (fun hF => ?_) (fun hF => ?_)
              · exact r_sub hk [3, 4, 5, 6, 7, 8] rfl (j117_18 v7 v8 hF)
              · refine r_iload hk 0 (dtX3_bestLetter_0 57 (110, .iload 8, 2) rfl) rfl ?_
                refine r_istore hk [(4, .int v22), (8, .int v22), (7, .int v14), (6, .int v13), (0, .ref (xad X (0, 0, 0, 0))), (1, .int p1), (2, .ref (xad X (2, q1, q2, 0))), (3, .int v7), (5, .int v9)] (dtX3_bestLetter_0 58 (112, .istore 4, 2) rfl) (by decide) rfl ?_
                refine r_iload hk 3 (dtX3_bestLetter_0 59 (114, .iload 6, 2) rfl) rfl ?_
                refine r_istore_n hk [(3, .int v13), (4, .int v22), (8, .int v22), (7, .int v14), (6, .int v13), (0, .ref (xad X (0, 0, 0, 0))), (1, .int p1), (2, .ref (xad X (2, q1, q2, 0))), (5, .int v9)] (dtX3_bestLetter_0 60 (116, .istore_n 3, 1) rfl) (by decide) rfl ?_
                exact r_sub hk [5, 6, 7, 0, 1, 8] rfl (j117_18 v13 v22 hF)
  exact r_sub hk [4, 5, 3, 2, 1, 0] rfl (l11 fu (-1) v4 0 hF)
set_option maxHeartbeats 4000000 in
set_option maxRecDepth 100000 in
theorem c_X3_bestIndex (l : Launch) (hlf : l.stackTraces = false) (X : XW)  (p1 : Int32) (m0 : Mem) (rv : Int32 ⊕ Nat) (mE : Mem) (hF : F_X3_bestIndex p1 m0 = some (rv, mE)) : MT X l yX3_bestIndex cX3_bestIndex 2 (some .int) 8 [.ref (xad X (0, 0, 0, 0)), .int p1] m0 rv mE (QTI X rv mE) := by
  refine startTI hlf (by decide +kernel) rfl [(0, .ref (xad X (0, 0, 0, 0))), (1, .int p1)] rfl (Nat.le_of_ble_eq_true rfl) (fun K hk hR hX => ?_)
  unfold F_X3_bestIndex at hF
  refine r_iload_n hk 1 (dtX3_bestIndex_0 0 (0, .iload_n 1, 1) rfl) rfl ?_
  refine r_callI hF (fun v1 h H locs ls hH hS hl => run_S hk (c_X3_isTenant (kl K) hk.2.2.2.2.2.2.2.2.2.2.2 X  p1 m0 v1 h) lk_X3_34 me_X3_isTenant yf_X3_isTenant (by decide) (by decide) rfl (Nat.le_of_ble_eq_true rfl) rfl (dtX3_bestIndex_0 1 (1, .invokestatic 34, 3) rfl) hH hS hl) (fun v1 hF => ?_)
  refine r_callVts hk hF (fun c h => by cases Option.some.inj h; exact hX c rfl) (fun R h hf H locs ls hH hS hl => runT_S hk (c_X3_require (kl K) hk.2.2.2.2.2.2.2.2.2.2.2 X  v1 m0 R h) lk_X3_41 me_X3_require yf_X3_require (by decide) (by decide) rfl (Nat.le_of_ble_eq_true rfl) rfl (dtX3_bestIndex_0 2 (4, .invokestatic 41, 3) rfl) hf hH hS hl) (fun _ hF => ?_)
  refine r_aload_n hk 0 (dtX3_bestIndex_0 3 (7, .aload_n 0, 1) rfl) rfl ?_
  refine r_callIm hF (fun v2 m3 h H locs ls hH hS hl => run_V (y := yX3_readQuestion) hk (in_main 0 (by decide)) rfl rfl (c_X3_readQuestion (kl K) hk.2.2.2.2.2.2.2.2.2.2.2 X   m0 v2 m3 h) lk_X3_159 me_X3_readQuestion yf_X3_readQuestion (by decide) (by decide) rfl (Nat.le_of_ble_eq_true rfl) rfl (dtX3_bestIndex_0 4 (8, .invokevirtual 159, 3) rfl) hH hS hl) (fun v2 m3 hF => ?_)
  have j23_5 : ∀ (v4 : Int32), (J_X3_bestIndex_23 m3) v4 = some (rv, mE) → G X K 23 [] [.int v4] m3 := by
    intro v4 hF
    unfold J_X3_bestIndex_23 at hF
    cases Option.some.inj hF
    exact hR v4 rfl _ _ (dtX3_bestIndex_0 11 (23, .ireturn, 1) rfl)
  refine r_if_eq hk 22 hF (dtX3_bestIndex_0 5 (11, .ifCond .eq 11, 3) rfl) (by decide) (fun hF => ?_) (fun hF => ?_)
  · refine r_iconst (v := (-1)) hk (dtX3_bestIndex_0 10 (22, .iconst (-1), 1) rfl) (by decide) ?_
    exact r_sub hk [] rfl (j23_5 (-1) hF)
  · refine r_aload_n hk 0 (dtX3_bestIndex_0 6 (14, .aload_n 0, 1) rfl) rfl ?_
    refine r_iload_n hk 1 (dtX3_bestIndex_0 7 (15, .iload_n 1, 1) rfl) rfl ?_
    refine r_callI hF (fun v6 h H locs ls hH hS hl => run_V (y := yX3_bestLetter) hk (in_main 0 (by decide)) rfl rfl (c_X3_bestLetter (kl K) hk.2.2.2.2.2.2.2.2.2.2.2 X  p1 m3 v6 h) lk_X3_219 me_X3_bestLetter yf_X3_bestLetter (by decide) (by decide) rfl (Nat.le_of_ble_eq_true rfl) rfl (dtX3_bestIndex_0 8 (16, .invokevirtual 219, 3) rfl) hH hS hl) (fun v6 hF => ?_)
    refine r_goto hk 23 (dtX3_bestIndex_0 9 (19, .goto 4, 3) rfl) (by decide) ?_
    exact r_sub hk [] rfl (j23_5 v6 hF)
set_option maxHeartbeats 4000000 in
set_option maxRecDepth 100000 in
theorem c_X3_clearBuffer (l : Launch) (hlf : l.stackTraces = false) (X : XW)   (m0 : Mem) (rv : Int32) (mE : Mem) (hF : F_X3_clearBuffer m0 = some (rv, mE)) : MX X l yX3_clearBuffer cX3_clearBuffer 2 (some .int) 0 [.ref (xad X (0, 0, 0, 0))] m0 (QI X rv mE) := by
  refine startI hlf (by decide +kernel) rfl [(0, .ref (xad X (0, 0, 0, 0)))] rfl (Nat.le_of_ble_eq_true rfl) (fun K hk hR => ?_)
  unfold F_X3_clearBuffer at hF
  refine r_aload_n hk 0 (dtX3_clearBuffer_0 0 (0, .aload_n 0, 1) rfl) rfl ?_
  refine r_getI hk (k := 6) (fsX3 X) cbX3 (by decide) fl_X3_145 (in_main 0 (by decide)) (fun _ => rfl) (fun _ _ => rfl) hF (dtX3_clearBuffer_0 1 (1, .getfield 145, 3) rfl) (fun v1 hF => ?_)
  refine r_istore_n hk [(1, .int v1), (0, .ref (xad X (0, 0, 0, 0)))] (dtX3_clearBuffer_0 2 (4, .istore_n 1, 1) rfl) (by decide) rfl ?_
  refine r_aload_n hk 1 (dtX3_clearBuffer_0 3 (5, .aload_n 0, 1) rfl) rfl ?_
  refine r_iconst (v := 0) hk (dtX3_clearBuffer_0 4 (6, .iconst 0, 1) rfl) (by decide) ?_
  refine r_putI hk (k := 6) (fsX3 X) cbX3 (by decide) fl_X3_145 (in_main 0 (by decide)) (fun _ => rfl) rfl rfl (fun _ _ _ => rfl) (fun _ _ => (by decide : 6 < 7)) hF (dtX3_clearBuffer_0 5 (7, .putfield 145, 3) rfl) (fun m2 hF => ?_)
  refine r_iload_n hk 0 (dtX3_clearBuffer_0 6 (10, .iload_n 1, 1) rfl) rfl ?_
  cases Option.some.inj hF
  exact hR _ _ (dtX3_clearBuffer_0 7 (11, .ireturn, 1) rfl)
set_option maxHeartbeats 4000000 in
set_option maxRecDepth 100000 in
theorem c_X2_refuse (l : Launch) (hlf : l.stackTraces = false) (X : XW) (i0 : Nat) (hi0 : i0 < 7) (j0 : Nat) (hj0 : j0 < 3) (p1 : Int32) (m0 : Mem) (rv : Int32) (mE : Mem) (hF : F_X2_refuse i0 j0 p1 m0 = some (rv, mE)) : MX X l yX2_refuse cX2_refuse 2 (some .int) 0 [.ref (xad X (2, i0, j0, 0)), .int p1] m0 (QI X rv mE) := by
  refine startI hlf (by decide +kernel) rfl [(0, .ref (xad X (2, i0, j0, 0))), (1, .int p1)] rfl (Nat.le_of_ble_eq_true rfl) (fun K hk hR => ?_)
  unfold F_X2_refuse at hF
  refine r_aload_n hk 0 (dtX2_refuse_0 0 (0, .aload_n 0, 1) rfl) rfl ?_
  refine r_dup hk (dtX2_refuse_0 1 (1, .dup, 1) rfl) rfl ?_
  refine r_getI hk (k := 9) (fsX2 X i0 j0) cbX2 (by decide) fl_X2_46 (in_tn i0 hi0 j0 hj0 0 (by decide)) (fun _ => rfl) (fun _ _ => rfl) hF (dtX2_refuse_0 2 (2, .getfield 46, 3) rfl) (fun v1 hF => ?_)
  refine r_iconst (v := 1) hk (dtX2_refuse_0 3 (5, .iconst 1, 1) rfl) (by decide) ?_
  refine r_iadd hk hF (dtX2_refuse_0 4 (6, .iadd, 1) rfl) (fun v2 hF => ?_)
  refine r_putI hk (k := 9) (fsX2 X i0 j0) cbX2 (by decide) fl_X2_46 (in_tn i0 hi0 j0 hj0 0 (by decide)) (fun _ => rfl) rfl rfl (fun _ _ _ => rfl) (fun _ _ => (by decide : 9 < 10)) hF (dtX2_refuse_0 5 (7, .putfield 46, 3) rfl) (fun m3 hF => ?_)
  refine r_iload_n hk 1 (dtX2_refuse_0 6 (10, .iload_n 1, 1) rfl) rfl ?_
  refine r_ineg hk hF (dtX2_refuse_0 7 (11, .ineg, 1) rfl) (fun v4 hF => ?_)
  refine r_iconst (v := 1) hk (dtX2_refuse_0 8 (12, .iconst 1, 1) rfl) (by decide) ?_
  refine r_isub hk hF (dtX2_refuse_0 9 (13, .isub, 1) rfl) (fun v5 hF => ?_)
  cases Option.some.inj hF
  exact hR _ _ (dtX2_refuse_0 10 (14, .ireturn, 1) rfl)
set_option maxHeartbeats 4000000 in
set_option maxRecDepth 100000 in
theorem c_X3_mean (l : Launch) (hlf : l.stackTraces = false) (X : XW)  (p1 : Int32) (p2 : Int32) (p3 : Int32) (m0 : Mem) (rv : Int32 ⊕ Nat) (mE : Mem) (hF : F_X3_mean p1 p2 p3 m0 = some (rv, mE)) : MT X l yX3_mean cX3_mean 6 (some .int) 8 [.ref (xad X (0, 0, 0, 0)), .int p1, .int p2, .int p3] m0 rv mE (QTI X rv mE) := by
  refine startTI hlf (by decide +kernel) rfl [(0, .ref (xad X (0, 0, 0, 0))), (1, .int p1), (2, .int p2), (3, .int p3)] rfl (Nat.le_of_ble_eq_true rfl) (fun K hk hR hX => ?_)
  unfold F_X3_mean at hF
  refine r_iload_n hk 1 (dtX3_mean_0 0 (0, .iload_n 1, 1) rfl) rfl ?_
  refine r_callI hF (fun v1 h H locs ls hH hS hl => run_S hk (c_X3_isTenant (kl K) hk.2.2.2.2.2.2.2.2.2.2.2 X  p1 m0 v1 h) lk_X3_34 me_X3_isTenant yf_X3_isTenant (by decide) (by decide) rfl (Nat.le_of_ble_eq_true rfl) rfl (dtX3_mean_0 1 (1, .invokestatic 34, 3) rfl) hH hS hl) (fun v1 hF => ?_)
  have j28_3 : ∀ (v2 : Int32), (J_X3_mean_28 p1 p2 p3 m0) v2 = some (rv, mE) → G X K 28 [(0, .ref (xad X (0, 0, 0, 0))), (1, .int p1), (2, .int p2), (3, .int p3)] [.int v2] m0 := by
    intro v2 hF
    unfold J_X3_mean_28 at hF
    refine r_callVts hk hF (fun c h => by cases Option.some.inj h; exact hX c rfl) (fun R h hf H locs ls hH hS hl => runT_S hk (c_X3_require (kl K) hk.2.2.2.2.2.2.2.2.2.2.2 X  v2 m0 R h) lk_X3_41 me_X3_require yf_X3_require (by decide) (by decide) rfl (Nat.le_of_ble_eq_true rfl) rfl (dtX3_mean_0 14 (28, .invokestatic 41, 3) rfl) hf hH hS hl) (fun _ hF => ?_)
    refine r_aload_n hk 0 (dtX3_mean_0 15 (31, .aload_n 0, 1) rfl) rfl ?_
    refine r_callRm (fun q => xad X (1, q, 0, 0)) hF (fun q4 m5 h H locs ls hH hS hl => run_V (y := yX3_save) hk (in_main 0 (by decide)) rfl rfl (c_X3_save (kl K) hk.2.2.2.2.2.2.2.2.2.2.2 X   m0 q4 m5 h) lk_X3_45 me_X3_save yf_X3_save (by decide) (by decide) rfl (Nat.le_of_ble_eq_true rfl) rfl (dtX3_mean_0 16 (32, .invokevirtual 45, 3) rfl) hH hS hl) (fun q4 m5 _ hF => ?_)
    obtain ⟨hq4, hF⟩ := bp_some hF
    refine r_pop hk (dtX3_mean_0 17 (35, .pop, 1) rfl) rfl ?_
    refine r_aload_n hk 0 (dtX3_mean_0 18 (36, .aload_n 0, 1) rfl) rfl ?_
    refine r_getS hk fl_X3_30 hF (dtX3_mean_0 19 (37, .getfield 30, 3) rfl) (fun q6 hq6 hF => ?_)
    refine r_getR hk (k := 0) (fsX1 X q6) cbX1 (by decide) fl_X3_49 (in_st q6 hq6 0 (by decide)) (fun _ => rfl) (fun _ _ => rfl) (dtX3_mean_0 20 (40, .getfield 49, 3) rfl) ?_
    refine r_iload_n hk 1 (dtX3_mean_0 21 (43, .iload_n 1, 1) rfl) rfl ?_
    refine r_aldT hk hq6 hF (dtX3_mean_0 22 (44, .aaload, 1) rfl) (fun q7 hq7 hF => ?_)
    refine r_astore hk [(4, .ref (xad X (2, q6, q7, 0))), (0, .ref (xad X (0, 0, 0, 0))), (1, .int p1), (2, .int p2), (3, .int p3)] (dtX3_mean_0 23 (45, .astore 4, 2) rfl) (by decide) rfl ?_
    refine r_aload hk 0 (dtX3_mean_0 24 (47, .aload 4, 2) rfl) rfl ?_
    refine r_callI hF (fun v8 h H locs ls hH hS hl => run_V (y := yX2_meanings) hk (in_tn q6 hq6 q7 hq7 0 (by decide)) rfl rfl (c_X2_meanings (kl K) hk.2.2.2.2.2.2.2.2.2.2.2 X q6 hq6 q7 hq7  m5 v8 h) lk_X3_53 me_X2_meanings yf_X2_meanings (by decide) (by decide) rfl (Nat.le_of_ble_eq_true rfl) rfl (dtX3_mean_0 25 (49, .invokevirtual 53, 3) rfl) hH hS hl) (fun v8 hF => ?_)
    refine r_aload hk 0 (dtX3_mean_0 26 (52, .aload 4, 2) rfl) rfl ?_
    refine r_getI hk (k := 4) (fsX2 X q6 q7) cbX2 (by decide) fl_X3_59 (in_tn q6 hq6 q7 hq7 0 (by decide)) (fun _ => rfl) (fun _ _ => rfl) hF (dtX3_mean_0 27 (54, .getfield 59, 3) rfl) (fun v9 hF => ?_)
    refine r_icmp_lt hk 67 hF (dtX3_mean_0 28 (57, .if_icmp .lt 10, 3) rfl) (by decide) (fun hF => ?_) (fun hF => ?_)
    · refine r_aload hk 0 (dtX3_mean_0 33 (67, .aload 4, 2) rfl) rfl ?_
      refine r_iload_n hk 3 (dtX3_mean_0 34 (69, .iload_n 2, 1) rfl) rfl ?_
      refine r_callI hF (fun v10 h H locs ls hH hS hl => run_V (y := yX2_columnOf) hk (in_tn q6 hq6 q7 hq7 0 (by decide)) rfl rfl (c_X2_columnOf (kl K) hk.2.2.2.2.2.2.2.2.2.2.2 X q6 hq6 q7 hq7 p2 m5 v10 h) lk_X3_67 me_X2_columnOf yf_X2_columnOf (by decide) (by decide) rfl (Nat.le_of_ble_eq_true rfl) rfl (dtX3_mean_0 35 (70, .invokevirtual 67, 3) rfl) hH hS hl) (fun v10 hF => ?_)
      refine r_iconst (v := (-1)) hk (dtX3_mean_0 36 (73, .iconst (-1), 1) rfl) (by decide) ?_
      refine r_icmp_eq hk 84 hF (dtX3_mean_0 37 (74, .if_icmp .eq 10, 3) rfl) (by decide) (fun hF => ?_) (fun hF => ?_)
      · refine r_aload hk 0 (dtX3_mean_0 42 (84, .aload 4, 2) rfl) rfl ?_
        refine r_iconst (v := (-1)) hk (dtX3_mean_0 43 (86, .iconst (-1), 1) rfl) (by decide) ?_
        refine r_callI hF (fun v11 h H locs ls hH hS hl => run_V (y := yX2_columnOf) hk (in_tn q6 hq6 q7 hq7 0 (by decide)) rfl rfl (c_X2_columnOf (kl K) hk.2.2.2.2.2.2.2.2.2.2.2 X q6 hq6 q7 hq7 (-1) m5 v11 h) lk_X3_67 me_X2_columnOf yf_X2_columnOf (by decide) (by decide) rfl (Nat.le_of_ble_eq_true rfl) rfl (dtX3_mean_0 44 (87, .invokevirtual 67, 3) rfl) hH hS hl) (fun v11 hF => ?_)
        refine r_istore hk [(5, .int v11), (4, .ref (xad X (2, q6, q7, 0))), (0, .ref (xad X (0, 0, 0, 0))), (1, .int p1), (2, .int p2), (3, .int p3)] (dtX3_mean_0 45 (90, .istore 5, 2) rfl) (by decide) rfl ?_
        refine r_iload hk 0 (dtX3_mean_0 46 (92, .iload 5, 2) rfl) rfl ?_
        refine r_iconst (v := (-1)) hk (dtX3_mean_0 47 (94, .iconst (-1), 1) rfl) (by decide) ?_
        refine r_icmp_ne hk 105 hF (dtX3_mean_0 48 (95, .if_icmp .ne 10, 3) rfl) (by decide) (fun hF => ?_) (fun hF => ?_)
        · refine r_aload hk 1 (dtX3_mean_0 53 (105, .aload 4, 2) rfl) rfl ?_
          refine r_iload hk 0 (dtX3_mean_0 54 (107, .iload 5, 2) rfl) rfl ?_
          refine r_iload_n hk 4 (dtX3_mean_0 55 (109, .iload_n 2, 1) rfl) rfl ?_
          refine r_iload_n hk 5 (dtX3_mean_0 56 (110, .iload_n 3, 1) rfl) rfl ?_
          refine r_iconst (v := 0) hk (dtX3_mean_0 57 (111, .iconst 0, 1) rfl) (by decide) ?_
          refine r_callVm hF (fun w m12 h H locs ls hH hS hl => run_V (y := yX2_define) hk (in_tn q6 hq6 q7 hq7 0 (by decide)) rfl rfl (c_X2_define (kl K) hk.2.2.2.2.2.2.2.2.2.2.2 X q6 hq6 q7 hq7 v11 p2 p3 0 m5 w m12 h) lk_X3_70 me_X2_define yf_X2_define (by decide) (by decide) rfl (Nat.le_of_ble_eq_true rfl) rfl (dtX3_mean_0 58 (112, .invokevirtual 70, 3) rfl) hH hS hl) (fun _ m12 hF => ?_)
          refine r_iload hk 0 (dtX3_mean_0 59 (115, .iload 5, 2) rfl) rfl ?_
          cases Option.some.inj hF
          exact hR v11 rfl _ _ (dtX3_mean_0 60 (117, .ireturn, 1) rfl)
        · refine r_aload hk 1 (dtX3_mean_0 49 (98, .aload 4, 2) rfl) rfl ?_
          refine r_iconst (v := 4) hk (dtX3_mean_0 50 (100, .iconst 4, 1) rfl) (by decide) ?_
          refine r_callIm hF (fun v13 m14 h H locs ls hH hS hl => run_V (y := yX2_refuse) hk (in_tn q6 hq6 q7 hq7 0 (by decide)) rfl rfl (c_X2_refuse (kl K) hk.2.2.2.2.2.2.2.2.2.2.2 X q6 hq6 q7 hq7 4 m5 v13 m14 h) lk_X3_63 me_X2_refuse yf_X2_refuse (by decide) (by decide) rfl (Nat.le_of_ble_eq_true rfl) rfl (dtX3_mean_0 51 (101, .invokevirtual 63, 3) rfl) hH hS hl) (fun v13 m14 hF => ?_)
          cases Option.some.inj hF
          exact hR v13 rfl _ _ (dtX3_mean_0 52 (104, .ireturn, 1) rfl)
      · refine r_aload hk 0 (dtX3_mean_0 38 (77, .aload 4, 2) rfl) rfl ?_
        refine r_iconst (v := 3) hk (dtX3_mean_0 39 (79, .iconst 3, 1) rfl) (by decide) ?_
        refine r_callIm hF (fun v15 m16 h H locs ls hH hS hl => run_V (y := yX2_refuse) hk (in_tn q6 hq6 q7 hq7 0 (by decide)) rfl rfl (c_X2_refuse (kl K) hk.2.2.2.2.2.2.2.2.2.2.2 X q6 hq6 q7 hq7 3 m5 v15 m16 h) lk_X3_63 me_X2_refuse yf_X2_refuse (by decide) (by decide) rfl (Nat.le_of_ble_eq_true rfl) rfl (dtX3_mean_0 40 (80, .invokevirtual 63, 3) rfl) hH hS hl) (fun v15 m16 hF => ?_)
        cases Option.some.inj hF
        exact hR v15 rfl _ _ (dtX3_mean_0 41 (83, .ireturn, 1) rfl)
    · refine r_aload hk 0 (dtX3_mean_0 29 (60, .aload 4, 2) rfl) rfl ?_
      refine r_iconst (v := 1) hk (dtX3_mean_0 30 (62, .iconst 1, 1) rfl) (by decide) ?_
      refine r_callIm hF (fun v17 m18 h H locs ls hH hS hl => run_V (y := yX2_refuse) hk (in_tn q6 hq6 q7 hq7 0 (by decide)) rfl rfl (c_X2_refuse (kl K) hk.2.2.2.2.2.2.2.2.2.2.2 X q6 hq6 q7 hq7 1 m5 v17 m18 h) lk_X3_63 me_X2_refuse yf_X2_refuse (by decide) (by decide) rfl (Nat.le_of_ble_eq_true rfl) rfl (dtX3_mean_0 31 (63, .invokevirtual 63, 3) rfl) hH hS hl) (fun v17 m18 hF => ?_)
      cases Option.some.inj hF
      exact hR v17 rfl _ _ (dtX3_mean_0 32 (66, .ireturn, 1) rfl)
  have j27_19 : (J_X3_mean_27 p1 p2 p3 m0) = some (rv, mE) → G X K 27 [(0, .ref (xad X (0, 0, 0, 0))), (1, .int p1), (2, .int p2), (3, .int p3)] [] m0 := by
    intro hF
    unfold J_X3_mean_27 at hF
    refine r_iconst (v := 0) hk (dtX3_mean_0 13 (27, .iconst 0, 1) rfl) (by decide) ?_
    exact r_sub hk [0, 1, 2, 3] rfl (j28_3 0 hF)
  refine r_if_eq hk 27 hF (dtX3_mean_0 2 (4, .ifCond .eq 23, 3) rfl) (by decide) (fun hF => ?_) (fun hF => ?_)
  · exact r_sub hk [0, 1, 2, 3] rfl (j27_19 hF)
  · refine r_iload_n hk 2 (dtX3_mean_0 3 (7, .iload_n 2, 1) rfl) rfl ?_
    refine r_callI hF (fun v20 h H locs ls hH hS hl => run_S hk (c_X3_isLetter (kl K) hk.2.2.2.2.2.2.2.2.2.2.2 X  p2 m0 v20 h) lk_X3_38 me_X3_isLetter yf_X3_isLetter (by decide) (by decide) rfl (Nat.le_of_ble_eq_true rfl) rfl (dtX3_mean_0 4 (8, .invokestatic 38, 3) rfl) hH hS hl) (fun v20 hF => ?_)
    refine r_if_eq hk 27 hF (dtX3_mean_0 5 (11, .ifCond .eq 16, 3) rfl) (by decide) (fun hF => ?_) (fun hF => ?_)
    · exact r_sub hk [0, 1, 2, 3] rfl (j27_19 hF)
    · refine r_iload_n hk 3 (dtX3_mean_0 6 (14, .iload_n 3, 1) rfl) rfl ?_
      refine r_if_lt hk 27 hF (dtX3_mean_0 7 (15, .ifCond .lt 12, 3) rfl) (by decide) (fun hF => ?_) (fun hF => ?_)
      · exact r_sub hk [0, 1, 2, 3] rfl (j27_19 hF)
      · refine r_iload_n hk 3 (dtX3_mean_0 8 (18, .iload_n 3, 1) rfl) rfl ?_
        refine r_iconst (v := 2) hk (dtX3_mean_0 9 (19, .iconst 2, 1) rfl) (by decide) ?_
        refine r_icmp_gt hk 27 hF (dtX3_mean_0 10 (20, .if_icmp .gt 7, 3) rfl) (by decide) (fun hF => ?_) (fun hF => ?_)
        · exact r_sub hk [0, 1, 2, 3] rfl (j27_19 hF)
        · refine r_iconst (v := 1) hk (dtX3_mean_0 11 (23, .iconst 1, 1) rfl) (by decide) ?_
          refine r_goto hk 28 (dtX3_mean_0 12 (24, .goto 4, 3) rfl) (by decide) ?_
          exact r_sub hk [0, 1, 2, 3] rfl (j28_3 1 hF)
set_option maxHeartbeats 4000000 in
set_option maxRecDepth 100000 in
theorem c_X1_setValue (l : Launch) (hlf : l.stackTraces = false) (X : XW) (i0 : Nat) (hi0 : i0 < 7) (p1 : Int32) (p2 : Int32) (p3 : Int32) (m0 : Mem) (rv : Unit) (mE : Mem) (hF : F_X1_setValue i0 p1 p2 p3 m0 = some (rv, mE)) : MX X l yX1_setValue cX1_setValue 4 none 0 [.ref (xad X (1, i0, 0, 0)), .int p1, .int p2, .int p3] m0 (QV X mE) := by
  refine startV hlf (by decide +kernel) rfl [(0, .ref (xad X (1, i0, 0, 0))), (1, .int p1), (2, .int p2), (3, .int p3)] rfl (Nat.le_of_ble_eq_true rfl) (fun K hk hR => ?_)
  unfold F_X1_setValue at hF
  refine r_iload_n hk 1 (dtX1_setValue_0 0 (0, .iload_n 1, 1) rfl) rfl ?_
  have j34_2 : ∀ (m1 : Mem), J_X1_setValue_34 m1 = some (rv, mE) → G X K 34 [] [] m1 := by
    intro m1 hF
    unfold J_X1_setValue_34 at hF
    cases Option.some.inj hF
    exact hR _ _ (dtX1_setValue_0 20 (34, .return_, 1) rfl)
  refine r_if_lt hk 34 hF (dtX1_setValue_0 1 (1, .ifCond .lt 33, 3) rfl) (by decide) (fun hF => ?_) (fun hF => ?_)
  · exact r_sub hk [] rfl (j34_2 m0 hF)
  · refine r_iload_n hk 1 (dtX1_setValue_0 2 (4, .iload_n 1, 1) rfl) rfl ?_
    refine r_aload_n hk 0 (dtX1_setValue_0 3 (5, .aload_n 0, 1) rfl) rfl ?_
    refine r_getI hk (k := 3) (fsX1 X i0) cbX1 (by decide) fl_X1_29 (in_st i0 hi0 0 (by decide)) (fun _ => rfl) (fun _ _ => rfl) hF (dtX1_setValue_0 4 (6, .getfield 29, 3) rfl) (fun v3 hF => ?_)
    refine r_icmp_ge hk 34 hF (dtX1_setValue_0 5 (9, .if_icmp .ge 25, 3) rfl) (by decide) (fun hF => ?_) (fun hF => ?_)
    · exact r_sub hk [] rfl (j34_2 m0 hF)
    · refine r_iload_n hk 2 (dtX1_setValue_0 6 (12, .iload_n 2, 1) rfl) rfl ?_
      refine r_if_lt hk 34 hF (dtX1_setValue_0 7 (13, .ifCond .lt 21, 3) rfl) (by decide) (fun hF => ?_) (fun hF => ?_)
      · exact r_sub hk [] rfl (j34_2 m0 hF)
      · refine r_iload_n hk 2 (dtX1_setValue_0 8 (16, .iload_n 2, 1) rfl) rfl ?_
        refine r_bipush (v := 8) hk (dtX1_setValue_0 9 (17, .bipush 8, 2) rfl) (by decide) ?_
        refine r_icmp_ge hk 34 hF (dtX1_setValue_0 10 (19, .if_icmp .ge 15, 3) rfl) (by decide) (fun hF => ?_) (fun hF => ?_)
        · exact r_sub hk [] rfl (j34_2 m0 hF)
        · refine r_aload_n hk 0 (dtX1_setValue_0 11 (22, .aload_n 0, 1) rfl) rfl ?_
          refine r_getR hk (k := 2) (fsX1 X i0) cbX1 (by decide) fl_X1_21 (in_st i0 hi0 0 (by decide)) (fun _ => rfl) (fun _ _ => rfl) (dtX1_setValue_0 12 (23, .getfield 21, 3) rfl) ?_
          refine r_iload_n hk 1 (dtX1_setValue_0 13 (26, .iload_n 1, 1) rfl) rfl ?_
          refine r_bipush (v := 8) hk (dtX1_setValue_0 14 (27, .bipush 8, 2) rfl) (by decide) ?_
          refine r_imul hk hF (dtX1_setValue_0 15 (29, .imul, 1) rfl) (fun v4 hF => ?_)
          refine r_iload_n hk 2 (dtX1_setValue_0 16 (30, .iload_n 2, 1) rfl) rfl ?_
          refine r_iadd hk hF (dtX1_setValue_0 17 (31, .iadd, 1) rfl) (fun v5 hF => ?_)
          refine r_iload_n hk 3 (dtX1_setValue_0 18 (32, .iload_n 3, 1) rfl) rfl ?_
          refine r_iast hk (in_st i0 hi0 3 (by decide)) (fun _ => rfl) hF (dtX1_setValue_0 19 (33, .iastore, 1) rfl) (fun m6 hF => ?_)
          exact r_sub hk [] rfl (j34_2 m6 hF)
set_option maxHeartbeats 4000000 in
set_option maxRecDepth 100000 in
theorem c_X1_shiftValues (l : Launch) (hlf : l.stackTraces = false) (X : XW) (i0 : Nat) (hi0 : i0 < 7) (p1 : Int32) (p2 : Int32) (p3 : Int32) (m0 : Mem) (rv : Unit) (mE : Mem) (hF : F_X1_shiftValues i0 p1 p2 p3 m0 = some (rv, mE)) : MX X l yX1_shiftValues cX1_shiftValues 5 none 1 [.ref (xad X (1, i0, 0, 0)), .int p1, .int p2, .int p3] m0 (QV X mE) := by
  refine startV hlf (by decide +kernel) rfl [(0, .ref (xad X (1, i0, 0, 0))), (1, .int p1), (2, .int p2), (3, .int p3)] rfl (Nat.le_of_ble_eq_true rfl) (fun K hk hR => ?_)
  unfold F_X1_shiftValues at hF
  refine r_iconst (v := 0) hk (dtX1_shiftValues_0 0 (0, .iconst 0, 1) rfl) (by decide) ?_
  refine r_istore hk [(4, .int 0), (0, .ref (xad X (1, i0, 0, 0))), (1, .int p1), (2, .int p2), (3, .int p3)] (dtX1_shiftValues_0 1 (1, .istore 4, 2) rfl) (by decide) rfl ?_
  have e52_2 : ∀ (m1 : Mem), C_X1_shiftValues_52 m1 = some (rv, mE) → G X K 52 [] [] m1 := by
    intro m1 hF
    unfold C_X1_shiftValues_52 at hF
    cases Option.some.inj hF
    exact hR _ _ (dtX1_shiftValues_0 27 (52, .return_, 1) rfl)
  have l6 : ∀ (n6 : Nat) (v3 : Int32) (m4 : Mem), L_X1_shiftValues_3 i0 p1 p2 p3 n6 v3 m4 = some (rv, mE) → G X K 3 [(0, .ref (xad X (1, i0, 0, 0))), (1, .int p1), (2, .int p2), (3, .int p3), (4, .int v3)] [] m4 := by
    intro n6
    induction n6 with
    | zero => intro v3 m4 hF; exact nomatch (show (none : Option (Unit × Mem)) = some (rv, mE) from hF)
    | succ n6 ih6 =>
      intro v3 m4 hF
      rw [L_X1_shiftValues_3] at hF
      refine r_iload hk 4 (dtX1_shiftValues_0 2 (3, .iload 4, 2) rfl) rfl ?_
      refine r_aload_n hk 0 (dtX1_shiftValues_0 3 (5, .aload_n 0, 1) rfl) rfl ?_
      refine r_getI hk (k := 3) (fsX1 X i0) cbX1 (by decide) fl_X1_29 (in_st i0 hi0 0 (by decide)) (fun _ => rfl) (fun _ _ => rfl) hF (dtX1_shiftValues_0 4 (6, .getfield 29, 3) rfl) (fun v7 hF => ?_)
      refine r_icmp_ge hk 52 hF (dtX1_shiftValues_0 5 (9, .if_icmp .ge 43, 3) rfl) (by decide) (fun hF => ?_) (fun hF => ?_)
      · exact r_sub hk [] rfl (e52_2 m4 hF)
      · refine r_aload_n hk 0 (dtX1_shiftValues_0 6 (12, .aload_n 0, 1) rfl) rfl ?_
        refine r_getR hk (k := 1) (fsX1 X i0) cbX1 (by decide) fl_X1_17 (in_st i0 hi0 0 (by decide)) (fun _ => rfl) (fun _ _ => rfl) (dtX1_shiftValues_0 7 (13, .getfield 17, 3) rfl) ?_
        refine r_iload hk 4 (dtX1_shiftValues_0 8 (16, .iload 4, 2) rfl) rfl ?_
        refine r_iald hk (in_st i0 hi0 2 (by decide)) (fun _ => rfl) hF (dtX1_shiftValues_0 9 (18, .iaload, 1) rfl) (fun v8 hF => ?_)
        refine r_iload_n hk 1 (dtX1_shiftValues_0 10 (19, .iload_n 1, 1) rfl) rfl ?_
        have j46_10 : ∀ (m9 : Mem), (J_X1_shiftValues_46 v3 (fun w0 w1 => L_X1_shiftValues_3 i0 p1 p2 p3 n6 w0 w1)) m9 = some (rv, mE) → G X K 46 [(0, .ref (xad X (1, i0, 0, 0))), (1, .int p1), (2, .int p2), (3, .int p3), (4, .int v3)] [] m9 := by
          intro m9 hF
          unfold J_X1_shiftValues_46 at hF
          refine r_iinc hk 1 4 (fun v11 => [(4, .int v11), (0, .ref (xad X (1, i0, 0, 0))), (1, .int p1), (2, .int p2), (3, .int p3)]) hF (dtX1_shiftValues_0 25 (46, .iinc 4 1, 3) rfl) rfl (by decide) (by decide) (fun _ => rfl) (fun v11 hF => ?_)
          refine r_goto hk 3 (dtX1_shiftValues_0 26 (49, .goto (-46), 3) rfl) (by decide) ?_
          exact r_sub hk [1, 2, 3, 4, 0] rfl (ih6 v11 m9 hF)
        refine r_icmp_ne hk 46 hF (dtX1_shiftValues_0 11 (20, .if_icmp .ne 26, 3) rfl) (by decide) (fun hF => ?_) (fun hF => ?_)
        · exact r_sub hk [0, 1, 2, 3, 4] rfl (j46_10 m4 hF)
        · refine r_aload_n hk 0 (dtX1_shiftValues_0 12 (23, .aload_n 0, 1) rfl) rfl ?_
          refine r_iload hk 4 (dtX1_shiftValues_0 13 (24, .iload 4, 2) rfl) rfl ?_
          refine r_iload_n hk 3 (dtX1_shiftValues_0 14 (26, .iload_n 3, 1) rfl) rfl ?_
          refine r_aload_n hk 0 (dtX1_shiftValues_0 15 (27, .aload_n 0, 1) rfl) rfl ?_
          refine r_iload hk 4 (dtX1_shiftValues_0 16 (28, .iload 4, 2) rfl) rfl ?_
          refine r_iload_n hk 2 (dtX1_shiftValues_0 17 (30, .iload_n 2, 1) rfl) rfl ?_
          refine r_callI hF (fun v12 h H locs ls hH hS hl => run_V (y := yX1_valueAt) hk (in_st i0 hi0 0 (by decide)) rfl rfl (c_X1_valueAt (kl K) hk.2.2.2.2.2.2.2.2.2.2.2 X i0 hi0 v3 p2 m4 v12 h) lk_X1_40 me_X1_valueAt yf_X1_valueAt (by decide) (by decide) rfl (Nat.le_of_ble_eq_true rfl) rfl (dtX1_shiftValues_0 18 (31, .invokevirtual 40, 3) rfl) hH hS hl) (fun v12 hF => ?_)
          refine r_callVm hF (fun w m13 h H locs ls hH hS hl => run_V (y := yX1_setValue) hk (in_st i0 hi0 0 (by decide)) rfl rfl (c_X1_setValue (kl K) hk.2.2.2.2.2.2.2.2.2.2.2 X i0 hi0 v3 p3 v12 m4 w m13 h) lk_X1_44 me_X1_setValue yf_X1_setValue (by decide) (by decide) rfl (Nat.le_of_ble_eq_true rfl) rfl (dtX1_shiftValues_0 19 (34, .invokevirtual 44, 3) rfl) hH hS hl) (fun _ m13 hF => ?_)
          refine r_aload_n hk 0 (dtX1_shiftValues_0 20 (37, .aload_n 0, 1) rfl) rfl ?_
          refine r_iload hk 4 (dtX1_shiftValues_0 21 (38, .iload 4, 2) rfl) rfl ?_
          refine r_iload_n hk 2 (dtX1_shiftValues_0 22 (40, .iload_n 2, 1) rfl) rfl ?_
          refine r_ldc hk cn_X1_39 (dtX1_shiftValues_0 23 (41, .ldc 39, 2) rfl) ?_
          refine r_callVm hF (fun w m14 h H locs ls hH hS hl => run_V (y := yX1_setValue) hk (in_st i0 hi0 0 (by decide)) rfl rfl (c_X1_setValue (kl K) hk.2.2.2.2.2.2.2.2.2.2.2 X i0 hi0 v3 p2 (-1000000) m13 w m14 h) lk_X1_44 me_X1_setValue yf_X1_setValue (by decide) (by decide) rfl (Nat.le_of_ble_eq_true rfl) rfl (dtX1_shiftValues_0 24 (43, .invokevirtual 44, 3) rfl) hH hS hl) (fun _ m14 hF => ?_)
          exact r_sub hk [0, 1, 2, 3, 4] rfl (j46_10 m14 hF)
  exact r_sub hk [1, 2, 3, 4, 0] rfl (l6 fu 0 m0 hF)
set_option maxHeartbeats 4000000 in
set_option maxRecDepth 100000 in
theorem c_X2_makeSpare (l : Launch) (hlf : l.stackTraces = false) (X : XW) (i0 : Nat) (hi0 : i0 < 7) (j0 : Nat) (hj0 : j0 < 3) (p1 : Int32) (m0 : Mem) (rv : Unit) (mE : Mem) (hF : F_X2_makeSpare i0 j0 p1 m0 = some (rv, mE)) : MX X l yX2_makeSpare cX2_makeSpare 2 none 1 [.ref (xad X (2, i0, j0, 0)), .int p1] m0 (QV X mE) := by
  refine startV hlf (by decide +kernel) rfl [(0, .ref (xad X (2, i0, j0, 0))), (1, .int p1)] rfl (Nat.le_of_ble_eq_true rfl) (fun K hk hR => ?_)
  unfold F_X2_makeSpare at hF
  refine r_aload_n hk 0 (dtX2_makeSpare_0 0 (0, .aload_n 0, 1) rfl) rfl ?_
  refine r_iload_n hk 1 (dtX2_makeSpare_0 1 (1, .iload_n 1, 1) rfl) rfl ?_
  refine r_iconst (v := (-1)) hk (dtX2_makeSpare_0 2 (2, .iconst (-1), 1) rfl) (by decide) ?_
  refine r_iconst (v := 0) hk (dtX2_makeSpare_0 3 (3, .iconst 0, 1) rfl) (by decide) ?_
  refine r_iconst (v := 0) hk (dtX2_makeSpare_0 4 (4, .iconst 0, 1) rfl) (by decide) ?_
  refine r_callVm hF (fun w m1 h H locs ls hH hS hl => run_V (y := yX2_define) hk (in_tn i0 hi0 j0 hj0 0 (by decide)) rfl rfl (c_X2_define (kl K) hk.2.2.2.2.2.2.2.2.2.2.2 X i0 hi0 j0 hj0 p1 (-1) 0 0 m0 w m1 h) lk_X2_29 me_X2_define yf_X2_define (by decide) (by decide) rfl (Nat.le_of_ble_eq_true rfl) rfl (dtX2_makeSpare_0 5 (5, .invokevirtual 29, 3) rfl) hH hS hl) (fun _ m1 hF => ?_)
  cases Option.some.inj hF
  exact hR _ _ (dtX2_makeSpare_0 6 (8, .return_, 1) rfl)
set_option maxHeartbeats 4000000 in
set_option maxRecDepth 100000 in
theorem c_X3_forget (l : Launch) (hlf : l.stackTraces = false) (X : XW)  (p1 : Int32) (p2 : Int32) (m0 : Mem) (rv : Int32 ⊕ Nat) (mE : Mem) (hF : F_X3_forget p1 p2 m0 = some (rv, mE)) : MT X l yX3_forget cX3_forget 6 (some .int) 8 [.ref (xad X (0, 0, 0, 0)), .int p1, .int p2] m0 rv mE (QTI X rv mE) := by
  refine startTI hlf (by decide +kernel) rfl [(0, .ref (xad X (0, 0, 0, 0))), (1, .int p1), (2, .int p2)] rfl (Nat.le_of_ble_eq_true rfl) (fun K hk hR hX => ?_)
  unfold F_X3_forget at hF
  refine r_iload_n hk 1 (dtX3_forget_0 0 (0, .iload_n 1, 1) rfl) rfl ?_
  refine r_callI hF (fun v1 h H locs ls hH hS hl => run_S hk (c_X3_isTenant (kl K) hk.2.2.2.2.2.2.2.2.2.2.2 X  p1 m0 v1 h) lk_X3_34 me_X3_isTenant yf_X3_isTenant (by decide) (by decide) rfl (Nat.le_of_ble_eq_true rfl) rfl (dtX3_forget_0 1 (1, .invokestatic 34, 3) rfl) hH hS hl) (fun v1 hF => ?_)
  have j19_3 : ∀ (v2 : Int32), (J_X3_forget_19 p1 p2 m0) v2 = some (rv, mE) → G X K 19 [(0, .ref (xad X (0, 0, 0, 0))), (1, .int p1), (2, .int p2)] [.int v2] m0 := by
    intro v2 hF
    unfold J_X3_forget_19 at hF
    refine r_callVts hk hF (fun c h => by cases Option.some.inj h; exact hX c rfl) (fun R h hf H locs ls hH hS hl => runT_S hk (c_X3_require (kl K) hk.2.2.2.2.2.2.2.2.2.2.2 X  v2 m0 R h) lk_X3_41 me_X3_require yf_X3_require (by decide) (by decide) rfl (Nat.le_of_ble_eq_true rfl) rfl (dtX3_forget_0 9 (19, .invokestatic 41, 3) rfl) hf hH hS hl) (fun _ hF => ?_)
    refine r_aload_n hk 0 (dtX3_forget_0 10 (22, .aload_n 0, 1) rfl) rfl ?_
    refine r_callRm (fun q => xad X (1, q, 0, 0)) hF (fun q4 m5 h H locs ls hH hS hl => run_V (y := yX3_save) hk (in_main 0 (by decide)) rfl rfl (c_X3_save (kl K) hk.2.2.2.2.2.2.2.2.2.2.2 X   m0 q4 m5 h) lk_X3_45 me_X3_save yf_X3_save (by decide) (by decide) rfl (Nat.le_of_ble_eq_true rfl) rfl (dtX3_forget_0 11 (23, .invokevirtual 45, 3) rfl) hH hS hl) (fun q4 m5 _ hF => ?_)
    obtain ⟨hq4, hF⟩ := bp_some hF
    refine r_pop hk (dtX3_forget_0 12 (26, .pop, 1) rfl) rfl ?_
    refine r_aload_n hk 0 (dtX3_forget_0 13 (27, .aload_n 0, 1) rfl) rfl ?_
    refine r_getS hk fl_X3_30 hF (dtX3_forget_0 14 (28, .getfield 30, 3) rfl) (fun q6 hq6 hF => ?_)
    refine r_getR hk (k := 0) (fsX1 X q6) cbX1 (by decide) fl_X3_49 (in_st q6 hq6 0 (by decide)) (fun _ => rfl) (fun _ _ => rfl) (dtX3_forget_0 15 (31, .getfield 49, 3) rfl) ?_
    refine r_iload_n hk 1 (dtX3_forget_0 16 (34, .iload_n 1, 1) rfl) rfl ?_
    refine r_aldT hk hq6 hF (dtX3_forget_0 17 (35, .aaload, 1) rfl) (fun q7 hq7 hF => ?_)
    refine r_astore_n hk [(3, .ref (xad X (2, q6, q7, 0))), (0, .ref (xad X (0, 0, 0, 0))), (1, .int p1), (2, .int p2)] (dtX3_forget_0 18 (36, .astore_n 3, 1) rfl) (by decide) rfl ?_
    refine r_aload_n hk 0 (dtX3_forget_0 19 (37, .aload_n 3, 1) rfl) rfl ?_
    refine r_iload_n hk 3 (dtX3_forget_0 20 (38, .iload_n 2, 1) rfl) rfl ?_
    refine r_callI hF (fun v8 h H locs ls hH hS hl => run_V (y := yX2_columnOf) hk (in_tn q6 hq6 q7 hq7 0 (by decide)) rfl rfl (c_X2_columnOf (kl K) hk.2.2.2.2.2.2.2.2.2.2.2 X q6 hq6 q7 hq7 p2 m5 v8 h) lk_X3_67 me_X2_columnOf yf_X2_columnOf (by decide) (by decide) rfl (Nat.le_of_ble_eq_true rfl) rfl (dtX3_forget_0 21 (39, .invokevirtual 67, 3) rfl) hH hS hl) (fun v8 hF => ?_)
    refine r_istore hk [(4, .int v8), (3, .ref (xad X (2, q6, q7, 0))), (0, .ref (xad X (0, 0, 0, 0))), (1, .int p1), (2, .int p2)] (dtX3_forget_0 22 (42, .istore 4, 2) rfl) (by decide) rfl ?_
    refine r_iload hk 0 (dtX3_forget_0 23 (44, .iload 4, 2) rfl) rfl ?_
    refine r_iconst (v := (-1)) hk (dtX3_forget_0 24 (46, .iconst (-1), 1) rfl) (by decide) ?_
    refine r_icmp_ne hk 56 hF (dtX3_forget_0 25 (47, .if_icmp .ne 9, 3) rfl) (by decide) (fun hF => ?_) (fun hF => ?_)
    · refine r_aload_n hk 2 (dtX3_forget_0 30 (56, .aload_n 0, 1) rfl) rfl ?_
      refine r_getS hk fl_X3_30 hF (dtX3_forget_0 31 (57, .getfield 30, 3) rfl) (fun q9 hq9 hF => ?_)
      refine r_iload_n hk 3 (dtX3_forget_0 32 (60, .iload_n 1, 1) rfl) rfl ?_
      refine r_iload hk 0 (dtX3_forget_0 33 (61, .iload 4, 2) rfl) rfl ?_
      refine r_callI hF (fun v10 h H locs ls hH hS hl => run_V (y := yX1_rowsWithValue) hk (in_st q9 hq9 0 (by decide)) rfl rfl (c_X1_rowsWithValue (kl K) hk.2.2.2.2.2.2.2.2.2.2.2 X q9 hq9 p1 v8 m5 v10 h) lk_X3_74 me_X1_rowsWithValue yf_X1_rowsWithValue (by decide) (by decide) rfl (Nat.le_of_ble_eq_true rfl) rfl (dtX3_forget_0 34 (63, .invokevirtual 74, 3) rfl) hH hS hl) (fun v10 hF => ?_)
      refine r_istore hk [(5, .int v10), (4, .int v8), (3, .ref (xad X (2, q6, q7, 0))), (0, .ref (xad X (0, 0, 0, 0))), (1, .int p1), (2, .int p2)] (dtX3_forget_0 35 (66, .istore 5, 2) rfl) (by decide) rfl ?_
      refine r_aload_n hk 3 (dtX3_forget_0 36 (68, .aload_n 0, 1) rfl) rfl ?_
      refine r_getS hk fl_X3_30 hF (dtX3_forget_0 37 (69, .getfield 30, 3) rfl) (fun q11 hq11 hF => ?_)
      refine r_iload_n hk 4 (dtX3_forget_0 38 (72, .iload_n 1, 1) rfl) rfl ?_
      refine r_iload hk 1 (dtX3_forget_0 39 (73, .iload 4, 2) rfl) rfl ?_
      refine r_iconst (v := (-1)) hk (dtX3_forget_0 40 (75, .iconst (-1), 1) rfl) (by decide) ?_
      refine r_callVm hF (fun w m12 h H locs ls hH hS hl => run_V (y := yX1_shiftValues) hk (in_st q11 hq11 0 (by decide)) rfl rfl (c_X1_shiftValues (kl K) hk.2.2.2.2.2.2.2.2.2.2.2 X q11 hq11 p1 v8 (-1) m5 w m12 h) lk_X3_78 me_X1_shiftValues yf_X1_shiftValues (by decide) (by decide) rfl (Nat.le_of_ble_eq_true rfl) rfl (dtX3_forget_0 41 (76, .invokevirtual 78, 3) rfl) hH hS hl) (fun _ m12 hF => ?_)
      refine r_aload_n hk 2 (dtX3_forget_0 42 (79, .aload_n 3, 1) rfl) rfl ?_
      refine r_iload hk 1 (dtX3_forget_0 43 (80, .iload 4, 2) rfl) rfl ?_
      refine r_callVm hF (fun w m13 h H locs ls hH hS hl => run_V (y := yX2_makeSpare) hk (in_tn q6 hq6 q7 hq7 0 (by decide)) rfl rfl (c_X2_makeSpare (kl K) hk.2.2.2.2.2.2.2.2.2.2.2 X q6 hq6 q7 hq7 v8 m12 w m13 h) lk_X3_82 me_X2_makeSpare yf_X2_makeSpare (by decide) (by decide) rfl (Nat.le_of_ble_eq_true rfl) rfl (dtX3_forget_0 44 (82, .invokevirtual 82, 3) rfl) hH hS hl) (fun _ m13 hF => ?_)
      refine r_iload hk 0 (dtX3_forget_0 45 (85, .iload 5, 2) rfl) rfl ?_
      cases Option.some.inj hF
      exact hR v10 rfl _ _ (dtX3_forget_0 46 (87, .ireturn, 1) rfl)
    · refine r_aload_n hk 1 (dtX3_forget_0 26 (50, .aload_n 3, 1) rfl) rfl ?_
      refine r_iconst (v := 5) hk (dtX3_forget_0 27 (51, .iconst 5, 1) rfl) (by decide) ?_
      refine r_callIm hF (fun v14 m15 h H locs ls hH hS hl => run_V (y := yX2_refuse) hk (in_tn q6 hq6 q7 hq7 0 (by decide)) rfl rfl (c_X2_refuse (kl K) hk.2.2.2.2.2.2.2.2.2.2.2 X q6 hq6 q7 hq7 5 m5 v14 m15 h) lk_X3_63 me_X2_refuse yf_X2_refuse (by decide) (by decide) rfl (Nat.le_of_ble_eq_true rfl) rfl (dtX3_forget_0 28 (52, .invokevirtual 63, 3) rfl) hH hS hl) (fun v14 m15 hF => ?_)
      cases Option.some.inj hF
      exact hR v14 rfl _ _ (dtX3_forget_0 29 (55, .ireturn, 1) rfl)
  have j18_16 : (J_X3_forget_18 p1 p2 m0) = some (rv, mE) → G X K 18 [(0, .ref (xad X (0, 0, 0, 0))), (1, .int p1), (2, .int p2)] [] m0 := by
    intro hF
    unfold J_X3_forget_18 at hF
    refine r_iconst (v := 0) hk (dtX3_forget_0 8 (18, .iconst 0, 1) rfl) (by decide) ?_
    exact r_sub hk [0, 1, 2] rfl (j19_3 0 hF)
  refine r_if_eq hk 18 hF (dtX3_forget_0 2 (4, .ifCond .eq 14, 3) rfl) (by decide) (fun hF => ?_) (fun hF => ?_)
  · exact r_sub hk [0, 1, 2] rfl (j18_16 hF)
  · refine r_iload_n hk 2 (dtX3_forget_0 3 (7, .iload_n 2, 1) rfl) rfl ?_
    refine r_callI hF (fun v17 h H locs ls hH hS hl => run_S hk (c_X3_isLetter (kl K) hk.2.2.2.2.2.2.2.2.2.2.2 X  p2 m0 v17 h) lk_X3_38 me_X3_isLetter yf_X3_isLetter (by decide) (by decide) rfl (Nat.le_of_ble_eq_true rfl) rfl (dtX3_forget_0 4 (8, .invokestatic 38, 3) rfl) hH hS hl) (fun v17 hF => ?_)
    refine r_if_eq hk 18 hF (dtX3_forget_0 5 (11, .ifCond .eq 7, 3) rfl) (by decide) (fun hF => ?_) (fun hF => ?_)
    · exact r_sub hk [0, 1, 2] rfl (j18_16 hF)
    · refine r_iconst (v := 1) hk (dtX3_forget_0 6 (14, .iconst 1, 1) rfl) (by decide) ?_
      refine r_goto hk 19 (dtX3_forget_0 7 (15, .goto 4, 3) rfl) (by decide) ?_
      exact r_sub hk [0, 1, 2] rfl (j19_3 1 hF)
set_option maxHeartbeats 4000000 in
set_option maxRecDepth 100000 in
theorem c_X3_pack (l : Launch) (hlf : l.stackTraces = false) (X : XW)  (p1 : Int32) (m0 : Mem) (rv : Int32 ⊕ Nat) (mE : Mem) (hF : F_X3_pack p1 m0 = some (rv, mE)) : MT X l yX3_pack cX3_pack 6 (some .int) 8 [.ref (xad X (0, 0, 0, 0)), .int p1] m0 rv mE (QTI X rv mE) := by
  refine startTI hlf (by decide +kernel) rfl [(0, .ref (xad X (0, 0, 0, 0))), (1, .int p1)] rfl (Nat.le_of_ble_eq_true rfl) (fun K hk hR hX => ?_)
  unfold F_X3_pack at hF
  refine r_iload_n hk 1 (dtX3_pack_0 0 (0, .iload_n 1, 1) rfl) rfl ?_
  refine r_callI hF (fun v1 h H locs ls hH hS hl => run_S hk (c_X3_isTenant (kl K) hk.2.2.2.2.2.2.2.2.2.2.2 X  p1 m0 v1 h) lk_X3_34 me_X3_isTenant yf_X3_isTenant (by decide) (by decide) rfl (Nat.le_of_ble_eq_true rfl) rfl (dtX3_pack_0 1 (1, .invokestatic 34, 3) rfl) hH hS hl) (fun v1 hF => ?_)
  refine r_callVts hk hF (fun c h => by cases Option.some.inj h; exact hX c rfl) (fun R h hf H locs ls hH hS hl => runT_S hk (c_X3_require (kl K) hk.2.2.2.2.2.2.2.2.2.2.2 X  v1 m0 R h) lk_X3_41 me_X3_require yf_X3_require (by decide) (by decide) rfl (Nat.le_of_ble_eq_true rfl) rfl (dtX3_pack_0 2 (4, .invokestatic 41, 3) rfl) hf hH hS hl) (fun _ hF => ?_)
  refine r_aload_n hk 0 (dtX3_pack_0 3 (7, .aload_n 0, 1) rfl) rfl ?_
  refine r_callRm (fun q => xad X (1, q, 0, 0)) hF (fun q2 m3 h H locs ls hH hS hl => run_V (y := yX3_save) hk (in_main 0 (by decide)) rfl rfl (c_X3_save (kl K) hk.2.2.2.2.2.2.2.2.2.2.2 X   m0 q2 m3 h) lk_X3_45 me_X3_save yf_X3_save (by decide) (by decide) rfl (Nat.le_of_ble_eq_true rfl) rfl (dtX3_pack_0 4 (8, .invokevirtual 45, 3) rfl) hH hS hl) (fun q2 m3 _ hF => ?_)
  obtain ⟨hq2, hF⟩ := bp_some hF
  refine r_pop hk (dtX3_pack_0 5 (11, .pop, 1) rfl) rfl ?_
  refine r_aload_n hk 0 (dtX3_pack_0 6 (12, .aload_n 0, 1) rfl) rfl ?_
  refine r_getS hk fl_X3_30 hF (dtX3_pack_0 7 (13, .getfield 30, 3) rfl) (fun q4 hq4 hF => ?_)
  refine r_getR hk (k := 0) (fsX1 X q4) cbX1 (by decide) fl_X3_49 (in_st q4 hq4 0 (by decide)) (fun _ => rfl) (fun _ _ => rfl) (dtX3_pack_0 8 (16, .getfield 49, 3) rfl) ?_
  refine r_iload_n hk 1 (dtX3_pack_0 9 (19, .iload_n 1, 1) rfl) rfl ?_
  refine r_aldT hk hq4 hF (dtX3_pack_0 10 (20, .aaload, 1) rfl) (fun q5 hq5 hF => ?_)
  refine r_astore_n hk [(2, .ref (xad X (2, q4, q5, 0))), (0, .ref (xad X (0, 0, 0, 0))), (1, .int p1)] (dtX3_pack_0 11 (21, .astore_n 2, 1) rfl) (by decide) rfl ?_
  refine r_iconst (v := 0) hk (dtX3_pack_0 12 (22, .iconst 0, 1) rfl) (by decide) ?_
  refine r_istore_n hk [(3, .int 0), (2, .ref (xad X (2, q4, q5, 0))), (0, .ref (xad X (0, 0, 0, 0))), (1, .int p1)] (dtX3_pack_0 13 (23, .istore_n 3, 1) rfl) (by decide) rfl ?_
  refine r_iconst (v := 0) hk (dtX3_pack_0 14 (24, .iconst 0, 1) rfl) (by decide) ?_
  refine r_istore hk [(4, .int 0), (3, .int 0), (2, .ref (xad X (2, q4, q5, 0))), (0, .ref (xad X (0, 0, 0, 0))), (1, .int p1)] (dtX3_pack_0 15 (25, .istore 4, 2) rfl) (by decide) rfl ?_
  refine r_iconst (v := 0) hk (dtX3_pack_0 16 (27, .iconst 0, 1) rfl) (by decide) ?_
  refine r_istore hk [(5, .int 0), (4, .int 0), (3, .int 0), (2, .ref (xad X (2, q4, q5, 0))), (0, .ref (xad X (0, 0, 0, 0))), (1, .int p1)] (dtX3_pack_0 17 (28, .istore 5, 2) rfl) (by decide) rfl ?_
  have e109_8 : ∀ (v6 : Int32) (m7 : Mem), C_X3_pack_109 v6 m7 = some (rv, mE) → G X K 109 [(4, .int v6)] [] m7 := by
    intro v6 m7 hF
    unfold C_X3_pack_109 at hF
    refine r_iload hk 0 (dtX3_pack_0 58 (109, .iload 4, 2) rfl) rfl ?_
    cases Option.some.inj hF
    exact hR v6 rfl _ _ (dtX3_pack_0 59 (111, .ireturn, 1) rfl)
  have l14 : ∀ (n14 : Nat) (v9 : Int32) (v10 : Int32) (v11 : Int32) (m12 : Mem), L_X3_pack_30 p1 q4 q5 n14 v9 v10 v11 m12 = some (rv, mE) → G X K 30 [(0, .ref (xad X (0, 0, 0, 0))), (1, .int p1), (2, .ref (xad X (2, q4, q5, 0))), (3, .int v9), (4, .int v10), (5, .int v11)] [] m12 := by
    intro n14
    induction n14 with
    | zero => intro v9 v10 v11 m12 hF; exact nomatch (show (none : Option ((Int32 ⊕ Nat) × Mem)) = some (rv, mE) from hF)
    | succ n14 ih14 =>
      intro v9 v10 v11 m12 hF
      rw [L_X3_pack_30] at hF
      refine r_iload hk 5 (dtX3_pack_0 18 (30, .iload 5, 2) rfl) rfl ?_
      refine r_bipush (v := 8) hk (dtX3_pack_0 19 (32, .bipush 8, 2) rfl) (by decide) ?_
      refine r_icmp_ge hk 109 hF (dtX3_pack_0 20 (34, .if_icmp .ge 75, 3) rfl) (by decide) (fun hF => ?_) (fun hF => ?_)
      · exact r_sub hk [4] rfl (e109_8 v10 m12 hF)
      · refine r_aload_n hk 2 (dtX3_pack_0 21 (37, .aload_n 2, 1) rfl) rfl ?_
        refine r_getR hk (k := 0) (fsX2 X q4 q5) cbX2 (by decide) fl_X3_86 (in_tn q4 hq4 q5 hq5 0 (by decide)) (fun _ => rfl) (fun _ _ => rfl) (dtX3_pack_0 22 (38, .getfield 86, 3) rfl) ?_
        refine r_iload hk 5 (dtX3_pack_0 23 (41, .iload 5, 2) rfl) rfl ?_
        refine r_iald hk (in_tn q4 hq4 q5 hq5 1 (by decide)) (fun _ => rfl) hF (dtX3_pack_0 24 (43, .iaload, 1) rfl) (fun v15 hF => ?_)
        refine r_iconst (v := (-1)) hk (dtX3_pack_0 25 (44, .iconst (-1), 1) rfl) (by decide) ?_
        have j103_19 : ∀ (v16 : Int32) (v17 : Int32) (m18 : Mem), (J_X3_pack_103 v11 (fun w0 w1 w2 w3 => L_X3_pack_30 p1 q4 q5 n14 w0 w1 w2 w3)) v16 v17 m18 = some (rv, mE) → G X K 103 [(0, .ref (xad X (0, 0, 0, 0))), (1, .int p1), (2, .ref (xad X (2, q4, q5, 0))), (3, .int v16), (4, .int v17), (5, .int v11)] [] m18 := by
          intro v16 v17 m18 hF
          unfold J_X3_pack_103 at hF
          refine r_iinc hk 1 5 (fun v20 => [(5, .int v20), (0, .ref (xad X (0, 0, 0, 0))), (1, .int p1), (2, .ref (xad X (2, q4, q5, 0))), (3, .int v16), (4, .int v17)]) hF (dtX3_pack_0 56 (103, .iinc 5 1, 3) rfl) rfl (by decide) (by decide) (fun _ => rfl) (fun v20 hF => ?_)
          refine r_goto hk 30 (dtX3_pack_0 57 (106, .goto (-76), 3) rfl) (by decide) ?_
          exact r_sub hk [1, 2, 3, 4, 5, 0] rfl (ih14 v16 v17 v20 m18 hF)
        refine r_icmp_eq hk 103 hF (dtX3_pack_0 26 (45, .if_icmp .eq 58, 3) rfl) (by decide) (fun hF => ?_) (fun hF => ?_)
        · exact r_sub hk [0, 1, 2, 3, 4, 5] rfl (j103_19 v9 v10 m12 hF)
        · refine r_iload_n hk 3 (dtX3_pack_0 27 (48, .iload_n 3, 1) rfl) rfl ?_
          refine r_iload hk 5 (dtX3_pack_0 28 (49, .iload 5, 2) rfl) rfl ?_
          have j100_23 : ∀ (v21 : Int32) (m22 : Mem), (J_X3_pack_100 v9 v11 (fun w0 w1 w2 w3 => L_X3_pack_30 p1 q4 q5 n14 w0 w1 w2 w3)) v21 m22 = some (rv, mE) → G X K 100 [(0, .ref (xad X (0, 0, 0, 0))), (1, .int p1), (2, .ref (xad X (2, q4, q5, 0))), (3, .int v9), (4, .int v21), (5, .int v11)] [] m22 := by
            intro v21 m22 hF
            unfold J_X3_pack_100 at hF
            refine r_iinc hk 1 3 (fun v24 => [(3, .int v24), (0, .ref (xad X (0, 0, 0, 0))), (1, .int p1), (2, .ref (xad X (2, q4, q5, 0))), (4, .int v21), (5, .int v11)]) hF (dtX3_pack_0 55 (100, .iinc 3 1, 3) rfl) rfl (by decide) (by decide) (fun _ => rfl) (fun v24 hF => ?_)
            exact r_sub hk [1, 2, 3, 0, 4, 5] rfl (j103_19 v24 v21 m22 hF)
          refine r_icmp_ge hk 100 hF (dtX3_pack_0 29 (51, .if_icmp .ge 49, 3) rfl) (by decide) (fun hF => ?_) (fun hF => ?_)
          · exact r_sub hk [0, 1, 2, 3, 4, 5] rfl (j100_23 v10 m12 hF)
          · refine r_aload_n hk 2 (dtX3_pack_0 30 (54, .aload_n 2, 1) rfl) rfl ?_
            refine r_iload_n hk 3 (dtX3_pack_0 31 (55, .iload_n 3, 1) rfl) rfl ?_
            refine r_aload_n hk 2 (dtX3_pack_0 32 (56, .aload_n 2, 1) rfl) rfl ?_
            refine r_getR hk (k := 0) (fsX2 X q4 q5) cbX2 (by decide) fl_X3_86 (in_tn q4 hq4 q5 hq5 0 (by decide)) (fun _ => rfl) (fun _ _ => rfl) (dtX3_pack_0 33 (57, .getfield 86, 3) rfl) ?_
            refine r_iload hk 5 (dtX3_pack_0 34 (60, .iload 5, 2) rfl) rfl ?_
            refine r_iald hk (in_tn q4 hq4 q5 hq5 1 (by decide)) (fun _ => rfl) hF (dtX3_pack_0 35 (62, .iaload, 1) rfl) (fun v25 hF => ?_)
            refine r_aload_n hk 2 (dtX3_pack_0 36 (63, .aload_n 2, 1) rfl) rfl ?_
            refine r_getR hk (k := 1) (fsX2 X q4 q5) cbX2 (by decide) fl_X3_89 (in_tn q4 hq4 q5 hq5 0 (by decide)) (fun _ => rfl) (fun _ _ => rfl) (dtX3_pack_0 37 (64, .getfield 89, 3) rfl) ?_
            refine r_iload hk 5 (dtX3_pack_0 38 (67, .iload 5, 2) rfl) rfl ?_
            refine r_iald hk (in_tn q4 hq4 q5 hq5 2 (by decide)) (fun _ => rfl) hF (dtX3_pack_0 39 (69, .iaload, 1) rfl) (fun v26 hF => ?_)
            refine r_aload_n hk 2 (dtX3_pack_0 40 (70, .aload_n 2, 1) rfl) rfl ?_
            refine r_getR hk (k := 2) (fsX2 X q4 q5) cbX2 (by decide) fl_X3_92 (in_tn q4 hq4 q5 hq5 0 (by decide)) (fun _ => rfl) (fun _ _ => rfl) (dtX3_pack_0 41 (71, .getfield 92, 3) rfl) ?_
            refine r_iload hk 5 (dtX3_pack_0 42 (74, .iload 5, 2) rfl) rfl ?_
            refine r_zald hk (in_tn q4 hq4 q5 hq5 3 (by decide)) (fun _ => rfl) hF (dtX3_pack_0 43 (76, .baload, 1) rfl) (fun v27 hF => ?_)
            refine r_callVm hF (fun w m28 h H locs ls hH hS hl => run_V (y := yX2_define) hk (in_tn q4 hq4 q5 hq5 0 (by decide)) rfl rfl (c_X2_define (kl K) hk.2.2.2.2.2.2.2.2.2.2.2 X q4 hq4 q5 hq5 v9 v25 v26 v27 m12 w m28 h) lk_X3_70 me_X2_define yf_X2_define (by decide) (by decide) rfl (Nat.le_of_ble_eq_true rfl) rfl (dtX3_pack_0 44 (77, .invokevirtual 70, 3) rfl) hH hS hl) (fun _ m28 hF => ?_)
            refine r_aload_n hk 2 (dtX3_pack_0 45 (80, .aload_n 2, 1) rfl) rfl ?_
            refine r_iload hk 5 (dtX3_pack_0 46 (81, .iload 5, 2) rfl) rfl ?_
            refine r_callVm hF (fun w m29 h H locs ls hH hS hl => run_V (y := yX2_makeSpare) hk (in_tn q4 hq4 q5 hq5 0 (by decide)) rfl rfl (c_X2_makeSpare (kl K) hk.2.2.2.2.2.2.2.2.2.2.2 X q4 hq4 q5 hq5 v11 m28 w m29 h) lk_X3_82 me_X2_makeSpare yf_X2_makeSpare (by decide) (by decide) rfl (Nat.le_of_ble_eq_true rfl) rfl (dtX3_pack_0 47 (83, .invokevirtual 82, 3) rfl) hH hS hl) (fun _ m29 hF => ?_)
            refine r_aload_n hk 0 (dtX3_pack_0 48 (86, .aload_n 0, 1) rfl) rfl ?_
            refine r_getS hk fl_X3_30 hF (dtX3_pack_0 49 (87, .getfield 30, 3) rfl) (fun q30 hq30 hF => ?_)
            refine r_iload_n hk 1 (dtX3_pack_0 50 (90, .iload_n 1, 1) rfl) rfl ?_
            refine r_iload hk 5 (dtX3_pack_0 51 (91, .iload 5, 2) rfl) rfl ?_
            refine r_iload_n hk 3 (dtX3_pack_0 52 (93, .iload_n 3, 1) rfl) rfl ?_
            refine r_callVm hF (fun w m31 h H locs ls hH hS hl => run_V (y := yX1_shiftValues) hk (in_st q30 hq30 0 (by decide)) rfl rfl (c_X1_shiftValues (kl K) hk.2.2.2.2.2.2.2.2.2.2.2 X q30 hq30 p1 v11 v9 m29 w m31 h) lk_X3_78 me_X1_shiftValues yf_X1_shiftValues (by decide) (by decide) rfl (Nat.le_of_ble_eq_true rfl) rfl (dtX3_pack_0 53 (94, .invokevirtual 78, 3) rfl) hH hS hl) (fun _ m31 hF => ?_)
            refine r_iinc hk 1 4 (fun v32 => [(4, .int v32), (0, .ref (xad X (0, 0, 0, 0))), (1, .int p1), (2, .ref (xad X (2, q4, q5, 0))), (3, .int v9), (5, .int v11)]) hF (dtX3_pack_0 54 (97, .iinc 4 1, 3) rfl) rfl (by decide) (by decide) (fun _ => rfl) (fun v32 hF => ?_)
            exact r_sub hk [1, 2, 3, 4, 0, 5] rfl (j100_23 v32 m31 hF)
  exact r_sub hk [4, 5, 3, 2, 1, 0] rfl (l14 fu 0 0 0 m3 hF)
set_option maxHeartbeats 4000000 in
set_option maxRecDepth 100000 in
theorem c_X3_index (l : Launch) (hlf : l.stackTraces = false) (X : XW)  (p1 : Int32) (p2 : Int32) (m0 : Mem) (rv : Int32 ⊕ Nat) (mE : Mem) (hF : F_X3_index p1 p2 m0 = some (rv, mE)) : MT X l yX3_index cX3_index 5 (some .int) 8 [.ref (xad X (0, 0, 0, 0)), .int p1, .int p2] m0 rv mE (QTI X rv mE) := by
  refine startTI hlf (by decide +kernel) rfl [(0, .ref (xad X (0, 0, 0, 0))), (1, .int p1), (2, .int p2)] rfl (Nat.le_of_ble_eq_true rfl) (fun K hk hR hX => ?_)
  unfold F_X3_index at hF
  refine r_iload_n hk 1 (dtX3_index_0 0 (0, .iload_n 1, 1) rfl) rfl ?_
  refine r_callI hF (fun v1 h H locs ls hH hS hl => run_S hk (c_X3_isTenant (kl K) hk.2.2.2.2.2.2.2.2.2.2.2 X  p1 m0 v1 h) lk_X3_34 me_X3_isTenant yf_X3_isTenant (by decide) (by decide) rfl (Nat.le_of_ble_eq_true rfl) rfl (dtX3_index_0 1 (1, .invokestatic 34, 3) rfl) hH hS hl) (fun v1 hF => ?_)
  have j19_3 : ∀ (v2 : Int32), (J_X3_index_19 p1 p2 m0) v2 = some (rv, mE) → G X K 19 [(0, .ref (xad X (0, 0, 0, 0))), (1, .int p1), (2, .int p2)] [.int v2] m0 := by
    intro v2 hF
    unfold J_X3_index_19 at hF
    refine r_callVts hk hF (fun c h => by cases Option.some.inj h; exact hX c rfl) (fun R h hf H locs ls hH hS hl => runT_S hk (c_X3_require (kl K) hk.2.2.2.2.2.2.2.2.2.2.2 X  v2 m0 R h) lk_X3_41 me_X3_require yf_X3_require (by decide) (by decide) rfl (Nat.le_of_ble_eq_true rfl) rfl (dtX3_index_0 9 (19, .invokestatic 41, 3) rfl) hf hH hS hl) (fun _ hF => ?_)
    refine r_aload_n hk 0 (dtX3_index_0 10 (22, .aload_n 0, 1) rfl) rfl ?_
    refine r_callRm (fun q => xad X (1, q, 0, 0)) hF (fun q4 m5 h H locs ls hH hS hl => run_V (y := yX3_save) hk (in_main 0 (by decide)) rfl rfl (c_X3_save (kl K) hk.2.2.2.2.2.2.2.2.2.2.2 X   m0 q4 m5 h) lk_X3_45 me_X3_save yf_X3_save (by decide) (by decide) rfl (Nat.le_of_ble_eq_true rfl) rfl (dtX3_index_0 11 (23, .invokevirtual 45, 3) rfl) hH hS hl) (fun q4 m5 _ hF => ?_)
    obtain ⟨hq4, hF⟩ := bp_some hF
    refine r_pop hk (dtX3_index_0 12 (26, .pop, 1) rfl) rfl ?_
    refine r_aload_n hk 0 (dtX3_index_0 13 (27, .aload_n 0, 1) rfl) rfl ?_
    refine r_getS hk fl_X3_30 hF (dtX3_index_0 14 (28, .getfield 30, 3) rfl) (fun q6 hq6 hF => ?_)
    refine r_getR hk (k := 0) (fsX1 X q6) cbX1 (by decide) fl_X3_49 (in_st q6 hq6 0 (by decide)) (fun _ => rfl) (fun _ _ => rfl) (dtX3_index_0 15 (31, .getfield 49, 3) rfl) ?_
    refine r_iload_n hk 1 (dtX3_index_0 16 (34, .iload_n 1, 1) rfl) rfl ?_
    refine r_aldT hk hq6 hF (dtX3_index_0 17 (35, .aaload, 1) rfl) (fun q7 hq7 hF => ?_)
    refine r_astore_n hk [(3, .ref (xad X (2, q6, q7, 0))), (0, .ref (xad X (0, 0, 0, 0))), (1, .int p1), (2, .int p2)] (dtX3_index_0 18 (36, .astore_n 3, 1) rfl) (by decide) rfl ?_
    refine r_aload_n hk 0 (dtX3_index_0 19 (37, .aload_n 3, 1) rfl) rfl ?_
    refine r_iload_n hk 3 (dtX3_index_0 20 (38, .iload_n 2, 1) rfl) rfl ?_
    refine r_callI hF (fun v8 h H locs ls hH hS hl => run_V (y := yX2_columnOf) hk (in_tn q6 hq6 q7 hq7 0 (by decide)) rfl rfl (c_X2_columnOf (kl K) hk.2.2.2.2.2.2.2.2.2.2.2 X q6 hq6 q7 hq7 p2 m5 v8 h) lk_X3_67 me_X2_columnOf yf_X2_columnOf (by decide) (by decide) rfl (Nat.le_of_ble_eq_true rfl) rfl (dtX3_index_0 21 (39, .invokevirtual 67, 3) rfl) hH hS hl) (fun v8 hF => ?_)
    refine r_istore hk [(4, .int v8), (3, .ref (xad X (2, q6, q7, 0))), (0, .ref (xad X (0, 0, 0, 0))), (1, .int p1), (2, .int p2)] (dtX3_index_0 22 (42, .istore 4, 2) rfl) (by decide) rfl ?_
    refine r_iload hk 0 (dtX3_index_0 23 (44, .iload 4, 2) rfl) rfl ?_
    refine r_iconst (v := (-1)) hk (dtX3_index_0 24 (46, .iconst (-1), 1) rfl) (by decide) ?_
    refine r_icmp_ne hk 56 hF (dtX3_index_0 25 (47, .if_icmp .ne 9, 3) rfl) (by decide) (fun hF => ?_) (fun hF => ?_)
    · refine r_aload_n hk 1 (dtX3_index_0 30 (56, .aload_n 3, 1) rfl) rfl ?_
      refine r_getR hk (k := 2) (fsX2 X q6 q7) cbX2 (by decide) fl_X3_92 (in_tn q6 hq6 q7 hq7 0 (by decide)) (fun _ => rfl) (fun _ _ => rfl) (dtX3_index_0 31 (57, .getfield 92, 3) rfl) ?_
      refine r_iload hk 0 (dtX3_index_0 32 (60, .iload 4, 2) rfl) rfl ?_
      refine r_aload_n hk 1 (dtX3_index_0 33 (62, .aload_n 3, 1) rfl) rfl ?_
      refine r_getR hk (k := 2) (fsX2 X q6 q7) cbX2 (by decide) fl_X3_92 (in_tn q6 hq6 q7 hq7 0 (by decide)) (fun _ => rfl) (fun _ _ => rfl) (dtX3_index_0 34 (63, .getfield 92, 3) rfl) ?_
      refine r_iload hk 0 (dtX3_index_0 35 (66, .iload 4, 2) rfl) rfl ?_
      refine r_zald hk (in_tn q6 hq6 q7 hq7 3 (by decide)) (fun _ => rfl) hF (dtX3_index_0 36 (68, .baload, 1) rfl) (fun v9 hF => ?_)
      have j77_11 : ∀ (v10 : Int32), (J_X3_index_77 m5 q6 q7 v8) v10 = some (rv, mE) → G X K 77 [(3, .ref (xad X (2, q6, q7, 0))), (4, .int v8)] [.int v10, .int v8, .ref (xad X (2, q6, q7, 3))] m5 := by
        intro v10 hF
        unfold J_X3_index_77 at hF
        refine r_zast hk (in_tn q6 hq6 q7 hq7 3 (by decide)) (fun _ => rfl) hF (dtX3_index_0 41 (77, .bastore, 1) rfl) (fun m12 hF => ?_)
        refine r_aload_n hk 0 (dtX3_index_0 42 (78, .aload_n 3, 1) rfl) rfl ?_
        refine r_getR hk (k := 2) (fsX2 X q6 q7) cbX2 (by decide) fl_X3_92 (in_tn q6 hq6 q7 hq7 0 (by decide)) (fun _ => rfl) (fun _ _ => rfl) (dtX3_index_0 43 (79, .getfield 92, 3) rfl) ?_
        refine r_iload hk 1 (dtX3_index_0 44 (82, .iload 4, 2) rfl) rfl ?_
        refine r_zald hk (in_tn q6 hq6 q7 hq7 3 (by decide)) (fun _ => rfl) hF (dtX3_index_0 45 (84, .baload, 1) rfl) (fun v13 hF => ?_)
        refine r_callI hF (fun v14 h H locs ls hH hS hl => run_S hk (c_X3_asNumber (kl K) hk.2.2.2.2.2.2.2.2.2.2.2 X  v13 m12 v14 h) lk_X3_96 me_X3_asNumber yf_X3_asNumber (by decide) (by decide) rfl (Nat.le_of_ble_eq_true rfl) rfl (dtX3_index_0 46 (85, .invokestatic 96, 3) rfl) hH hS hl) (fun v14 hF => ?_)
        cases Option.some.inj hF
        exact hR v14 rfl _ _ (dtX3_index_0 47 (88, .ireturn, 1) rfl)
      refine r_if_ne hk 76 hF (dtX3_index_0 37 (69, .ifCond .ne 7, 3) rfl) (by decide) (fun hF => ?_) (fun hF => ?_)
      · refine r_iconst (v := 0) hk (dtX3_index_0 40 (76, .iconst 0, 1) rfl) (by decide) ?_
        exact r_sub hk [1, 0] rfl (j77_11 0 hF)
      · refine r_iconst (v := 1) hk (dtX3_index_0 38 (72, .iconst 1, 1) rfl) (by decide) ?_
        refine r_goto hk 77 (dtX3_index_0 39 (73, .goto 4, 3) rfl) (by decide) ?_
        exact r_sub hk [1, 0] rfl (j77_11 1 hF)
    · refine r_aload_n hk 1 (dtX3_index_0 26 (50, .aload_n 3, 1) rfl) rfl ?_
      refine r_iconst (v := 5) hk (dtX3_index_0 27 (51, .iconst 5, 1) rfl) (by decide) ?_
      refine r_callIm hF (fun v15 m16 h H locs ls hH hS hl => run_V (y := yX2_refuse) hk (in_tn q6 hq6 q7 hq7 0 (by decide)) rfl rfl (c_X2_refuse (kl K) hk.2.2.2.2.2.2.2.2.2.2.2 X q6 hq6 q7 hq7 5 m5 v15 m16 h) lk_X3_63 me_X2_refuse yf_X2_refuse (by decide) (by decide) rfl (Nat.le_of_ble_eq_true rfl) rfl (dtX3_index_0 28 (52, .invokevirtual 63, 3) rfl) hH hS hl) (fun v15 m16 hF => ?_)
      cases Option.some.inj hF
      exact hR v15 rfl _ _ (dtX3_index_0 29 (55, .ireturn, 1) rfl)
  have j18_17 : (J_X3_index_18 p1 p2 m0) = some (rv, mE) → G X K 18 [(0, .ref (xad X (0, 0, 0, 0))), (1, .int p1), (2, .int p2)] [] m0 := by
    intro hF
    unfold J_X3_index_18 at hF
    refine r_iconst (v := 0) hk (dtX3_index_0 8 (18, .iconst 0, 1) rfl) (by decide) ?_
    exact r_sub hk [0, 1, 2] rfl (j19_3 0 hF)
  refine r_if_eq hk 18 hF (dtX3_index_0 2 (4, .ifCond .eq 14, 3) rfl) (by decide) (fun hF => ?_) (fun hF => ?_)
  · exact r_sub hk [0, 1, 2] rfl (j18_17 hF)
  · refine r_iload_n hk 2 (dtX3_index_0 3 (7, .iload_n 2, 1) rfl) rfl ?_
    refine r_callI hF (fun v18 h H locs ls hH hS hl => run_S hk (c_X3_isLetter (kl K) hk.2.2.2.2.2.2.2.2.2.2.2 X  p2 m0 v18 h) lk_X3_38 me_X3_isLetter yf_X3_isLetter (by decide) (by decide) rfl (Nat.le_of_ble_eq_true rfl) rfl (dtX3_index_0 4 (8, .invokestatic 38, 3) rfl) hH hS hl) (fun v18 hF => ?_)
    refine r_if_eq hk 18 hF (dtX3_index_0 5 (11, .ifCond .eq 7, 3) rfl) (by decide) (fun hF => ?_) (fun hF => ?_)
    · exact r_sub hk [0, 1, 2] rfl (j18_17 hF)
    · refine r_iconst (v := 1) hk (dtX3_index_0 6 (14, .iconst 1, 1) rfl) (by decide) ?_
      refine r_goto hk 19 (dtX3_index_0 7 (15, .goto 4, 3) rfl) (by decide) ?_
      exact r_sub hk [0, 1, 2] rfl (j19_3 1 hF)
end
section
/-! the walks (written by dec.py) -/
set_option maxHeartbeats 4000000 in
set_option maxRecDepth 100000 in
theorem c_X1_tableOf (l : Launch) (hlf : l.stackTraces = false) (X : XW) (i0 : Nat) (hi0 : i0 < 7) (p1 : Int32) (m0 : Mem) (rv : Int32) (hF : F_X1_tableOf i0 p1 m0 = some rv) : MX X l yX1_tableOf cX1_tableOf 2 (some .int) 0 [.ref (xad X (1, i0, 0, 0)), .int p1] m0 (QI X rv m0) := by
  refine startI hlf (by decide +kernel) rfl [(0, .ref (xad X (1, i0, 0, 0))), (1, .int p1)] rfl (Nat.le_of_ble_eq_true rfl) (fun K hk hR => ?_)
  unfold F_X1_tableOf at hF
  refine r_aload_n hk 0 (dtX1_tableOf_0 0 (0, .aload_n 0, 1) rfl) rfl ?_
  refine r_getR hk (k := 0) (fsX1 X i0) cbX1 (by decide) fl_X1_11 (in_st i0 hi0 0 (by decide)) (fun _ => rfl) (fun _ _ => rfl) (dtX1_tableOf_0 1 (1, .getfield 11, 3) rfl) ?_
  refine r_iload_n hk 1 (dtX1_tableOf_0 2 (4, .iload_n 1, 1) rfl) rfl ?_
  refine r_aldT hk hi0 hF (dtX1_tableOf_0 3 (5, .aaload, 1) rfl) (fun q1 hq1 hF => ?_)
  refine r_getI hk (k := 5) (fsX2 X i0 q1) cbX2 (by decide) fl_X1_56 (in_tn i0 hi0 q1 hq1 0 (by decide)) (fun _ => rfl) (fun _ _ => rfl) hF (dtX1_tableOf_0 4 (6, .getfield 56, 3) rfl) (fun v2 hF => ?_)
  have j19_4 : ∀ (v3 : Int32), J_X1_tableOf_19 v3 = some rv → G X K 19 [] [.int v3] m0 := by
    intro v3 hF
    unfold J_X1_tableOf_19 at hF
    cases Option.some.inj hF
    exact hR _ _ (dtX1_tableOf_0 11 (19, .ireturn, 1) rfl)
  refine r_if_eq hk 18 hF (dtX1_tableOf_0 5 (9, .ifCond .eq 9, 3) rfl) (by decide) (fun hF => ?_) (fun hF => ?_)
  · refine r_iconst (v := 0) hk (dtX1_tableOf_0 10 (18, .iconst 0, 1) rfl) (by decide) ?_
    exact r_sub hk [] rfl (j19_4 0 hF)
  · refine r_iload_n hk 1 (dtX1_tableOf_0 6 (12, .iload_n 1, 1) rfl) rfl ?_
    refine r_iconst (v := 1) hk (dtX1_tableOf_0 7 (13, .iconst 1, 1) rfl) (by decide) ?_
    refine r_iadd hk hF (dtX1_tableOf_0 8 (14, .iadd, 1) rfl) (fun v5 hF => ?_)
    refine r_goto hk 19 (dtX1_tableOf_0 9 (15, .goto 4, 3) rfl) (by decide) ?_
    exact r_sub hk [] rfl (j19_4 v5 hF)
set_option maxHeartbeats 4000000 in
set_option maxRecDepth 100000 in
theorem c_X1_insertRow (l : Launch) (hlf : l.stackTraces = false) (X : XW) (i0 : Nat) (hi0 : i0 < 7) (p1 : Int32) (m0 : Mem) (rv : Int32) (mE : Mem) (hF : F_X1_insertRow i0 p1 m0 = some (rv, mE)) : MX X l yX1_insertRow cX1_insertRow 4 (some .int) 2 [.ref (xad X (1, i0, 0, 0)), .int p1] m0 (QI X rv mE) := by
  refine startI hlf (by decide +kernel) rfl [(0, .ref (xad X (1, i0, 0, 0))), (1, .int p1)] rfl (Nat.le_of_ble_eq_true rfl) (fun K hk hR => ?_)
  unfold F_X1_insertRow at hF
  refine r_aload_n hk 0 (dtX1_insertRow_0 0 (0, .aload_n 0, 1) rfl) rfl ?_
  refine r_getI hk (k := 3) (fsX1 X i0) cbX1 (by decide) fl_X1_29 (in_st i0 hi0 0 (by decide)) (fun _ => rfl) (fun _ _ => rfl) hF (dtX1_insertRow_0 1 (1, .getfield 29, 3) rfl) (fun v1 hF => ?_)
  refine r_bipush (v := 120) hk (dtX1_insertRow_0 2 (4, .bipush 120, 2) rfl) (by decide) ?_
  refine r_icmp_lt hk 11 hF (dtX1_insertRow_0 3 (6, .if_icmp .lt 5, 3) rfl) (by decide) (fun hF => ?_) (fun hF => ?_)
  · refine r_iconst (v := 0) hk (dtX1_insertRow_0 6 (11, .iconst 0, 1) rfl) (by decide) ?_
    refine r_istore_n hk [(2, .int 0), (0, .ref (xad X (1, i0, 0, 0))), (1, .int p1)] (dtX1_insertRow_0 7 (12, .istore_n 2, 1) rfl) (by decide) rfl ?_
    have e45_3 : ∀ (v2 : Int32), (C_X1_insertRow_45 i0 p1 m0) v2 = some (rv, mE) → G X K 45 [(0, .ref (xad X (1, i0, 0, 0))), (1, .int p1), (2, .int v2)] [] m0 := by
      intro v2 hF
      unfold C_X1_insertRow_45 at hF
      refine r_aload_n hk 0 (dtX1_insertRow_0 24 (45, .aload_n 0, 1) rfl) rfl ?_
      refine r_getR hk (k := 1) (fsX1 X i0) cbX1 (by decide) fl_X1_17 (in_st i0 hi0 0 (by decide)) (fun _ => rfl) (fun _ _ => rfl) (dtX1_insertRow_0 25 (46, .getfield 17, 3) rfl) ?_
      refine r_iload_n hk 2 (dtX1_insertRow_0 26 (49, .iload_n 2, 1) rfl) rfl ?_
      refine r_aload_n hk 0 (dtX1_insertRow_0 27 (50, .aload_n 0, 1) rfl) rfl ?_
      refine r_getR hk (k := 1) (fsX1 X i0) cbX1 (by decide) fl_X1_17 (in_st i0 hi0 0 (by decide)) (fun _ => rfl) (fun _ _ => rfl) (dtX1_insertRow_0 28 (51, .getfield 17, 3) rfl) ?_
      refine r_iload_n hk 2 (dtX1_insertRow_0 29 (54, .iload_n 2, 1) rfl) rfl ?_
      refine r_iconst (v := 1) hk (dtX1_insertRow_0 30 (55, .iconst 1, 1) rfl) (by decide) ?_
      refine r_iadd hk hF (dtX1_insertRow_0 31 (56, .iadd, 1) rfl) (fun v4 hF => ?_)
      refine r_aload_n hk 0 (dtX1_insertRow_0 32 (57, .aload_n 0, 1) rfl) rfl ?_
      refine r_getI hk (k := 3) (fsX1 X i0) cbX1 (by decide) fl_X1_29 (in_st i0 hi0 0 (by decide)) (fun _ => rfl) (fun _ _ => rfl) hF (dtX1_insertRow_0 33 (58, .getfield 29, 3) rfl) (fun v5 hF => ?_)
      refine r_iload_n hk 2 (dtX1_insertRow_0 34 (61, .iload_n 2, 1) rfl) rfl ?_
      refine r_isub hk hF (dtX1_insertRow_0 35 (62, .isub, 1) rfl) (fun v6 hF => ?_)
      refine r_copyi hk (in_st i0 hi0 2 (by decide)) (fun _ => rfl) (in_st i0 hi0 2 (by decide)) (fun _ => rfl) lk_X1_33 hF (by decide) (Nat.le_of_ble_eq_true rfl) (dtX1_insertRow_0 36 (63, .invokestatic 33, 3) rfl) (fun m7 hF => ?_)
      refine r_aload_n hk 0 (dtX1_insertRow_0 37 (66, .aload_n 0, 1) rfl) rfl ?_
      refine r_getR hk (k := 2) (fsX1 X i0) cbX1 (by decide) fl_X1_21 (in_st i0 hi0 0 (by decide)) (fun _ => rfl) (fun _ _ => rfl) (dtX1_insertRow_0 38 (67, .getfield 21, 3) rfl) ?_
      refine r_iload_n hk 2 (dtX1_insertRow_0 39 (70, .iload_n 2, 1) rfl) rfl ?_
      refine r_bipush (v := 8) hk (dtX1_insertRow_0 40 (71, .bipush 8, 2) rfl) (by decide) ?_
      refine r_imul hk hF (dtX1_insertRow_0 41 (73, .imul, 1) rfl) (fun v8 hF => ?_)
      refine r_aload_n hk 0 (dtX1_insertRow_0 42 (74, .aload_n 0, 1) rfl) rfl ?_
      refine r_getR hk (k := 2) (fsX1 X i0) cbX1 (by decide) fl_X1_21 (in_st i0 hi0 0 (by decide)) (fun _ => rfl) (fun _ _ => rfl) (dtX1_insertRow_0 43 (75, .getfield 21, 3) rfl) ?_
      refine r_iload_n hk 2 (dtX1_insertRow_0 44 (78, .iload_n 2, 1) rfl) rfl ?_
      refine r_iconst (v := 1) hk (dtX1_insertRow_0 45 (79, .iconst 1, 1) rfl) (by decide) ?_
      refine r_iadd hk hF (dtX1_insertRow_0 46 (80, .iadd, 1) rfl) (fun v9 hF => ?_)
      refine r_bipush (v := 8) hk (dtX1_insertRow_0 47 (81, .bipush 8, 2) rfl) (by decide) ?_
      refine r_imul hk hF (dtX1_insertRow_0 48 (83, .imul, 1) rfl) (fun v10 hF => ?_)
      refine r_aload_n hk 0 (dtX1_insertRow_0 49 (84, .aload_n 0, 1) rfl) rfl ?_
      refine r_getI hk (k := 3) (fsX1 X i0) cbX1 (by decide) fl_X1_29 (in_st i0 hi0 0 (by decide)) (fun _ => rfl) (fun _ _ => rfl) hF (dtX1_insertRow_0 50 (85, .getfield 29, 3) rfl) (fun v11 hF => ?_)
      refine r_iload_n hk 2 (dtX1_insertRow_0 51 (88, .iload_n 2, 1) rfl) rfl ?_
      refine r_isub hk hF (dtX1_insertRow_0 52 (89, .isub, 1) rfl) (fun v12 hF => ?_)
      refine r_bipush (v := 8) hk (dtX1_insertRow_0 53 (90, .bipush 8, 2) rfl) (by decide) ?_
      refine r_imul hk hF (dtX1_insertRow_0 54 (92, .imul, 1) rfl) (fun v13 hF => ?_)
      refine r_copyi hk (in_st i0 hi0 3 (by decide)) (fun _ => rfl) (in_st i0 hi0 3 (by decide)) (fun _ => rfl) lk_X1_33 hF (by decide) (Nat.le_of_ble_eq_true rfl) (dtX1_insertRow_0 55 (93, .invokestatic 33, 3) rfl) (fun m14 hF => ?_)
      refine r_aload_n hk 0 (dtX1_insertRow_0 56 (96, .aload_n 0, 1) rfl) rfl ?_
      refine r_dup hk (dtX1_insertRow_0 57 (97, .dup, 1) rfl) rfl ?_
      refine r_getI hk (k := 3) (fsX1 X i0) cbX1 (by decide) fl_X1_29 (in_st i0 hi0 0 (by decide)) (fun _ => rfl) (fun _ _ => rfl) hF (dtX1_insertRow_0 58 (98, .getfield 29, 3) rfl) (fun v15 hF => ?_)
      refine r_iconst (v := 1) hk (dtX1_insertRow_0 59 (101, .iconst 1, 1) rfl) (by decide) ?_
      refine r_iadd hk hF (dtX1_insertRow_0 60 (102, .iadd, 1) rfl) (fun v16 hF => ?_)
      refine r_putI hk (k := 3) (fsX1 X i0) cbX1 (by decide) fl_X1_29 (in_st i0 hi0 0 (by decide)) (fun _ => rfl) rfl rfl (fun _ _ _ => rfl) (fun _ _ => (by decide : 3 < 4)) hF (dtX1_insertRow_0 61 (103, .putfield 29, 3) rfl) (fun m17 hF => ?_)
      refine r_aload_n hk 0 (dtX1_insertRow_0 62 (106, .aload_n 0, 1) rfl) rfl ?_
      refine r_getR hk (k := 1) (fsX1 X i0) cbX1 (by decide) fl_X1_17 (in_st i0 hi0 0 (by decide)) (fun _ => rfl) (fun _ _ => rfl) (dtX1_insertRow_0 63 (107, .getfield 17, 3) rfl) ?_
      refine r_iload_n hk 2 (dtX1_insertRow_1 0 (110, .iload_n 2, 1) rfl) rfl ?_
      refine r_iload_n hk 1 (dtX1_insertRow_1 1 (111, .iload_n 1, 1) rfl) rfl ?_
      refine r_iast hk (in_st i0 hi0 2 (by decide)) (fun _ => rfl) hF (dtX1_insertRow_1 2 (112, .iastore, 1) rfl) (fun m18 hF => ?_)
      refine r_iconst (v := 0) hk (dtX1_insertRow_1 3 (113, .iconst 0, 1) rfl) (by decide) ?_
      refine r_istore_n hk [(3, .int 0), (0, .ref (xad X (1, i0, 0, 0))), (1, .int p1), (2, .int v2)] (dtX1_insertRow_1 4 (114, .istore_n 3, 1) rfl) (by decide) rfl ?_
      have e135_20 : ∀ (m19 : Mem), (C_X1_insertRow_135 v2) m19 = some (rv, mE) → G X K 135 [(2, .int v2)] [] m19 := by
        intro m19 hF
        unfold C_X1_insertRow_135 at hF
        refine r_iload_n hk 0 (dtX1_insertRow_1 15 (135, .iload_n 2, 1) rfl) rfl ?_
        cases Option.some.inj hF
        exact hR _ _ (dtX1_insertRow_1 16 (136, .ireturn, 1) rfl)
      have l24 : ∀ (n24 : Nat) (v21 : Int32) (m22 : Mem), L_X1_insertRow_115 i0 v2 n24 v21 m22 = some (rv, mE) → G X K 115 [(0, .ref (xad X (1, i0, 0, 0))), (2, .int v2), (3, .int v21)] [] m22 := by
        intro n24
        induction n24 with
        | zero => intro v21 m22 hF; exact nomatch (show (none : Option (Int32 × Mem)) = some (rv, mE) from hF)
        | succ n24 ih24 =>
          intro v21 m22 hF
          rw [L_X1_insertRow_115] at hF
          refine r_iload_n hk 2 (dtX1_insertRow_1 5 (115, .iload_n 3, 1) rfl) rfl ?_
          refine r_bipush (v := 8) hk (dtX1_insertRow_1 6 (116, .bipush 8, 2) rfl) (by decide) ?_
          refine r_icmp_ge hk 135 hF (dtX1_insertRow_1 7 (118, .if_icmp .ge 17, 3) rfl) (by decide) (fun hF => ?_) (fun hF => ?_)
          · exact r_sub hk [1] rfl (e135_20 m22 hF)
          · refine r_aload_n hk 0 (dtX1_insertRow_1 8 (121, .aload_n 0, 1) rfl) rfl ?_
            refine r_iload_n hk 1 (dtX1_insertRow_1 9 (122, .iload_n 2, 1) rfl) rfl ?_
            refine r_iload_n hk 2 (dtX1_insertRow_1 10 (123, .iload_n 3, 1) rfl) rfl ?_
            refine r_ldc hk cn_X1_39 (dtX1_insertRow_1 11 (124, .ldc 39, 2) rfl) ?_
            refine r_callVm hF (fun w m25 h H locs ls hH hS hl => run_V (y := yX1_setValue) hk (in_st i0 hi0 0 (by decide)) rfl rfl (c_X1_setValue (kl K) hk.2.2.2.2.2.2.2.2.2.2.2 X i0 hi0 v2 v21 (-1000000) m22 w m25 h) lk_X1_44 me_X1_setValue yf_X1_setValue (by decide) (by decide) rfl (Nat.le_of_ble_eq_true rfl) rfl (dtX1_insertRow_1 12 (126, .invokevirtual 44, 3) rfl) hH hS hl) (fun _ m25 hF => ?_)
            refine r_iinc hk 1 2 (fun v26 => [(3, .int v26), (0, .ref (xad X (1, i0, 0, 0))), (2, .int v2)]) hF (dtX1_insertRow_1 13 (129, .iinc 3 1, 3) rfl) rfl (by decide) (by decide) (fun _ => rfl) (fun v26 hF => ?_)
            refine r_goto hk 115 (dtX1_insertRow_1 14 (132, .goto (-17), 3) rfl) (by decide) ?_
            exact r_sub hk [1, 2, 0] rfl (ih24 v26 m25 hF)
      exact r_sub hk [1, 3, 0] rfl (l24 fu 0 m18 hF)
    have l29 : ∀ (n29 : Nat) (v27 : Int32), L_X1_insertRow_13 i0 p1 m0 n29 v27 = some (rv, mE) → G X K 13 [(0, .ref (xad X (1, i0, 0, 0))), (1, .int p1), (2, .int v27)] [] m0 := by
      intro n29
      induction n29 with
      | zero => intro v27 hF; exact nomatch (show (none : Option (Int32 × Mem)) = some (rv, mE) from hF)
      | succ n29 ih29 =>
        intro v27 hF
        rw [L_X1_insertRow_13] at hF
        refine r_iload_n hk 2 (dtX1_insertRow_0 8 (13, .iload_n 2, 1) rfl) rfl ?_
        refine r_aload_n hk 0 (dtX1_insertRow_0 9 (14, .aload_n 0, 1) rfl) rfl ?_
        refine r_getI hk (k := 3) (fsX1 X i0) cbX1 (by decide) fl_X1_29 (in_st i0 hi0 0 (by decide)) (fun _ => rfl) (fun _ _ => rfl) hF (dtX1_insertRow_0 10 (15, .getfield 29, 3) rfl) (fun v30 hF => ?_)
        refine r_icmp_ge hk 45 hF (dtX1_insertRow_0 11 (18, .if_icmp .ge 27, 3) rfl) (by decide) (fun hF => ?_) (fun hF => ?_)
        · exact r_sub hk [0, 1, 2] rfl (e45_3 v27 hF)
        · refine r_aload_n hk 0 (dtX1_insertRow_0 12 (21, .aload_n 0, 1) rfl) rfl ?_
          refine r_aload_n hk 0 (dtX1_insertRow_0 13 (22, .aload_n 0, 1) rfl) rfl ?_
          refine r_getR hk (k := 1) (fsX1 X i0) cbX1 (by decide) fl_X1_17 (in_st i0 hi0 0 (by decide)) (fun _ => rfl) (fun _ _ => rfl) (dtX1_insertRow_0 14 (23, .getfield 17, 3) rfl) ?_
          refine r_iload_n hk 2 (dtX1_insertRow_0 15 (26, .iload_n 2, 1) rfl) rfl ?_
          refine r_iald hk (in_st i0 hi0 2 (by decide)) (fun _ => rfl) hF (dtX1_insertRow_0 16 (27, .iaload, 1) rfl) (fun v31 hF => ?_)
          refine r_callI hF (fun v32 h H locs ls hH hS hl => run_V (y := yX1_tableOf) hk (in_st i0 hi0 0 (by decide)) rfl rfl (c_X1_tableOf (kl K) hk.2.2.2.2.2.2.2.2.2.2.2 X i0 hi0 v31 m0 v32 h) lk_X1_48 me_X1_tableOf yf_X1_tableOf (by decide) (by decide) rfl (Nat.le_of_ble_eq_true rfl) rfl (dtX1_insertRow_0 17 (28, .invokevirtual 48, 3) rfl) hH hS hl) (fun v32 hF => ?_)
          refine r_aload_n hk 0 (dtX1_insertRow_0 18 (31, .aload_n 0, 1) rfl) rfl ?_
          refine r_iload_n hk 1 (dtX1_insertRow_0 19 (32, .iload_n 1, 1) rfl) rfl ?_
          refine r_callI hF (fun v33 h H locs ls hH hS hl => run_V (y := yX1_tableOf) hk (in_st i0 hi0 0 (by decide)) rfl rfl (c_X1_tableOf (kl K) hk.2.2.2.2.2.2.2.2.2.2.2 X i0 hi0 p1 m0 v33 h) lk_X1_48 me_X1_tableOf yf_X1_tableOf (by decide) (by decide) rfl (Nat.le_of_ble_eq_true rfl) rfl (dtX1_insertRow_0 20 (33, .invokevirtual 48, 3) rfl) hH hS hl) (fun v33 hF => ?_)
          refine r_icmp_gt hk 45 hF (dtX1_insertRow_0 21 (36, .if_icmp .gt 9, 3) rfl) (by decide) (fun hF => ?_) (fun hF => ?_)
          · exact r_sub hk [0, 1, 2] rfl (e45_3 v27 hF)
          · refine r_iinc hk 1 2 (fun v34 => [(2, .int v34), (0, .ref (xad X (1, i0, 0, 0))), (1, .int p1)]) hF (dtX1_insertRow_0 22 (39, .iinc 2 1, 3) rfl) rfl (by decide) (by decide) (fun _ => rfl) (fun v34 hF => ?_)
            refine r_goto hk 13 (dtX1_insertRow_0 23 (42, .goto (-29), 3) rfl) (by decide) ?_
            exact r_sub hk [1, 2, 0] rfl (ih29 v34 hF)
    exact r_sub hk [1, 2, 0] rfl (l29 fu 0 hF)
  · refine r_iconst (v := (-1)) hk (dtX1_insertRow_0 4 (9, .iconst (-1), 1) rfl) (by decide) ?_
    cases Option.some.inj hF
    exact hR _ _ (dtX1_insertRow_0 5 (10, .ireturn, 1) rfl)
set_option maxHeartbeats 4000000 in
set_option maxRecDepth 100000 in
theorem c_X3_row (l : Launch) (hlf : l.stackTraces = false) (X : XW)  (p1 : Int32) (m0 : Mem) (rv : Int32 ⊕ Nat) (mE : Mem) (hF : F_X3_row p1 m0 = some (rv, mE)) : MT X l yX3_row cX3_row 3 (some .int) 8 [.ref (xad X (0, 0, 0, 0)), .int p1] m0 rv mE (QTI X rv mE) := by
  refine startTI hlf (by decide +kernel) rfl [(0, .ref (xad X (0, 0, 0, 0))), (1, .int p1)] rfl (Nat.le_of_ble_eq_true rfl) (fun K hk hR hX => ?_)
  unfold F_X3_row at hF
  refine r_iload_n hk 1 (dtX3_row_0 0 (0, .iload_n 1, 1) rfl) rfl ?_
  refine r_callI hF (fun v1 h H locs ls hH hS hl => run_S hk (c_X3_isTenant (kl K) hk.2.2.2.2.2.2.2.2.2.2.2 X  p1 m0 v1 h) lk_X3_34 me_X3_isTenant yf_X3_isTenant (by decide) (by decide) rfl (Nat.le_of_ble_eq_true rfl) rfl (dtX3_row_0 1 (1, .invokestatic 34, 3) rfl) hH hS hl) (fun v1 hF => ?_)
  refine r_callVts hk hF (fun c h => by cases Option.some.inj h; exact hX c rfl) (fun R h hf H locs ls hH hS hl => runT_S hk (c_X3_require (kl K) hk.2.2.2.2.2.2.2.2.2.2.2 X  v1 m0 R h) lk_X3_41 me_X3_require yf_X3_require (by decide) (by decide) rfl (Nat.le_of_ble_eq_true rfl) rfl (dtX3_row_0 2 (4, .invokestatic 41, 3) rfl) hf hH hS hl) (fun _ hF => ?_)
  refine r_aload_n hk 0 (dtX3_row_0 3 (7, .aload_n 0, 1) rfl) rfl ?_
  refine r_callRm (fun q => xad X (1, q, 0, 0)) hF (fun q2 m3 h H locs ls hH hS hl => run_V (y := yX3_save) hk (in_main 0 (by decide)) rfl rfl (c_X3_save (kl K) hk.2.2.2.2.2.2.2.2.2.2.2 X   m0 q2 m3 h) lk_X3_45 me_X3_save yf_X3_save (by decide) (by decide) rfl (Nat.le_of_ble_eq_true rfl) rfl (dtX3_row_0 4 (8, .invokevirtual 45, 3) rfl) hH hS hl) (fun q2 m3 _ hF => ?_)
  obtain ⟨hq2, hF⟩ := bp_some hF
  refine r_pop hk (dtX3_row_0 5 (11, .pop, 1) rfl) rfl ?_
  refine r_aload_n hk 0 (dtX3_row_0 6 (12, .aload_n 0, 1) rfl) rfl ?_
  refine r_getS hk fl_X3_30 hF (dtX3_row_0 7 (13, .getfield 30, 3) rfl) (fun q4 hq4 hF => ?_)
  refine r_getR hk (k := 0) (fsX1 X q4) cbX1 (by decide) fl_X3_49 (in_st q4 hq4 0 (by decide)) (fun _ => rfl) (fun _ _ => rfl) (dtX3_row_0 8 (16, .getfield 49, 3) rfl) ?_
  refine r_iload_n hk 1 (dtX3_row_0 9 (19, .iload_n 1, 1) rfl) rfl ?_
  refine r_aldT hk hq4 hF (dtX3_row_0 10 (20, .aaload, 1) rfl) (fun q5 hq5 hF => ?_)
  refine r_astore_n hk [(2, .ref (xad X (2, q4, q5, 0))), (0, .ref (xad X (0, 0, 0, 0))), (1, .int p1)] (dtX3_row_0 11 (21, .astore_n 2, 1) rfl) (by decide) rfl ?_
  refine r_aload_n hk 1 (dtX3_row_0 12 (22, .aload_n 0, 1) rfl) rfl ?_
  refine r_getS hk fl_X3_30 hF (dtX3_row_0 13 (23, .getfield 30, 3) rfl) (fun q6 hq6 hF => ?_)
  refine r_iload_n hk 2 (dtX3_row_0 14 (26, .iload_n 1, 1) rfl) rfl ?_
  refine r_callI hF (fun v7 h H locs ls hH hS hl => run_V (y := yX1_rowsOf) hk (in_st q6 hq6 0 (by decide)) rfl rfl (c_X1_rowsOf (kl K) hk.2.2.2.2.2.2.2.2.2.2.2 X q6 hq6 p1 m3 v7 h) lk_X3_100 me_X1_rowsOf yf_X1_rowsOf (by decide) (by decide) rfl (Nat.le_of_ble_eq_true rfl) rfl (dtX3_row_0 15 (27, .invokevirtual 100, 3) rfl) hH hS hl) (fun v7 hF => ?_)
  refine r_aload_n hk 0 (dtX3_row_0 16 (30, .aload_n 2, 1) rfl) rfl ?_
  refine r_getI hk (k := 3) (fsX2 X q4 q5) cbX2 (by decide) fl_X3_103 (in_tn q4 hq4 q5 hq5 0 (by decide)) (fun _ => rfl) (fun _ _ => rfl) hF (dtX3_row_0 17 (31, .getfield 103, 3) rfl) (fun v8 hF => ?_)
  refine r_icmp_lt hk 43 hF (dtX3_row_0 18 (34, .if_icmp .lt 9, 3) rfl) (by decide) (fun hF => ?_) (fun hF => ?_)
  · refine r_aload_n hk 0 (dtX3_row_0 23 (43, .aload_n 2, 1) rfl) rfl ?_
    refine r_getI hk (k := 5) (fsX2 X q4 q5) cbX2 (by decide) fl_X3_106 (in_tn q4 hq4 q5 hq5 0 (by decide)) (fun _ => rfl) (fun _ _ => rfl) hF (dtX3_row_0 24 (44, .getfield 106, 3) rfl) (fun v9 hF => ?_)
    have j68_10 : (J_X3_row_68 p1 m3) = some (rv, mE) → G X K 68 [(0, .ref (xad X (0, 0, 0, 0))), (1, .int p1)] [] m3 := by
      intro hF
      unfold J_X3_row_68 at hF
      refine r_aload_n hk 0 (dtX3_row_0 35 (68, .aload_n 0, 1) rfl) rfl ?_
      refine r_getS hk fl_X3_30 hF (dtX3_row_0 36 (69, .getfield 30, 3) rfl) (fun q11 hq11 hF => ?_)
      refine r_iload_n hk 1 (dtX3_row_0 37 (72, .iload_n 1, 1) rfl) rfl ?_
      refine r_callIm hF (fun v12 m13 h H locs ls hH hS hl => run_V (y := yX1_insertRow) hk (in_st q11 hq11 0 (by decide)) rfl rfl (c_X1_insertRow (kl K) hk.2.2.2.2.2.2.2.2.2.2.2 X q11 hq11 p1 m3 v12 m13 h) lk_X3_113 me_X1_insertRow yf_X1_insertRow (by decide) (by decide) rfl (Nat.le_of_ble_eq_true rfl) rfl (dtX3_row_0 38 (73, .invokevirtual 113, 3) rfl) hH hS hl) (fun v12 m13 hF => ?_)
      cases Option.some.inj hF
      exact hR v12 rfl _ _ (dtX3_row_0 39 (76, .ireturn, 1) rfl)
    refine r_if_ne hk 68 hF (dtX3_row_0 25 (47, .ifCond .ne 21, 3) rfl) (by decide) (fun hF => ?_) (fun hF => ?_)
    · exact r_sub hk [1, 2] rfl (j68_10 hF)
    · refine r_aload_n hk 1 (dtX3_row_0 26 (50, .aload_n 0, 1) rfl) rfl ?_
      refine r_getS hk fl_X3_30 hF (dtX3_row_0 27 (51, .getfield 30, 3) rfl) (fun q14 hq14 hF => ?_)
      refine r_callI hF (fun v15 h H locs ls hH hS hl => run_V (y := yX1_tableRows) hk (in_st q14 hq14 0 (by decide)) rfl rfl (c_X1_tableRows (kl K) hk.2.2.2.2.2.2.2.2.2.2.2 X q14 hq14  m3 v15 h) lk_X3_110 me_X1_tableRows yf_X1_tableRows (by decide) (by decide) rfl (Nat.le_of_ble_eq_true rfl) rfl (dtX3_row_0 28 (54, .invokevirtual 110, 3) rfl) hH hS hl) (fun v15 hF => ?_)
      refine r_bipush (v := 40) hk (dtX3_row_0 29 (57, .bipush 40, 2) rfl) (by decide) ?_
      refine r_icmp_lt hk 68 hF (dtX3_row_0 30 (59, .if_icmp .lt 9, 3) rfl) (by decide) (fun hF => ?_) (fun hF => ?_)
      · exact r_sub hk [1, 2] rfl (j68_10 hF)
      · refine r_aload_n hk 0 (dtX3_row_0 31 (62, .aload_n 2, 1) rfl) rfl ?_
        refine r_iconst (v := 2) hk (dtX3_row_0 32 (63, .iconst 2, 1) rfl) (by decide) ?_
        refine r_callIm hF (fun v16 m17 h H locs ls hH hS hl => run_V (y := yX2_refuse) hk (in_tn q4 hq4 q5 hq5 0 (by decide)) rfl rfl (c_X2_refuse (kl K) hk.2.2.2.2.2.2.2.2.2.2.2 X q4 hq4 q5 hq5 2 m3 v16 m17 h) lk_X3_63 me_X2_refuse yf_X2_refuse (by decide) (by decide) rfl (Nat.le_of_ble_eq_true rfl) rfl (dtX3_row_0 33 (64, .invokevirtual 63, 3) rfl) hH hS hl) (fun v16 m17 hF => ?_)
        cases Option.some.inj hF
        exact hR v16 rfl _ _ (dtX3_row_0 34 (67, .ireturn, 1) rfl)
  · refine r_aload_n hk 0 (dtX3_row_0 19 (37, .aload_n 2, 1) rfl) rfl ?_
    refine r_iconst (v := 1) hk (dtX3_row_0 20 (38, .iconst 1, 1) rfl) (by decide) ?_
    refine r_callIm hF (fun v18 m19 h H locs ls hH hS hl => run_V (y := yX2_refuse) hk (in_tn q4 hq4 q5 hq5 0 (by decide)) rfl rfl (c_X2_refuse (kl K) hk.2.2.2.2.2.2.2.2.2.2.2 X q4 hq4 q5 hq5 1 m3 v18 m19 h) lk_X3_63 me_X2_refuse yf_X2_refuse (by decide) (by decide) rfl (Nat.le_of_ble_eq_true rfl) rfl (dtX3_row_0 21 (39, .invokevirtual 63, 3) rfl) hH hS hl) (fun v18 m19 hF => ?_)
    cases Option.some.inj hF
    exact hR v18 rfl _ _ (dtX3_row_0 22 (42, .ireturn, 1) rfl)
set_option maxHeartbeats 4000000 in
set_option maxRecDepth 100000 in
theorem c_X3_fits (l : Launch) (hlf : l.stackTraces = false) (X : XW)  (p1 : Int32) (p2 : Int32) (m0 : Mem) (rv : Int32) (hF : F_X3_fits p1 p2 m0 = some rv) : MX X l yX3_fits cX3_fits 2 (some .boolean) 0 [.int p1, .int p2] m0 (QI X rv m0) := by
  refine startZ hlf (by decide +kernel) rfl [(0, .int p1), (1, .int p2)] rfl (Nat.le_of_ble_eq_true rfl) (fun K hk hR => ?_)
  unfold F_X3_fits at hF
  refine r_iload_n hk 0 (dtX3_fits_0 0 (0, .iload_n 0, 1) rfl) rfl ?_
  by_cases hs1_0 : p1 = 0
  · rw [if_pos hs1_0] at hF
    refine r_lookup (off := 27) hk 28 (dtX3_fits_0 1 (1, .lookupswitch 62 #[(0, 27), (1, 47)], 27) rfl) (by decide) (lk_eq hs1_0 (by decide)) (by decide) ?_
    refine r_iload_n hk 1 (dtX3_fits_0 2 (28, .iload_n 1, 1) rfl) rfl ?_
    refine r_sipush (v := (-999)) hk (dtX3_fits_0 3 (29, .sipush (-999), 3) rfl) (by decide) ?_
    have j47_2 : ∀ (v1 : Int32), J_X3_fits_47 v1 = some rv → G X K 47 [] [.int v1] m0 := by
      intro v1 hF
      unfold J_X3_fits_47 at hF
      obtain ⟨hz, hF⟩ := ck_some hF
      cases Option.some.inj hF
      exact hR _ _ hz (dtX3_fits_0 11 (47, .ireturn, 1) rfl)
    have j46_3 : J_X3_fits_46 = some rv → G X K 46 [] [] m0 := by
      intro hF
      unfold J_X3_fits_46 at hF
      refine r_iconst (v := 0) hk (dtX3_fits_0 10 (46, .iconst 0, 1) rfl) (by decide) ?_
      exact r_sub hk [] rfl (j47_2 0 hF)
    refine r_icmp_lt hk 46 hF (dtX3_fits_0 4 (32, .if_icmp .lt 14, 3) rfl) (by decide) (fun hF => ?_) (fun hF => ?_)
    · exact r_sub hk [] rfl (j46_3 hF)
    · refine r_iload_n hk 1 (dtX3_fits_0 5 (35, .iload_n 1, 1) rfl) rfl ?_
      refine r_sipush (v := 999) hk (dtX3_fits_0 6 (36, .sipush 999, 3) rfl) (by decide) ?_
      refine r_icmp_gt hk 46 hF (dtX3_fits_0 7 (39, .if_icmp .gt 7, 3) rfl) (by decide) (fun hF => ?_) (fun hF => ?_)
      · exact r_sub hk [] rfl (j46_3 hF)
      · refine r_iconst (v := 1) hk (dtX3_fits_0 8 (42, .iconst 1, 1) rfl) (by decide) ?_
        refine r_goto hk 47 (dtX3_fits_0 9 (43, .goto 4, 3) rfl) (by decide) ?_
        exact r_sub hk [] rfl (j47_2 1 hF)
  · rw [if_neg hs1_0] at hF
    by_cases hs1_1 : p1 = 1
    · rw [if_pos hs1_1] at hF
      refine r_lookup (off := 47) hk 48 (dtX3_fits_0 1 (1, .lookupswitch 62 #[(0, 27), (1, 47)], 27) rfl) (by decide) (lk_eq hs1_1 (by decide)) (by decide) ?_
      refine r_iload_n hk 1 (dtX3_fits_0 12 (48, .iload_n 1, 1) rfl) rfl ?_
      have j62_5 : ∀ (v4 : Int32), J_X3_fits_62 v4 = some rv → G X K 62 [] [.int v4] m0 := by
        intro v4 hF
        unfold J_X3_fits_62 at hF
        obtain ⟨hz, hF⟩ := ck_some hF
        cases Option.some.inj hF
        exact hR _ _ hz (dtX3_fits_0 20 (62, .ireturn, 1) rfl)
      have j57_6 : J_X3_fits_57 = some rv → G X K 57 [] [] m0 := by
        intro hF
        unfold J_X3_fits_57 at hF
        refine r_iconst (v := 1) hk (dtX3_fits_0 17 (57, .iconst 1, 1) rfl) (by decide) ?_
        refine r_goto hk 62 (dtX3_fits_0 18 (58, .goto 4, 3) rfl) (by decide) ?_
        exact r_sub hk [] rfl (j62_5 1 hF)
      refine r_if_eq hk 57 hF (dtX3_fits_0 13 (49, .ifCond .eq 8, 3) rfl) (by decide) (fun hF => ?_) (fun hF => ?_)
      · exact r_sub hk [] rfl (j57_6 hF)
      · refine r_iload_n hk 1 (dtX3_fits_0 14 (52, .iload_n 1, 1) rfl) rfl ?_
        refine r_iconst (v := 1) hk (dtX3_fits_0 15 (53, .iconst 1, 1) rfl) (by decide) ?_
        refine r_icmp_ne hk 61 hF (dtX3_fits_0 16 (54, .if_icmp .ne 7, 3) rfl) (by decide) (fun hF => ?_) (fun hF => ?_)
        · refine r_iconst (v := 0) hk (dtX3_fits_0 19 (61, .iconst 0, 1) rfl) (by decide) ?_
          exact r_sub hk [] rfl (j62_5 0 hF)
        · exact r_sub hk [] rfl (j57_6 hF)
    · rw [if_neg hs1_1] at hF
      refine r_lookup (off := 62) hk 63 (dtX3_fits_0 1 (1, .lookupswitch 62 #[(0, 27), (1, 47)], 27) rfl) (by decide) ((lv_osw hs1_0 (by decide)).trans ((lv_osw hs1_1 (by decide)).trans rfl)) (by decide) ?_
      refine r_iload_n hk 1 (dtX3_fits_0 21 (63, .iload_n 1, 1) rfl) rfl ?_
      have j79_8 : ∀ (v7 : Int32), J_X3_fits_79 v7 = some rv → G X K 79 [] [.int v7] m0 := by
        intro v7 hF
        unfold J_X3_fits_79 at hF
        obtain ⟨hz, hF⟩ := ck_some hF
        cases Option.some.inj hF
        exact hR _ _ hz (dtX3_fits_0 29 (79, .ireturn, 1) rfl)
      have j78_9 : J_X3_fits_78 = some rv → G X K 78 [] [] m0 := by
        intro hF
        unfold J_X3_fits_78 at hF
        refine r_iconst (v := 0) hk (dtX3_fits_0 28 (78, .iconst 0, 1) rfl) (by decide) ?_
        exact r_sub hk [] rfl (j79_8 0 hF)
      refine r_if_lt hk 78 hF (dtX3_fits_0 22 (64, .ifCond .lt 14, 3) rfl) (by decide) (fun hF => ?_) (fun hF => ?_)
      · exact r_sub hk [] rfl (j78_9 hF)
      · refine r_iload_n hk 1 (dtX3_fits_0 23 (67, .iload_n 1, 1) rfl) rfl ?_
        refine r_sipush (v := 3650) hk (dtX3_fits_0 24 (68, .sipush 3650, 3) rfl) (by decide) ?_
        refine r_icmp_gt hk 78 hF (dtX3_fits_0 25 (71, .if_icmp .gt 7, 3) rfl) (by decide) (fun hF => ?_) (fun hF => ?_)
        · exact r_sub hk [] rfl (j78_9 hF)
        · refine r_iconst (v := 1) hk (dtX3_fits_0 26 (74, .iconst 1, 1) rfl) (by decide) ?_
          refine r_goto hk 79 (dtX3_fits_0 27 (75, .goto 4, 3) rfl) (by decide) ?_
          exact r_sub hk [] rfl (j79_8 1 hF)
set_option maxHeartbeats 4000000 in
set_option maxRecDepth 100000 in
theorem c_X3_put (l : Launch) (hlf : l.stackTraces = false) (X : XW)  (p1 : Int32) (p2 : Int32) (p3 : Int32) (m0 : Mem) (rv : Int32 ⊕ Nat) (mE : Mem) (hF : F_X3_put p1 p2 p3 m0 = some (rv, mE)) : MT X l yX3_put cX3_put 7 (some .int) 8 [.ref (xad X (0, 0, 0, 0)), .int p1, .int p2, .int p3] m0 rv mE (QTI X rv mE) := by
  refine startTI hlf (by decide +kernel) rfl [(0, .ref (xad X (0, 0, 0, 0))), (1, .int p1), (2, .int p2), (3, .int p3)] rfl (Nat.le_of_ble_eq_true rfl) (fun K hk hR hX => ?_)
  unfold F_X3_put at hF
  refine r_aload_n hk 0 (dtX3_put_0 0 (0, .aload_n 0, 1) rfl) rfl ?_
  refine r_iload_n hk 1 (dtX3_put_0 1 (1, .iload_n 1, 1) rfl) rfl ?_
  refine r_callVts hk hF (fun c h => by cases Option.some.inj h; exact hX c rfl) (fun R h hf H locs ls hH hS hl => runT_V (y := yX3_requireRow) hk (in_main 0 (by decide)) rfl rfl (c_X3_requireRow (kl K) hk.2.2.2.2.2.2.2.2.2.2.2 X  p1 m0 R h) lk_X3_116 me_X3_requireRow yf_X3_requireRow (by decide) (by decide) rfl (Nat.le_of_ble_eq_true rfl) rfl (dtX3_put_0 2 (2, .invokevirtual 116, 3) rfl) hf hH hS hl) (fun _ hF => ?_)
  refine r_iload_n hk 2 (dtX3_put_0 3 (5, .iload_n 2, 1) rfl) rfl ?_
  refine r_callI hF (fun v1 h H locs ls hH hS hl => run_S hk (c_X3_isLetter (kl K) hk.2.2.2.2.2.2.2.2.2.2.2 X  p2 m0 v1 h) lk_X3_38 me_X3_isLetter yf_X3_isLetter (by decide) (by decide) rfl (Nat.le_of_ble_eq_true rfl) rfl (dtX3_put_0 4 (6, .invokestatic 38, 3) rfl) hH hS hl) (fun v1 hF => ?_)
  have j31_3 : ∀ (v2 : Int32), (J_X3_put_31 p1 p2 p3 m0) v2 = some (rv, mE) → G X K 31 [(0, .ref (xad X (0, 0, 0, 0))), (1, .int p1), (2, .int p2), (3, .int p3)] [.int v2] m0 := by
    intro v2 hF
    unfold J_X3_put_31 at hF
    refine r_callVts hk hF (fun c h => by cases Option.some.inj h; exact hX c rfl) (fun R h hf H locs ls hH hS hl => runT_S hk (c_X3_require (kl K) hk.2.2.2.2.2.2.2.2.2.2.2 X  v2 m0 R h) lk_X3_41 me_X3_require yf_X3_require (by decide) (by decide) rfl (Nat.le_of_ble_eq_true rfl) rfl (dtX3_put_0 15 (31, .invokestatic 41, 3) rfl) hf hH hS hl) (fun _ hF => ?_)
    refine r_aload_n hk 0 (dtX3_put_0 16 (34, .aload_n 0, 1) rfl) rfl ?_
    refine r_callRm (fun q => xad X (1, q, 0, 0)) hF (fun q4 m5 h H locs ls hH hS hl => run_V (y := yX3_save) hk (in_main 0 (by decide)) rfl rfl (c_X3_save (kl K) hk.2.2.2.2.2.2.2.2.2.2.2 X   m0 q4 m5 h) lk_X3_45 me_X3_save yf_X3_save (by decide) (by decide) rfl (Nat.le_of_ble_eq_true rfl) rfl (dtX3_put_0 17 (35, .invokevirtual 45, 3) rfl) hH hS hl) (fun q4 m5 _ hF => ?_)
    obtain ⟨hq4, hF⟩ := bp_some hF
    refine r_pop hk (dtX3_put_0 18 (38, .pop, 1) rfl) rfl ?_
    refine r_aload_n hk 0 (dtX3_put_0 19 (39, .aload_n 0, 1) rfl) rfl ?_
    refine r_getS hk fl_X3_30 hF (dtX3_put_0 20 (40, .getfield 30, 3) rfl) (fun q6 hq6 hF => ?_)
    refine r_iload_n hk 1 (dtX3_put_0 21 (43, .iload_n 1, 1) rfl) rfl ?_
    refine r_callR (fun q => xad X (2, q6, q, 0)) hF (fun q7 h H locs ls hH hS hl => run_V (y := yX1_ownerOf) hk (in_st q6 hq6 0 (by decide)) rfl rfl (c_X1_ownerOf (kl K) hk.2.2.2.2.2.2.2.2.2.2.2 X q6 hq6 p1 m5 q7 h) lk_X3_119 me_X1_ownerOf yf_X1_ownerOf (by decide) (by decide) rfl (Nat.le_of_ble_eq_true rfl) rfl (dtX3_put_0 22 (44, .invokevirtual 119, 3) rfl) hH hS hl) (fun q7 _ hF => ?_)
    obtain ⟨hq7, hF⟩ := bp_some hF
    refine r_astore hk [(4, .ref (xad X (2, q6, q7, 0))), (0, .ref (xad X (0, 0, 0, 0))), (1, .int p1), (2, .int p2), (3, .int p3)] (dtX3_put_0 23 (47, .astore 4, 2) rfl) (by decide) rfl ?_
    refine r_aload hk 0 (dtX3_put_0 24 (49, .aload 4, 2) rfl) rfl ?_
    refine r_iload_n hk 3 (dtX3_put_0 25 (51, .iload_n 2, 1) rfl) rfl ?_
    refine r_callI hF (fun v8 h H locs ls hH hS hl => run_V (y := yX2_columnOf) hk (in_tn q6 hq6 q7 hq7 0 (by decide)) rfl rfl (c_X2_columnOf (kl K) hk.2.2.2.2.2.2.2.2.2.2.2 X q6 hq6 q7 hq7 p2 m5 v8 h) lk_X3_67 me_X2_columnOf yf_X2_columnOf (by decide) (by decide) rfl (Nat.le_of_ble_eq_true rfl) rfl (dtX3_put_0 26 (52, .invokevirtual 67, 3) rfl) hH hS hl) (fun v8 hF => ?_)
    refine r_istore hk [(5, .int v8), (4, .ref (xad X (2, q6, q7, 0))), (0, .ref (xad X (0, 0, 0, 0))), (1, .int p1), (2, .int p2), (3, .int p3)] (dtX3_put_0 27 (55, .istore 5, 2) rfl) (by decide) rfl ?_
    refine r_iload hk 0 (dtX3_put_0 28 (57, .iload 5, 2) rfl) rfl ?_
    refine r_iconst (v := (-1)) hk (dtX3_put_0 29 (59, .iconst (-1), 1) rfl) (by decide) ?_
    refine r_icmp_ne hk 70 hF (dtX3_put_0 30 (60, .if_icmp .ne 10, 3) rfl) (by decide) (fun hF => ?_) (fun hF => ?_)
    · refine r_aload hk 1 (dtX3_put_0 35 (70, .aload 4, 2) rfl) rfl ?_
      refine r_getR hk (k := 1) (fsX2 X q6 q7) cbX2 (by decide) fl_X3_89 (in_tn q6 hq6 q7 hq7 0 (by decide)) (fun _ => rfl) (fun _ _ => rfl) (dtX3_put_0 36 (72, .getfield 89, 3) rfl) ?_
      refine r_iload hk 0 (dtX3_put_0 37 (75, .iload 5, 2) rfl) rfl ?_
      refine r_iald hk (in_tn q6 hq6 q7 hq7 2 (by decide)) (fun _ => rfl) hF (dtX3_put_0 38 (77, .iaload, 1) rfl) (fun v9 hF => ?_)
      refine r_iload_n hk 5 (dtX3_put_0 39 (78, .iload_n 3, 1) rfl) rfl ?_
      refine r_callI hF (fun v10 h H locs ls hH hS hl => run_S hk (c_X3_fits (kl K) hk.2.2.2.2.2.2.2.2.2.2.2 X  v9 p3 m5 v10 h) lk_X3_123 me_X3_fits yf_X3_fits (by decide) (by decide) rfl (Nat.le_of_ble_eq_true rfl) rfl (dtX3_put_0 40 (79, .invokestatic 123, 3) rfl) hH hS hl) (fun v10 hF => ?_)
      refine r_if_ne hk 93 hF (dtX3_put_0 41 (82, .ifCond .ne 11, 3) rfl) (by decide) (fun hF => ?_) (fun hF => ?_)
      · refine r_aload_n hk 2 (dtX3_put_0 46 (93, .aload_n 0, 1) rfl) rfl ?_
        refine r_getS hk fl_X3_30 hF (dtX3_put_0 47 (94, .getfield 30, 3) rfl) (fun q11 hq11 hF => ?_)
        refine r_iload_n hk 3 (dtX3_put_0 48 (97, .iload_n 1, 1) rfl) rfl ?_
        refine r_iload hk 0 (dtX3_put_0 49 (98, .iload 5, 2) rfl) rfl ?_
        refine r_callI hF (fun v12 h H locs ls hH hS hl => run_V (y := yX1_valueAt) hk (in_st q11 hq11 0 (by decide)) rfl rfl (c_X1_valueAt (kl K) hk.2.2.2.2.2.2.2.2.2.2.2 X q11 hq11 p1 v8 m5 v12 h) lk_X3_127 me_X1_valueAt yf_X1_valueAt (by decide) (by decide) rfl (Nat.le_of_ble_eq_true rfl) rfl (dtX3_put_0 50 (100, .invokevirtual 127, 3) rfl) hH hS hl) (fun v12 hF => ?_)
        refine r_ldc hk cn_X3_130 (dtX3_put_0 51 (103, .ldc 130, 2) rfl) ?_
        have j113_14 : ∀ (v13 : Int32), (J_X3_put_113 p1 p3 m5 v8) v13 = some (rv, mE) → G X K 113 [(0, .ref (xad X (0, 0, 0, 0))), (1, .int p1), (3, .int p3), (5, .int v8)] [.int v13] m5 := by
          intro v13 hF
          unfold J_X3_put_113 at hF
          refine r_istore hk [(6, .int v13), (0, .ref (xad X (0, 0, 0, 0))), (1, .int p1), (3, .int p3), (5, .int v8)] (dtX3_put_0 56 (113, .istore 6, 2) rfl) (by decide) rfl ?_
          refine r_aload_n hk 1 (dtX3_put_0 57 (115, .aload_n 0, 1) rfl) rfl ?_
          refine r_getS hk fl_X3_30 hF (dtX3_put_0 58 (116, .getfield 30, 3) rfl) (fun q15 hq15 hF => ?_)
          refine r_iload_n hk 2 (dtX3_put_0 59 (119, .iload_n 1, 1) rfl) rfl ?_
          refine r_iload hk 4 (dtX3_put_0 60 (120, .iload 5, 2) rfl) rfl ?_
          refine r_iload_n hk 3 (dtX3_put_0 61 (122, .iload_n 3, 1) rfl) rfl ?_
          refine r_callVm hF (fun w m16 h H locs ls hH hS hl => run_V (y := yX1_setValue) hk (in_st q15 hq15 0 (by decide)) rfl rfl (c_X1_setValue (kl K) hk.2.2.2.2.2.2.2.2.2.2.2 X q15 hq15 p1 v8 p3 m5 w m16 h) lk_X3_131 me_X1_setValue yf_X1_setValue (by decide) (by decide) rfl (Nat.le_of_ble_eq_true rfl) rfl (dtX3_put_0 62 (123, .invokevirtual 131, 3) rfl) hH hS hl) (fun _ m16 hF => ?_)
          refine r_iload hk 0 (dtX3_put_0 63 (126, .iload 6, 2) rfl) rfl ?_
          refine r_callI hF (fun v17 h H locs ls hH hS hl => run_S hk (c_X3_asNumber (kl K) hk.2.2.2.2.2.2.2.2.2.2.2 X  v13 m16 v17 h) lk_X3_96 me_X3_asNumber yf_X3_asNumber (by decide) (by decide) rfl (Nat.le_of_ble_eq_true rfl) rfl (dtX3_put_1 0 (128, .invokestatic 96, 3) rfl) hH hS hl) (fun v17 hF => ?_)
          cases Option.some.inj hF
          exact hR v17 rfl _ _ (dtX3_put_1 1 (131, .ireturn, 1) rfl)
        refine r_icmp_eq hk 112 hF (dtX3_put_0 52 (105, .if_icmp .eq 7, 3) rfl) (by decide) (fun hF => ?_) (fun hF => ?_)
        · refine r_iconst (v := 0) hk (dtX3_put_0 55 (112, .iconst 0, 1) rfl) (by decide) ?_
          exact r_sub hk [2, 3, 5, 0] rfl (j113_14 0 hF)
        · refine r_iconst (v := 1) hk (dtX3_put_0 53 (108, .iconst 1, 1) rfl) (by decide) ?_
          refine r_goto hk 113 (dtX3_put_0 54 (109, .goto 4, 3) rfl) (by decide) ?_
          exact r_sub hk [2, 3, 5, 0] rfl (j113_14 1 hF)
      · refine r_aload hk 1 (dtX3_put_0 42 (85, .aload 4, 2) rfl) rfl ?_
        refine r_bipush (v := 6) hk (dtX3_put_0 43 (87, .bipush 6, 2) rfl) (by decide) ?_
        refine r_callIm hF (fun v18 m19 h H locs ls hH hS hl => run_V (y := yX2_refuse) hk (in_tn q6 hq6 q7 hq7 0 (by decide)) rfl rfl (c_X2_refuse (kl K) hk.2.2.2.2.2.2.2.2.2.2.2 X q6 hq6 q7 hq7 6 m5 v18 m19 h) lk_X3_63 me_X2_refuse yf_X2_refuse (by decide) (by decide) rfl (Nat.le_of_ble_eq_true rfl) rfl (dtX3_put_0 44 (89, .invokevirtual 63, 3) rfl) hH hS hl) (fun v18 m19 hF => ?_)
        cases Option.some.inj hF
        exact hR v18 rfl _ _ (dtX3_put_0 45 (92, .ireturn, 1) rfl)
    · refine r_aload hk 1 (dtX3_put_0 31 (63, .aload 4, 2) rfl) rfl ?_
      refine r_iconst (v := 5) hk (dtX3_put_0 32 (65, .iconst 5, 1) rfl) (by decide) ?_
      refine r_callIm hF (fun v20 m21 h H locs ls hH hS hl => run_V (y := yX2_refuse) hk (in_tn q6 hq6 q7 hq7 0 (by decide)) rfl rfl (c_X2_refuse (kl K) hk.2.2.2.2.2.2.2.2.2.2.2 X q6 hq6 q7 hq7 5 m5 v20 m21 h) lk_X3_63 me_X2_refuse yf_X2_refuse (by decide) (by decide) rfl (Nat.le_of_ble_eq_true rfl) rfl (dtX3_put_0 33 (66, .invokevirtual 63, 3) rfl) hH hS hl) (fun v20 m21 hF => ?_)
      cases Option.some.inj hF
      exact hR v20 rfl _ _ (dtX3_put_0 34 (69, .ireturn, 1) rfl)
  have j30_22 : (J_X3_put_30 p1 p2 p3 m0) = some (rv, mE) → G X K 30 [(0, .ref (xad X (0, 0, 0, 0))), (1, .int p1), (2, .int p2), (3, .int p3)] [] m0 := by
    intro hF
    unfold J_X3_put_30 at hF
    refine r_iconst (v := 0) hk (dtX3_put_0 14 (30, .iconst 0, 1) rfl) (by decide) ?_
    exact r_sub hk [0, 1, 2, 3] rfl (j31_3 0 hF)
  refine r_if_eq hk 30 hF (dtX3_put_0 5 (9, .ifCond .eq 21, 3) rfl) (by decide) (fun hF => ?_) (fun hF => ?_)
  · exact r_sub hk [0, 1, 2, 3] rfl (j30_22 hF)
  · refine r_iload_n hk 3 (dtX3_put_0 6 (12, .iload_n 3, 1) rfl) rfl ?_
    refine r_sipush (v := (-9999)) hk (dtX3_put_0 7 (13, .sipush (-9999), 3) rfl) (by decide) ?_
    refine r_icmp_lt hk 30 hF (dtX3_put_0 8 (16, .if_icmp .lt 14, 3) rfl) (by decide) (fun hF => ?_) (fun hF => ?_)
    · exact r_sub hk [0, 1, 2, 3] rfl (j30_22 hF)
    · refine r_iload_n hk 3 (dtX3_put_0 9 (19, .iload_n 3, 1) rfl) rfl ?_
      refine r_sipush (v := 9999) hk (dtX3_put_0 10 (20, .sipush 9999, 3) rfl) (by decide) ?_
      refine r_icmp_gt hk 30 hF (dtX3_put_0 11 (23, .if_icmp .gt 7, 3) rfl) (by decide) (fun hF => ?_) (fun hF => ?_)
      · exact r_sub hk [0, 1, 2, 3] rfl (j30_22 hF)
      · refine r_iconst (v := 1) hk (dtX3_put_0 12 (26, .iconst 1, 1) rfl) (by decide) ?_
        refine r_goto hk 31 (dtX3_put_0 13 (27, .goto 4, 3) rfl) (by decide) ?_
        exact r_sub hk [0, 1, 2, 3] rfl (j31_3 1 hF)
set_option maxHeartbeats 4000000 in
set_option maxRecDepth 100000 in
theorem c_X1_copyRow (l : Launch) (hlf : l.stackTraces = false) (X : XW) (i0 : Nat) (hi0 : i0 < 7) (i1 : Nat) (hi1 : i1 < 7) (p2 : Int32) (p3 : Int32) (m0 : Mem) (rv : Unit) (mE : Mem) (hF : F_X1_copyRow i0 i1 p2 p3 m0 = some (rv, mE)) : MX X l yX1_copyRow cX1_copyRow 4 none 2 [.ref (xad X (1, i0, 0, 0)), .ref (xad X (1, i1, 0, 0)), .int p2, .int p3] m0 (QV X mE) := by
  refine startV hlf (by decide +kernel) rfl [(0, .ref (xad X (1, i0, 0, 0))), (1, .ref (xad X (1, i1, 0, 0))), (2, .int p2), (3, .int p3)] rfl (Nat.le_of_ble_eq_true rfl) (fun K hk hR => ?_)
  unfold F_X1_copyRow at hF
  refine r_aload_n hk 0 (dtX1_copyRow_0 0 (0, .aload_n 0, 1) rfl) rfl ?_
  refine r_getR hk (k := 1) (fsX1 X i0) cbX1 (by decide) fl_X1_17 (in_st i0 hi0 0 (by decide)) (fun _ => rfl) (fun _ _ => rfl) (dtX1_copyRow_0 1 (1, .getfield 17, 3) rfl) ?_
  refine r_iload_n hk 3 (dtX1_copyRow_0 2 (4, .iload_n 3, 1) rfl) rfl ?_
  refine r_aload_n hk 1 (dtX1_copyRow_0 3 (5, .aload_n 1, 1) rfl) rfl ?_
  refine r_getR hk (k := 1) (fsX1 X i1) cbX1 (by decide) fl_X1_17 (in_st i1 hi1 0 (by decide)) (fun _ => rfl) (fun _ _ => rfl) (dtX1_copyRow_0 4 (6, .getfield 17, 3) rfl) ?_
  refine r_iload_n hk 2 (dtX1_copyRow_0 5 (9, .iload_n 2, 1) rfl) rfl ?_
  refine r_iald hk (in_st i1 hi1 2 (by decide)) (fun _ => rfl) hF (dtX1_copyRow_0 6 (10, .iaload, 1) rfl) (fun v1 hF => ?_)
  refine r_iast hk (in_st i0 hi0 2 (by decide)) (fun _ => rfl) hF (dtX1_copyRow_0 7 (11, .iastore, 1) rfl) (fun m2 hF => ?_)
  refine r_aload_n hk 1 (dtX1_copyRow_0 8 (12, .aload_n 1, 1) rfl) rfl ?_
  refine r_getR hk (k := 2) (fsX1 X i1) cbX1 (by decide) fl_X1_21 (in_st i1 hi1 0 (by decide)) (fun _ => rfl) (fun _ _ => rfl) (dtX1_copyRow_0 9 (13, .getfield 21, 3) rfl) ?_
  refine r_iload_n hk 2 (dtX1_copyRow_0 10 (16, .iload_n 2, 1) rfl) rfl ?_
  refine r_bipush (v := 8) hk (dtX1_copyRow_0 11 (17, .bipush 8, 2) rfl) (by decide) ?_
  refine r_imul hk hF (dtX1_copyRow_0 12 (19, .imul, 1) rfl) (fun v3 hF => ?_)
  refine r_aload_n hk 0 (dtX1_copyRow_0 13 (20, .aload_n 0, 1) rfl) rfl ?_
  refine r_getR hk (k := 2) (fsX1 X i0) cbX1 (by decide) fl_X1_21 (in_st i0 hi0 0 (by decide)) (fun _ => rfl) (fun _ _ => rfl) (dtX1_copyRow_0 14 (21, .getfield 21, 3) rfl) ?_
  refine r_iload_n hk 3 (dtX1_copyRow_0 15 (24, .iload_n 3, 1) rfl) rfl ?_
  refine r_bipush (v := 8) hk (dtX1_copyRow_0 16 (25, .bipush 8, 2) rfl) (by decide) ?_
  refine r_imul hk hF (dtX1_copyRow_0 17 (27, .imul, 1) rfl) (fun v4 hF => ?_)
  refine r_bipush (v := 8) hk (dtX1_copyRow_0 18 (28, .bipush 8, 2) rfl) (by decide) ?_
  refine r_copyi hk (in_st i1 hi1 3 (by decide)) (fun _ => rfl) (in_st i0 hi0 3 (by decide)) (fun _ => rfl) lk_X1_33 hF (by decide) (Nat.le_of_ble_eq_true rfl) (dtX1_copyRow_0 19 (30, .invokestatic 33, 3) rfl) (fun m5 hF => ?_)
  cases Option.some.inj hF
  exact hR _ _ (dtX1_copyRow_0 20 (33, .return_, 1) rfl)
set_option maxHeartbeats 4000000 in
set_option maxRecDepth 100000 in
theorem c_X1_removeRows (l : Launch) (hlf : l.stackTraces = false) (X : XW) (i0 : Nat) (hi0 : i0 < 7) (p2 : Int32) (m0 : Mem) (rv : Unit) (mE : Mem) (hF : F_X1_removeRows i0 p2 m0 = some (rv, mE)) : MX X l yX1_removeRows cX1_removeRows 6 none 3 [.ref (xad X (1, i0, 0, 0)), .ref (xad X (0, 0, 0, 4)), .int p2] m0 (QV X mE) := by
  refine startV hlf (by decide +kernel) rfl [(0, .ref (xad X (1, i0, 0, 0))), (1, .ref (xad X (0, 0, 0, 4))), (2, .int p2)] rfl (Nat.le_of_ble_eq_true rfl) (fun K hk hR => ?_)
  unfold F_X1_removeRows at hF
  refine r_iconst (v := 0) hk (dtX1_removeRows_0 0 (0, .iconst 0, 1) rfl) (by decide) ?_
  refine r_istore_n hk [(3, .int 0), (0, .ref (xad X (1, i0, 0, 0))), (1, .ref (xad X (0, 0, 0, 4))), (2, .int p2)] (dtX1_removeRows_0 1 (1, .istore_n 3, 1) rfl) (by decide) rfl ?_
  refine r_iconst (v := 0) hk (dtX1_removeRows_0 2 (2, .iconst 0, 1) rfl) (by decide) ?_
  refine r_istore hk [(4, .int 0), (3, .int 0), (0, .ref (xad X (1, i0, 0, 0))), (1, .ref (xad X (0, 0, 0, 4))), (2, .int p2)] (dtX1_removeRows_0 3 (3, .istore 4, 2) rfl) (by decide) rfl ?_
  refine r_iconst (v := 0) hk (dtX1_removeRows_0 4 (5, .iconst 0, 1) rfl) (by decide) ?_
  refine r_istore hk [(5, .int 0), (4, .int 0), (3, .int 0), (0, .ref (xad X (1, i0, 0, 0))), (1, .ref (xad X (0, 0, 0, 4))), (2, .int p2)] (dtX1_removeRows_0 5 (6, .istore 5, 2) rfl) (by decide) rfl ?_
  have e62_3 : ∀ (v1 : Int32) (m2 : Mem), (C_X1_removeRows_62 i0) v1 m2 = some (rv, mE) → G X K 62 [(0, .ref (xad X (1, i0, 0, 0))), (3, .int v1)] [] m2 := by
    intro v1 m2 hF
    unfold C_X1_removeRows_62 at hF
    refine r_aload_n hk 0 (dtX1_removeRows_0 32 (62, .aload_n 0, 1) rfl) rfl ?_
    refine r_iload_n hk 1 (dtX1_removeRows_0 33 (63, .iload_n 3, 1) rfl) rfl ?_
    refine r_putI hk (k := 3) (fsX1 X i0) cbX1 (by decide) fl_X1_29 (in_st i0 hi0 0 (by decide)) (fun _ => rfl) rfl rfl (fun _ _ _ => rfl) (fun _ _ => (by decide : 3 < 4)) hF (dtX1_removeRows_0 34 (64, .putfield 29, 3) rfl) (fun m4 hF => ?_)
    cases Option.some.inj hF
    exact hR _ _ (dtX1_removeRows_0 35 (67, .return_, 1) rfl)
  have l10 : ∀ (n10 : Nat) (v5 : Int32) (v6 : Int32) (v7 : Int32) (m8 : Mem), L_X1_removeRows_8 i0 p2 n10 v5 v6 v7 m8 = some (rv, mE) → G X K 8 [(0, .ref (xad X (1, i0, 0, 0))), (1, .ref (xad X (0, 0, 0, 4))), (2, .int p2), (3, .int v5), (4, .int v6), (5, .int v7)] [] m8 := by
    intro n10
    induction n10 with
    | zero => intro v5 v6 v7 m8 hF; exact nomatch (show (none : Option (Unit × Mem)) = some (rv, mE) from hF)
    | succ n10 ih10 =>
      intro v5 v6 v7 m8 hF
      rw [L_X1_removeRows_8] at hF
      refine r_iload hk 5 (dtX1_removeRows_0 6 (8, .iload 5, 2) rfl) rfl ?_
      refine r_aload_n hk 0 (dtX1_removeRows_0 7 (10, .aload_n 0, 1) rfl) rfl ?_
      refine r_getI hk (k := 3) (fsX1 X i0) cbX1 (by decide) fl_X1_29 (in_st i0 hi0 0 (by decide)) (fun _ => rfl) (fun _ _ => rfl) hF (dtX1_removeRows_0 8 (11, .getfield 29, 3) rfl) (fun v11 hF => ?_)
      refine r_icmp_ge hk 62 hF (dtX1_removeRows_0 9 (14, .if_icmp .ge 48, 3) rfl) (by decide) (fun hF => ?_) (fun hF => ?_)
      · exact r_sub hk [0, 3] rfl (e62_3 v5 m8 hF)
      · refine r_iload hk 4 (dtX1_removeRows_0 10 (17, .iload 4, 2) rfl) rfl ?_
        refine r_iload_n hk 2 (dtX1_removeRows_0 11 (19, .iload_n 2, 1) rfl) rfl ?_
        have j56_15 : ∀ (v12 : Int32) (v13 : Int32) (m14 : Mem), (J_X1_removeRows_56 v7 (fun w0 w1 w2 w3 => L_X1_removeRows_8 i0 p2 n10 w0 w1 w2 w3)) v12 v13 m14 = some (rv, mE) → G X K 56 [(0, .ref (xad X (1, i0, 0, 0))), (1, .ref (xad X (0, 0, 0, 4))), (2, .int p2), (3, .int v12), (4, .int v13), (5, .int v7)] [] m14 := by
          intro v12 v13 m14 hF
          unfold J_X1_removeRows_56 at hF
          refine r_iinc hk 1 5 (fun v16 => [(5, .int v16), (0, .ref (xad X (1, i0, 0, 0))), (1, .ref (xad X (0, 0, 0, 4))), (2, .int p2), (3, .int v12), (4, .int v13)]) hF (dtX1_removeRows_0 30 (56, .iinc 5 1, 3) rfl) rfl (by decide) (by decide) (fun _ => rfl) (fun v16 hF => ?_)
          refine r_goto hk 8 (dtX1_removeRows_0 31 (59, .goto (-51), 3) rfl) (by decide) ?_
          exact r_sub hk [1, 2, 3, 4, 5, 0] rfl (ih10 v12 v13 v16 m14 hF)
        have j45_17 : (J_X1_removeRows_45 i0 v5 v6 v7 m8 (fun w0 w1 w2 w3 => L_X1_removeRows_8 i0 p2 n10 w0 w1 w2 w3)) = some (rv, mE) → G X K 45 [(0, .ref (xad X (1, i0, 0, 0))), (1, .ref (xad X (0, 0, 0, 4))), (2, .int p2), (3, .int v5), (4, .int v6), (5, .int v7)] [] m8 := by
          intro hF
          unfold J_X1_removeRows_45 at hF
          refine r_aload_n hk 0 (dtX1_removeRows_0 24 (45, .aload_n 0, 1) rfl) rfl ?_
          refine r_aload_n hk 0 (dtX1_removeRows_0 25 (46, .aload_n 0, 1) rfl) rfl ?_
          refine r_iload hk 5 (dtX1_removeRows_0 26 (47, .iload 5, 2) rfl) rfl ?_
          refine r_iload_n hk 3 (dtX1_removeRows_0 27 (49, .iload_n 3, 1) rfl) rfl ?_
          refine r_callVm hF (fun w m18 h H locs ls hH hS hl => run_V (y := yX1_copyRow) hk (in_st i0 hi0 0 (by decide)) rfl rfl (c_X1_copyRow (kl K) hk.2.2.2.2.2.2.2.2.2.2.2 X i0 hi0 i0 hi0 v7 v5 m8 w m18 h) lk_X1_52 me_X1_copyRow yf_X1_copyRow (by decide) (by decide) rfl (Nat.le_of_ble_eq_true rfl) rfl (dtX1_removeRows_0 28 (50, .invokevirtual 52, 3) rfl) hH hS hl) (fun _ m18 hF => ?_)
          refine r_iinc hk 1 3 (fun v19 => [(3, .int v19), (0, .ref (xad X (1, i0, 0, 0))), (1, .ref (xad X (0, 0, 0, 4))), (2, .int p2), (4, .int v6), (5, .int v7)]) hF (dtX1_removeRows_0 29 (53, .iinc 3 1, 3) rfl) rfl (by decide) (by decide) (fun _ => rfl) (fun v19 hF => ?_)
          exact r_sub hk [1, 2, 3, 0, 4, 5] rfl (j56_15 v19 v6 m18 hF)
        refine r_icmp_ge hk 45 hF (dtX1_removeRows_0 12 (20, .if_icmp .ge 25, 3) rfl) (by decide) (fun hF => ?_) (fun hF => ?_)
        · exact r_sub hk [0, 1, 2, 3, 4, 5] rfl (j45_17 hF)
        · refine r_iload hk 4 (dtX1_removeRows_0 13 (23, .iload 4, 2) rfl) rfl ?_
          refine r_aload_n hk 1 (dtX1_removeRows_0 14 (25, .aload_n 1, 1) rfl) rfl ?_
          refine r_alen (v := 120) hk (in_main 4 (by decide)) (fun _ => rfl) (by decide) (dtX1_removeRows_0 15 (26, .arraylength, 1) rfl) ?_
          refine r_icmp_ge hk 45 hF (dtX1_removeRows_0 16 (27, .if_icmp .ge 18, 3) rfl) (by decide) (fun hF => ?_) (fun hF => ?_)
          · exact r_sub hk [0, 1, 2, 3, 4, 5] rfl (j45_17 hF)
          · refine r_aload_n hk 1 (dtX1_removeRows_0 17 (30, .aload_n 1, 1) rfl) rfl ?_
            refine r_iload hk 4 (dtX1_removeRows_0 18 (31, .iload 4, 2) rfl) rfl ?_
            refine r_iald hk (in_main 4 (by decide)) (fun _ => rfl) hF (dtX1_removeRows_0 19 (33, .iaload, 1) rfl) (fun v20 hF => ?_)
            refine r_iload hk 5 (dtX1_removeRows_0 20 (34, .iload 5, 2) rfl) rfl ?_
            refine r_icmp_ne hk 45 hF (dtX1_removeRows_0 21 (36, .if_icmp .ne 9, 3) rfl) (by decide) (fun hF => ?_) (fun hF => ?_)
            · exact r_sub hk [0, 1, 2, 3, 4, 5] rfl (j45_17 hF)
            · refine r_iinc hk 1 4 (fun v21 => [(4, .int v21), (0, .ref (xad X (1, i0, 0, 0))), (1, .ref (xad X (0, 0, 0, 4))), (2, .int p2), (3, .int v5), (5, .int v7)]) hF (dtX1_removeRows_0 22 (39, .iinc 4 1, 3) rfl) rfl (by decide) (by decide) (fun _ => rfl) (fun v21 hF => ?_)
              refine r_goto hk 56 (dtX1_removeRows_0 23 (42, .goto 14, 3) rfl) (by decide) ?_
              exact r_sub hk [1, 2, 3, 4, 0, 5] rfl (j56_15 v5 v21 m8 hF)
  exact r_sub hk [3, 4, 5, 2, 1, 0] rfl (l10 fu 0 0 0 m0 hF)
set_option maxHeartbeats 4000000 in
set_option maxRecDepth 100000 in
theorem c_X3_remove (l : Launch) (hlf : l.stackTraces = false) (X : XW)  (p1 : Int32) (m0 : Mem) (rv : Int32 ⊕ Nat) (mE : Mem) (hF : F_X3_remove p1 m0 = some (rv, mE)) : MT X l yX3_remove cX3_remove 3 (some .int) 8 [.ref (xad X (0, 0, 0, 0)), .int p1] m0 rv mE (QTI X rv mE) := by
  refine startTI hlf (by decide +kernel) rfl [(0, .ref (xad X (0, 0, 0, 0))), (1, .int p1)] rfl (Nat.le_of_ble_eq_true rfl) (fun K hk hR hX => ?_)
  unfold F_X3_remove at hF
  refine r_aload_n hk 0 (dtX3_remove_0 0 (0, .aload_n 0, 1) rfl) rfl ?_
  refine r_iload_n hk 1 (dtX3_remove_0 1 (1, .iload_n 1, 1) rfl) rfl ?_
  refine r_callVts hk hF (fun c h => by cases Option.some.inj h; exact hX c rfl) (fun R h hf H locs ls hH hS hl => runT_V (y := yX3_requireRow) hk (in_main 0 (by decide)) rfl rfl (c_X3_requireRow (kl K) hk.2.2.2.2.2.2.2.2.2.2.2 X  p1 m0 R h) lk_X3_116 me_X3_requireRow yf_X3_requireRow (by decide) (by decide) rfl (Nat.le_of_ble_eq_true rfl) rfl (dtX3_remove_0 2 (2, .invokevirtual 116, 3) rfl) hf hH hS hl) (fun _ hF => ?_)
  refine r_aload_n hk 0 (dtX3_remove_0 3 (5, .aload_n 0, 1) rfl) rfl ?_
  refine r_callRm (fun q => xad X (1, q, 0, 0)) hF (fun q1 m2 h H locs ls hH hS hl => run_V (y := yX3_save) hk (in_main 0 (by decide)) rfl rfl (c_X3_save (kl K) hk.2.2.2.2.2.2.2.2.2.2.2 X   m0 q1 m2 h) lk_X3_45 me_X3_save yf_X3_save (by decide) (by decide) rfl (Nat.le_of_ble_eq_true rfl) rfl (dtX3_remove_0 4 (6, .invokevirtual 45, 3) rfl) hH hS hl) (fun q1 m2 _ hF => ?_)
  obtain ⟨hq1, hF⟩ := bp_some hF
  refine r_pop hk (dtX3_remove_0 5 (9, .pop, 1) rfl) rfl ?_
  refine r_aload_n hk 0 (dtX3_remove_0 6 (10, .aload_n 0, 1) rfl) rfl ?_
  refine r_getS hk fl_X3_30 hF (dtX3_remove_0 7 (11, .getfield 30, 3) rfl) (fun q3 hq3 hF => ?_)
  refine r_getR hk (k := 1) (fsX1 X q3) cbX1 (by decide) fl_X3_134 (in_st q3 hq3 0 (by decide)) (fun _ => rfl) (fun _ _ => rfl) (dtX3_remove_0 8 (14, .getfield 134, 3) rfl) ?_
  refine r_iload_n hk 1 (dtX3_remove_0 9 (17, .iload_n 1, 1) rfl) rfl ?_
  refine r_iald hk (in_st q3 hq3 2 (by decide)) (fun _ => rfl) hF (dtX3_remove_0 10 (18, .iaload, 1) rfl) (fun v4 hF => ?_)
  refine r_istore_n hk [(2, .int v4), (0, .ref (xad X (0, 0, 0, 0))), (1, .int p1)] (dtX3_remove_0 11 (19, .istore_n 2, 1) rfl) (by decide) rfl ?_
  refine r_aload_n hk 1 (dtX3_remove_0 12 (20, .aload_n 0, 1) rfl) rfl ?_
  refine r_getR hk (k := 3) (fsX3 X) cbX3 (by decide) fl_X3_26 (in_main 0 (by decide)) (fun _ => rfl) (fun _ _ => rfl) (dtX3_remove_0 13 (21, .getfield 26, 3) rfl) ?_
  refine r_iconst (v := 0) hk (dtX3_remove_0 14 (24, .iconst 0, 1) rfl) (by decide) ?_
  refine r_iload_n hk 2 (dtX3_remove_0 15 (25, .iload_n 1, 1) rfl) rfl ?_
  refine r_iast hk (in_main 4 (by decide)) (fun _ => rfl) hF (dtX3_remove_0 16 (26, .iastore, 1) rfl) (fun m5 hF => ?_)
  refine r_aload_n hk 1 (dtX3_remove_0 17 (27, .aload_n 0, 1) rfl) rfl ?_
  refine r_getS hk fl_X3_30 hF (dtX3_remove_0 18 (28, .getfield 30, 3) rfl) (fun q6 hq6 hF => ?_)
  refine r_aload_n hk 1 (dtX3_remove_0 19 (31, .aload_n 0, 1) rfl) rfl ?_
  refine r_getR hk (k := 3) (fsX3 X) cbX3 (by decide) fl_X3_26 (in_main 0 (by decide)) (fun _ => rfl) (fun _ _ => rfl) (dtX3_remove_0 20 (32, .getfield 26, 3) rfl) ?_
  refine r_iconst (v := 1) hk (dtX3_remove_0 21 (35, .iconst 1, 1) rfl) (by decide) ?_
  refine r_callVm hF (fun w m7 h H locs ls hH hS hl => run_V (y := yX1_removeRows) hk (in_st q6 hq6 0 (by decide)) rfl rfl (c_X1_removeRows (kl K) hk.2.2.2.2.2.2.2.2.2.2.2 X q6 hq6 1 m5 w m7 h) lk_X3_137 me_X1_removeRows yf_X1_removeRows (by decide) (by decide) rfl (Nat.le_of_ble_eq_true rfl) rfl (dtX3_remove_0 22 (36, .invokevirtual 137, 3) rfl) hH hS hl) (fun _ m7 hF => ?_)
  refine r_iload_n hk 0 (dtX3_remove_0 23 (39, .iload_n 2, 1) rfl) rfl ?_
  cases Option.some.inj hF
  exact hR v4 rfl _ _ (dtX3_remove_0 24 (40, .ireturn, 1) rfl)
set_option maxHeartbeats 4000000 in
set_option maxRecDepth 100000 in
theorem c_X1_orderRowsOf (l : Launch) (hlf : l.stackTraces = false) (X : XW) (i0 : Nat) (hi0 : i0 < 7) (i1 : Nat) (hi1 : i1 < 7)  (m0 : Mem) (rv : Unit) (mE : Mem) (hF : F_X1_orderRowsOf i0 i1 m0 = some (rv, mE)) : MX X l yX1_orderRowsOf cX1_orderRowsOf 4 none 3 [.ref (xad X (1, i0, 0, 0)), .ref (xad X (1, i1, 0, 0))] m0 (QV X mE) := by
  refine startV hlf (by decide +kernel) rfl [(0, .ref (xad X (1, i0, 0, 0))), (1, .ref (xad X (1, i1, 0, 0)))] rfl (Nat.le_of_ble_eq_true rfl) (fun K hk hR => ?_)
  unfold F_X1_orderRowsOf at hF
  refine r_aload_n hk 0 (dtX1_orderRowsOf_0 0 (0, .aload_n 0, 1) rfl) rfl ?_
  refine r_iconst (v := 0) hk (dtX1_orderRowsOf_0 1 (1, .iconst 0, 1) rfl) (by decide) ?_
  refine r_putI hk (k := 3) (fsX1 X i0) cbX1 (by decide) fl_X1_29 (in_st i0 hi0 0 (by decide)) (fun _ => rfl) rfl rfl (fun _ _ _ => rfl) (fun _ _ => (by decide : 3 < 4)) hF (dtX1_orderRowsOf_0 2 (2, .putfield 29, 3) rfl) (fun m1 hF => ?_)
  refine r_iconst (v := 0) hk (dtX1_orderRowsOf_0 3 (5, .iconst 0, 1) rfl) (by decide) ?_
  refine r_istore_n hk [(2, .int 0), (0, .ref (xad X (1, i0, 0, 0))), (1, .ref (xad X (1, i1, 0, 0)))] (dtX1_orderRowsOf_0 4 (6, .istore_n 2, 1) rfl) (by decide) rfl ?_
  have e68_3 : ∀ (m2 : Mem), C_X1_orderRowsOf_68 m2 = some (rv, mE) → G X K 68 [] [] m2 := by
    intro m2 hF
    unfold C_X1_orderRowsOf_68 at hF
    cases Option.some.inj hF
    exact hR _ _ (dtX1_orderRowsOf_0 38 (68, .return_, 1) rfl)
  have l7 : ∀ (n7 : Nat) (v4 : Int32) (m5 : Mem), L_X1_orderRowsOf_7 i0 i1 n7 v4 m5 = some (rv, mE) → G X K 7 [(0, .ref (xad X (1, i0, 0, 0))), (1, .ref (xad X (1, i1, 0, 0))), (2, .int v4)] [] m5 := by
    intro n7
    induction n7 with
    | zero => intro v4 m5 hF; exact nomatch (show (none : Option (Unit × Mem)) = some (rv, mE) from hF)
    | succ n7 ih7 =>
      intro v4 m5 hF
      rw [L_X1_orderRowsOf_7] at hF
      refine r_iload_n hk 2 (dtX1_orderRowsOf_0 5 (7, .iload_n 2, 1) rfl) rfl ?_
      refine r_iconst (v := 3) hk (dtX1_orderRowsOf_0 6 (8, .iconst 3, 1) rfl) (by decide) ?_
      refine r_icmp_gt hk 68 hF (dtX1_orderRowsOf_0 7 (9, .if_icmp .gt 59, 3) rfl) (by decide) (fun hF => ?_) (fun hF => ?_)
      · exact r_sub hk [] rfl (e68_3 m5 hF)
      · refine r_iconst (v := 0) hk (dtX1_orderRowsOf_0 8 (12, .iconst 0, 1) rfl) (by decide) ?_
        refine r_istore_n hk [(3, .int 0), (0, .ref (xad X (1, i0, 0, 0))), (1, .ref (xad X (1, i1, 0, 0))), (2, .int v4)] (dtX1_orderRowsOf_0 9 (13, .istore_n 3, 1) rfl) (by decide) rfl ?_
        have e62_9 : ∀ (m8 : Mem), (C_X1_orderRowsOf_62 v4 (fun w0 w1 => L_X1_orderRowsOf_7 i0 i1 n7 w0 w1)) m8 = some (rv, mE) → G X K 62 [(0, .ref (xad X (1, i0, 0, 0))), (1, .ref (xad X (1, i1, 0, 0))), (2, .int v4)] [] m8 := by
          intro m8 hF
          unfold C_X1_orderRowsOf_62 at hF
          refine r_iinc hk 1 2 (fun v10 => [(2, .int v10), (0, .ref (xad X (1, i0, 0, 0))), (1, .ref (xad X (1, i1, 0, 0)))]) hF (dtX1_orderRowsOf_0 36 (62, .iinc 2 1, 3) rfl) rfl (by decide) (by decide) (fun _ => rfl) (fun v10 hF => ?_)
          refine r_goto hk 7 (dtX1_orderRowsOf_0 37 (65, .goto (-58), 3) rfl) (by decide) ?_
          exact r_sub hk [1, 2, 0] rfl (ih7 v10 m8 hF)
        have l14 : ∀ (n14 : Nat) (v11 : Int32) (m12 : Mem), L_X1_orderRowsOf_14 i0 i1 v4 (fun w0 w1 => L_X1_orderRowsOf_7 i0 i1 n7 w0 w1) n14 v11 m12 = some (rv, mE) → G X K 14 [(0, .ref (xad X (1, i0, 0, 0))), (1, .ref (xad X (1, i1, 0, 0))), (2, .int v4), (3, .int v11)] [] m12 := by
          intro n14
          induction n14 with
          | zero => intro v11 m12 hF; exact nomatch (show (none : Option (Unit × Mem)) = some (rv, mE) from hF)
          | succ n14 ih14 =>
            intro v11 m12 hF
            rw [L_X1_orderRowsOf_14] at hF
            refine r_iload_n hk 3 (dtX1_orderRowsOf_0 10 (14, .iload_n 3, 1) rfl) rfl ?_
            refine r_aload_n hk 1 (dtX1_orderRowsOf_0 11 (15, .aload_n 1, 1) rfl) rfl ?_
            refine r_getI hk (k := 3) (fsX1 X i1) cbX1 (by decide) fl_X1_29 (in_st i1 hi1 0 (by decide)) (fun _ => rfl) (fun _ _ => rfl) hF (dtX1_orderRowsOf_0 12 (16, .getfield 29, 3) rfl) (fun v15 hF => ?_)
            refine r_icmp_ge hk 62 hF (dtX1_orderRowsOf_0 13 (19, .if_icmp .ge 43, 3) rfl) (by decide) (fun hF => ?_) (fun hF => ?_)
            · exact r_sub hk [0, 1, 2] rfl (e62_9 m12 hF)
            · refine r_aload_n hk 0 (dtX1_orderRowsOf_0 14 (22, .aload_n 0, 1) rfl) rfl ?_
              refine r_aload_n hk 1 (dtX1_orderRowsOf_0 15 (23, .aload_n 1, 1) rfl) rfl ?_
              refine r_getR hk (k := 1) (fsX1 X i1) cbX1 (by decide) fl_X1_17 (in_st i1 hi1 0 (by decide)) (fun _ => rfl) (fun _ _ => rfl) (dtX1_orderRowsOf_0 16 (24, .getfield 17, 3) rfl) ?_
              refine r_iload_n hk 3 (dtX1_orderRowsOf_0 17 (27, .iload_n 3, 1) rfl) rfl ?_
              refine r_iald hk (in_st i1 hi1 2 (by decide)) (fun _ => rfl) hF (dtX1_orderRowsOf_0 18 (28, .iaload, 1) rfl) (fun v16 hF => ?_)
              refine r_callI hF (fun v17 h H locs ls hH hS hl => run_V (y := yX1_tableOf) hk (in_st i0 hi0 0 (by decide)) rfl rfl (c_X1_tableOf (kl K) hk.2.2.2.2.2.2.2.2.2.2.2 X i0 hi0 v16 m12 v17 h) lk_X1_48 me_X1_tableOf yf_X1_tableOf (by decide) (by decide) rfl (Nat.le_of_ble_eq_true rfl) rfl (dtX1_orderRowsOf_0 19 (29, .invokevirtual 48, 3) rfl) hH hS hl) (fun v17 hF => ?_)
              refine r_iload_n hk 2 (dtX1_orderRowsOf_0 20 (32, .iload_n 2, 1) rfl) rfl ?_
              have j56_19 : ∀ (m18 : Mem), (J_X1_orderRowsOf_56 v11 (fun w0 w1 => L_X1_orderRowsOf_14 i0 i1 v4 (fun w0 w1 => L_X1_orderRowsOf_7 i0 i1 n7 w0 w1) n14 w0 w1)) m18 = some (rv, mE) → G X K 56 [(0, .ref (xad X (1, i0, 0, 0))), (1, .ref (xad X (1, i1, 0, 0))), (2, .int v4), (3, .int v11)] [] m18 := by
                intro m18 hF
                unfold J_X1_orderRowsOf_56 at hF
                refine r_iinc hk 1 3 (fun v20 => [(3, .int v20), (0, .ref (xad X (1, i0, 0, 0))), (1, .ref (xad X (1, i1, 0, 0))), (2, .int v4)]) hF (dtX1_orderRowsOf_0 34 (56, .iinc 3 1, 3) rfl) rfl (by decide) (by decide) (fun _ => rfl) (fun v20 hF => ?_)
                refine r_goto hk 14 (dtX1_orderRowsOf_0 35 (59, .goto (-45), 3) rfl) (by decide) ?_
                exact r_sub hk [1, 2, 3, 0] rfl (ih14 v20 m18 hF)
              refine r_icmp_ne hk 56 hF (dtX1_orderRowsOf_0 21 (33, .if_icmp .ne 23, 3) rfl) (by decide) (fun hF => ?_) (fun hF => ?_)
              · exact r_sub hk [0, 1, 2, 3] rfl (j56_19 m12 hF)
              · refine r_aload_n hk 0 (dtX1_orderRowsOf_0 22 (36, .aload_n 0, 1) rfl) rfl ?_
                refine r_aload_n hk 1 (dtX1_orderRowsOf_0 23 (37, .aload_n 1, 1) rfl) rfl ?_
                refine r_iload_n hk 3 (dtX1_orderRowsOf_0 24 (38, .iload_n 3, 1) rfl) rfl ?_
                refine r_aload_n hk 0 (dtX1_orderRowsOf_0 25 (39, .aload_n 0, 1) rfl) rfl ?_
                refine r_getI hk (k := 3) (fsX1 X i0) cbX1 (by decide) fl_X1_29 (in_st i0 hi0 0 (by decide)) (fun _ => rfl) (fun _ _ => rfl) hF (dtX1_orderRowsOf_0 26 (40, .getfield 29, 3) rfl) (fun v21 hF => ?_)
                refine r_callVm hF (fun w m22 h H locs ls hH hS hl => run_V (y := yX1_copyRow) hk (in_st i0 hi0 0 (by decide)) rfl rfl (c_X1_copyRow (kl K) hk.2.2.2.2.2.2.2.2.2.2.2 X i0 hi0 i1 hi1 v11 v21 m12 w m22 h) lk_X1_52 me_X1_copyRow yf_X1_copyRow (by decide) (by decide) rfl (Nat.le_of_ble_eq_true rfl) rfl (dtX1_orderRowsOf_0 27 (43, .invokevirtual 52, 3) rfl) hH hS hl) (fun _ m22 hF => ?_)
                refine r_aload_n hk 0 (dtX1_orderRowsOf_0 28 (46, .aload_n 0, 1) rfl) rfl ?_
                refine r_dup hk (dtX1_orderRowsOf_0 29 (47, .dup, 1) rfl) rfl ?_
                refine r_getI hk (k := 3) (fsX1 X i0) cbX1 (by decide) fl_X1_29 (in_st i0 hi0 0 (by decide)) (fun _ => rfl) (fun _ _ => rfl) hF (dtX1_orderRowsOf_0 30 (48, .getfield 29, 3) rfl) (fun v23 hF => ?_)
                refine r_iconst (v := 1) hk (dtX1_orderRowsOf_0 31 (51, .iconst 1, 1) rfl) (by decide) ?_
                refine r_iadd hk hF (dtX1_orderRowsOf_0 32 (52, .iadd, 1) rfl) (fun v24 hF => ?_)
                refine r_putI hk (k := 3) (fsX1 X i0) cbX1 (by decide) fl_X1_29 (in_st i0 hi0 0 (by decide)) (fun _ => rfl) rfl rfl (fun _ _ _ => rfl) (fun _ _ => (by decide : 3 < 4)) hF (dtX1_orderRowsOf_0 33 (53, .putfield 29, 3) rfl) (fun m25 hF => ?_)
                exact r_sub hk [0, 1, 2, 3] rfl (j56_19 m25 hF)
        exact r_sub hk [1, 2, 3, 0] rfl (l14 fu 0 m5 hF)
  exact r_sub hk [1, 2, 0] rfl (l7 fu 0 m1 hF)
set_option maxHeartbeats 4000000 in
set_option maxRecDepth 100000 in
theorem c_X3_move (l : Launch) (hlf : l.stackTraces = false) (X : XW)  (p1 : Int32) (m0 : Mem) (rv : Int32 ⊕ Nat) (mE : Mem) (hF : F_X3_move p1 m0 = some (rv, mE)) : MT X l yX3_move cX3_move 4 (some .int) 8 [.ref (xad X (0, 0, 0, 0)), .int p1] m0 rv mE (QTI X rv mE) := by
  refine startTI hlf (by decide +kernel) rfl [(0, .ref (xad X (0, 0, 0, 0))), (1, .int p1)] rfl (Nat.le_of_ble_eq_true rfl) (fun K hk hR hX => ?_)
  unfold F_X3_move at hF
  refine r_iload_n hk 1 (dtX3_move_0 0 (0, .iload_n 1, 1) rfl) rfl ?_
  refine r_callI hF (fun v1 h H locs ls hH hS hl => run_S hk (c_X3_isTenant (kl K) hk.2.2.2.2.2.2.2.2.2.2.2 X  p1 m0 v1 h) lk_X3_34 me_X3_isTenant yf_X3_isTenant (by decide) (by decide) rfl (Nat.le_of_ble_eq_true rfl) rfl (dtX3_move_0 1 (1, .invokestatic 34, 3) rfl) hH hS hl) (fun v1 hF => ?_)
  refine r_callVts hk hF (fun c h => by cases Option.some.inj h; exact hX c rfl) (fun R h hf H locs ls hH hS hl => runT_S hk (c_X3_require (kl K) hk.2.2.2.2.2.2.2.2.2.2.2 X  v1 m0 R h) lk_X3_41 me_X3_require yf_X3_require (by decide) (by decide) rfl (Nat.le_of_ble_eq_true rfl) rfl (dtX3_move_0 2 (4, .invokestatic 41, 3) rfl) hf hH hS hl) (fun _ hF => ?_)
  refine r_aload_n hk 0 (dtX3_move_0 3 (7, .aload_n 0, 1) rfl) rfl ?_
  refine r_callRm (fun q => xad X (1, q, 0, 0)) hF (fun q2 m3 h H locs ls hH hS hl => run_V (y := yX3_save) hk (in_main 0 (by decide)) rfl rfl (c_X3_save (kl K) hk.2.2.2.2.2.2.2.2.2.2.2 X   m0 q2 m3 h) lk_X3_45 me_X3_save yf_X3_save (by decide) (by decide) rfl (Nat.le_of_ble_eq_true rfl) rfl (dtX3_move_0 4 (8, .invokevirtual 45, 3) rfl) hH hS hl) (fun q2 m3 _ hF => ?_)
  obtain ⟨hq2, hF⟩ := bp_some hF
  refine r_astore_n hk [(2, .ref (xad X (1, q2, 0, 0))), (0, .ref (xad X (0, 0, 0, 0))), (1, .int p1)] (dtX3_move_0 5 (11, .astore_n 2, 1) rfl) (by decide) rfl ?_
  refine r_aload_n hk 1 (dtX3_move_0 6 (12, .aload_n 0, 1) rfl) rfl ?_
  refine r_getS hk fl_X3_30 hF (dtX3_move_0 7 (13, .getfield 30, 3) rfl) (fun q4 hq4 hF => ?_)
  refine r_getR hk (k := 0) (fsX1 X q4) cbX1 (by decide) fl_X3_49 (in_st q4 hq4 0 (by decide)) (fun _ => rfl) (fun _ _ => rfl) (dtX3_move_0 8 (16, .getfield 49, 3) rfl) ?_
  refine r_iload_n hk 2 (dtX3_move_0 9 (19, .iload_n 1, 1) rfl) rfl ?_
  refine r_aldT hk hq4 hF (dtX3_move_0 10 (20, .aaload, 1) rfl) (fun q5 hq5 hF => ?_)
  refine r_astore_n hk [(3, .ref (xad X (2, q4, q5, 0))), (2, .ref (xad X (1, q2, 0, 0))), (0, .ref (xad X (0, 0, 0, 0))), (1, .int p1)] (dtX3_move_0 11 (21, .astore_n 3, 1) rfl) (by decide) rfl ?_
  refine r_aload_n hk 0 (dtX3_move_0 12 (22, .aload_n 3, 1) rfl) rfl ?_
  refine r_getI hk (k := 5) (fsX2 X q4 q5) cbX2 (by decide) fl_X3_106 (in_tn q4 hq4 q5 hq5 0 (by decide)) (fun _ => rfl) (fun _ _ => rfl) hF (dtX3_move_0 13 (23, .getfield 106, 3) rfl) (fun v6 hF => ?_)
  have j56_7 : (J_X3_move_56 q2 m3 q4 q5) = some (rv, mE) → G X K 56 [(0, .ref (xad X (0, 0, 0, 0))), (2, .ref (xad X (1, q2, 0, 0))), (3, .ref (xad X (2, q4, q5, 0)))] [] m3 := by
    intro hF
    unfold J_X3_move_56 at hF
    refine r_aload_n hk 2 (dtX3_move_0 29 (56, .aload_n 3, 1) rfl) rfl ?_
    refine r_aload_n hk 2 (dtX3_move_0 30 (57, .aload_n 3, 1) rfl) rfl ?_
    refine r_getI hk (k := 5) (fsX2 X q4 q5) cbX2 (by decide) fl_X3_106 (in_tn q4 hq4 q5 hq5 0 (by decide)) (fun _ => rfl) (fun _ _ => rfl) hF (dtX3_move_0 31 (58, .getfield 106, 3) rfl) (fun v8 hF => ?_)
    have j69_10 : ∀ (v9 : Int32), (J_X3_move_69 q2 m3 q4 q5) v9 = some (rv, mE) → G X K 69 [(0, .ref (xad X (0, 0, 0, 0))), (2, .ref (xad X (1, q2, 0, 0))), (3, .ref (xad X (2, q4, q5, 0)))] [.int v9, .ref (xad X (2, q4, q5, 0))] m3 := by
      intro v9 hF
      unfold J_X3_move_69 at hF
      refine r_putZ hk (k := 5) (fsX2 X q4 q5) cbX2 (by decide) fl_X3_106 (in_tn q4 hq4 q5 hq5 0 (by decide)) (fun _ => rfl) rfl rfl (fun _ _ _ => rfl) (fun _ _ => (by decide : 5 < 10)) hF (dtX3_move_0 36 (69, .putfield 106, 3) rfl) (fun m11 hF => ?_)
      refine r_aload_n hk 0 (dtX3_move_0 37 (72, .aload_n 0, 1) rfl) rfl ?_
      refine r_getS hk fl_X3_30 hF (dtX3_move_0 38 (73, .getfield 30, 3) rfl) (fun q12 hq12 hF => ?_)
      refine r_aload_n hk 1 (dtX3_move_0 39 (76, .aload_n 2, 1) rfl) rfl ?_
      refine r_callVm hF (fun w m13 h H locs ls hH hS hl => run_V (y := yX1_orderRowsOf) hk (in_st q12 hq12 0 (by decide)) rfl rfl (c_X1_orderRowsOf (kl K) hk.2.2.2.2.2.2.2.2.2.2.2 X q12 hq12 q2 hq2  m11 w m13 h) lk_X3_141 me_X1_orderRowsOf yf_X1_orderRowsOf (by decide) (by decide) rfl (Nat.le_of_ble_eq_true rfl) rfl (dtX3_move_0 40 (77, .invokevirtual 141, 3) rfl) hH hS hl) (fun _ m13 hF => ?_)
      refine r_aload_n hk 2 (dtX3_move_0 41 (80, .aload_n 3, 1) rfl) rfl ?_
      refine r_getI hk (k := 5) (fsX2 X q4 q5) cbX2 (by decide) fl_X3_106 (in_tn q4 hq4 q5 hq5 0 (by decide)) (fun _ => rfl) (fun _ _ => rfl) hF (dtX3_move_0 42 (81, .getfield 106, 3) rfl) (fun v14 hF => ?_)
      refine r_callI hF (fun v15 h H locs ls hH hS hl => run_S hk (c_X3_asNumber (kl K) hk.2.2.2.2.2.2.2.2.2.2.2 X  v14 m13 v15 h) lk_X3_96 me_X3_asNumber yf_X3_asNumber (by decide) (by decide) rfl (Nat.le_of_ble_eq_true rfl) rfl (dtX3_move_0 43 (84, .invokestatic 96, 3) rfl) hH hS hl) (fun v15 hF => ?_)
      cases Option.some.inj hF
      exact hR v15 rfl _ _ (dtX3_move_0 44 (87, .ireturn, 1) rfl)
    refine r_if_ne hk 68 hF (dtX3_move_0 32 (61, .ifCond .ne 7, 3) rfl) (by decide) (fun hF => ?_) (fun hF => ?_)
    · refine r_iconst (v := 0) hk (dtX3_move_0 35 (68, .iconst 0, 1) rfl) (by decide) ?_
      exact r_sub hk [0, 1, 2] rfl (j69_10 0 hF)
    · refine r_iconst (v := 1) hk (dtX3_move_0 33 (64, .iconst 1, 1) rfl) (by decide) ?_
      refine r_goto hk 69 (dtX3_move_0 34 (65, .goto 4, 3) rfl) (by decide) ?_
      exact r_sub hk [0, 1, 2] rfl (j69_10 1 hF)
  refine r_if_eq hk 56 hF (dtX3_move_0 14 (26, .ifCond .eq 30, 3) rfl) (by decide) (fun hF => ?_) (fun hF => ?_)
  · exact r_sub hk [2, 1, 0] rfl (j56_7 hF)
  · refine r_aload_n hk 2 (dtX3_move_0 15 (29, .aload_n 0, 1) rfl) rfl ?_
    refine r_getS hk fl_X3_30 hF (dtX3_move_0 16 (30, .getfield 30, 3) rfl) (fun q16 hq16 hF => ?_)
    refine r_callI hF (fun v17 h H locs ls hH hS hl => run_V (y := yX1_tableRows) hk (in_st q16 hq16 0 (by decide)) rfl rfl (c_X1_tableRows (kl K) hk.2.2.2.2.2.2.2.2.2.2.2 X q16 hq16  m3 v17 h) lk_X3_110 me_X1_tableRows yf_X1_tableRows (by decide) (by decide) rfl (Nat.le_of_ble_eq_true rfl) rfl (dtX3_move_0 17 (33, .invokevirtual 110, 3) rfl) hH hS hl) (fun v17 hF => ?_)
    refine r_aload_n hk 2 (dtX3_move_0 18 (36, .aload_n 0, 1) rfl) rfl ?_
    refine r_getS hk fl_X3_30 hF (dtX3_move_0 19 (37, .getfield 30, 3) rfl) (fun q18 hq18 hF => ?_)
    refine r_iload_n hk 3 (dtX3_move_0 20 (40, .iload_n 1, 1) rfl) rfl ?_
    refine r_callI hF (fun v19 h H locs ls hH hS hl => run_V (y := yX1_rowsOf) hk (in_st q18 hq18 0 (by decide)) rfl rfl (c_X1_rowsOf (kl K) hk.2.2.2.2.2.2.2.2.2.2.2 X q18 hq18 p1 m3 v19 h) lk_X3_100 me_X1_rowsOf yf_X1_rowsOf (by decide) (by decide) rfl (Nat.le_of_ble_eq_true rfl) rfl (dtX3_move_0 21 (41, .invokevirtual 100, 3) rfl) hH hS hl) (fun v19 hF => ?_)
    refine r_iadd hk hF (dtX3_move_0 22 (44, .iadd, 1) rfl) (fun v20 hF => ?_)
    refine r_bipush (v := 40) hk (dtX3_move_0 23 (45, .bipush 40, 2) rfl) (by decide) ?_
    refine r_icmp_le hk 56 hF (dtX3_move_0 24 (47, .if_icmp .le 9, 3) rfl) (by decide) (fun hF => ?_) (fun hF => ?_)
    · exact r_sub hk [2, 1, 0] rfl (j56_7 hF)
    · refine r_aload_n hk 0 (dtX3_move_0 25 (50, .aload_n 3, 1) rfl) rfl ?_
      refine r_iconst (v := 2) hk (dtX3_move_0 26 (51, .iconst 2, 1) rfl) (by decide) ?_
      refine r_callIm hF (fun v21 m22 h H locs ls hH hS hl => run_V (y := yX2_refuse) hk (in_tn q4 hq4 q5 hq5 0 (by decide)) rfl rfl (c_X2_refuse (kl K) hk.2.2.2.2.2.2.2.2.2.2.2 X q4 hq4 q5 hq5 2 m3 v21 m22 h) lk_X3_63 me_X2_refuse yf_X2_refuse (by decide) (by decide) rfl (Nat.le_of_ble_eq_true rfl) rfl (dtX3_move_0 27 (52, .invokevirtual 63, 3) rfl) hH hS hl) (fun v21 m22 hF => ?_)
      cases Option.some.inj hF
      exact hR v21 rfl _ _ (dtX3_move_0 28 (55, .ireturn, 1) rfl)
set_option maxHeartbeats 4000000 in
set_option maxRecDepth 100000 in
theorem c_X3_limit (l : Launch) (hlf : l.stackTraces = false) (X : XW)  (p1 : Int32) (p2 : Int32) (p3 : Int32) (m0 : Mem) (rv : Int32 ⊕ Nat) (mE : Mem) (hF : F_X3_limit p1 p2 p3 m0 = some (rv, mE)) : MT X l yX3_limit cX3_limit 6 (some .int) 8 [.ref (xad X (0, 0, 0, 0)), .int p1, .int p2, .int p3] m0 rv mE (QTI X rv mE) := by
  refine startTI hlf (by decide +kernel) rfl [(0, .ref (xad X (0, 0, 0, 0))), (1, .int p1), (2, .int p2), (3, .int p3)] rfl (Nat.le_of_ble_eq_true rfl) (fun K hk hR hX => ?_)
  unfold F_X3_limit at hF
  refine r_iload_n hk 1 (dtX3_limit_0 0 (0, .iload_n 1, 1) rfl) rfl ?_
  refine r_callI hF (fun v1 h H locs ls hH hS hl => run_S hk (c_X3_isTenant (kl K) hk.2.2.2.2.2.2.2.2.2.2.2 X  p1 m0 v1 h) lk_X3_34 me_X3_isTenant yf_X3_isTenant (by decide) (by decide) rfl (Nat.le_of_ble_eq_true rfl) rfl (dtX3_limit_0 1 (1, .invokestatic 34, 3) rfl) hH hS hl) (fun v1 hF => ?_)
  have j31_3 : ∀ (v2 : Int32), (J_X3_limit_31 p1 p2 p3 m0) v2 = some (rv, mE) → G X K 31 [(0, .ref (xad X (0, 0, 0, 0))), (1, .int p1), (2, .int p2), (3, .int p3)] [.int v2] m0 := by
    intro v2 hF
    unfold J_X3_limit_31 at hF
    refine r_callVts hk hF (fun c h => by cases Option.some.inj h; exact hX c rfl) (fun R h hf H locs ls hH hS hl => runT_S hk (c_X3_require (kl K) hk.2.2.2.2.2.2.2.2.2.2.2 X  v2 m0 R h) lk_X3_41 me_X3_require yf_X3_require (by decide) (by decide) rfl (Nat.le_of_ble_eq_true rfl) rfl (dtX3_limit_0 15 (31, .invokestatic 41, 3) rfl) hf hH hS hl) (fun _ hF => ?_)
    refine r_aload_n hk 0 (dtX3_limit_0 16 (34, .aload_n 0, 1) rfl) rfl ?_
    refine r_callRm (fun q => xad X (1, q, 0, 0)) hF (fun q4 m5 h H locs ls hH hS hl => run_V (y := yX3_save) hk (in_main 0 (by decide)) rfl rfl (c_X3_save (kl K) hk.2.2.2.2.2.2.2.2.2.2.2 X   m0 q4 m5 h) lk_X3_45 me_X3_save yf_X3_save (by decide) (by decide) rfl (Nat.le_of_ble_eq_true rfl) rfl (dtX3_limit_0 17 (35, .invokevirtual 45, 3) rfl) hH hS hl) (fun q4 m5 _ hF => ?_)
    obtain ⟨hq4, hF⟩ := bp_some hF
    refine r_pop hk (dtX3_limit_0 18 (38, .pop, 1) rfl) rfl ?_
    refine r_aload_n hk 0 (dtX3_limit_0 19 (39, .aload_n 0, 1) rfl) rfl ?_
    refine r_getS hk fl_X3_30 hF (dtX3_limit_0 20 (40, .getfield 30, 3) rfl) (fun q6 hq6 hF => ?_)
    refine r_getR hk (k := 0) (fsX1 X q6) cbX1 (by decide) fl_X3_49 (in_st q6 hq6 0 (by decide)) (fun _ => rfl) (fun _ _ => rfl) (dtX3_limit_0 21 (43, .getfield 49, 3) rfl) ?_
    refine r_iload_n hk 1 (dtX3_limit_0 22 (46, .iload_n 1, 1) rfl) rfl ?_
    refine r_aldT hk hq6 hF (dtX3_limit_0 23 (47, .aaload, 1) rfl) (fun q7 hq7 hF => ?_)
    refine r_astore hk [(4, .ref (xad X (2, q6, q7, 0))), (0, .ref (xad X (0, 0, 0, 0))), (1, .int p1), (2, .int p2), (3, .int p3)] (dtX3_limit_0 24 (48, .astore 4, 2) rfl) (by decide) rfl ?_
    refine r_iload_n hk 3 (dtX3_limit_0 25 (50, .iload_n 2, 1) rfl) rfl ?_
    have j67_9 : ∀ (v8 : Int32), (J_X3_limit_67 p2 p3 m5 q6 q7) v8 = some (rv, mE) → G X K 67 [(2, .int p2), (3, .int p3), (4, .ref (xad X (2, q6, q7, 0)))] [.int v8] m5 := by
      intro v8 hF
      unfold J_X3_limit_67 at hF
      refine r_istore hk [(5, .int v8), (2, .int p2), (3, .int p3), (4, .ref (xad X (2, q6, q7, 0)))] (dtX3_limit_0 32 (67, .istore 5, 2) rfl) (by decide) rfl ?_
      refine r_iload_n hk 1 (dtX3_limit_0 33 (69, .iload_n 2, 1) rfl) rfl ?_
      have j88_11 : ∀ (m10 : Mem), (J_X3_limit_88 v8) m10 = some (rv, mE) → G X K 88 [(5, .int v8)] [] m10 := by
        intro m10 hF
        unfold J_X3_limit_88 at hF
        refine r_iload hk 0 (dtX3_limit_0 42 (88, .iload 5, 2) rfl) rfl ?_
        cases Option.some.inj hF
        exact hR v8 rfl _ _ (dtX3_limit_0 43 (90, .ireturn, 1) rfl)
      refine r_if_eq hk 82 hF (dtX3_limit_0 34 (70, .ifCond .eq 12, 3) rfl) (by decide) (fun hF => ?_) (fun hF => ?_)
      · refine r_aload hk 3 (dtX3_limit_0 39 (82, .aload 4, 2) rfl) rfl ?_
        refine r_iload_n hk 2 (dtX3_limit_0 40 (84, .iload_n 3, 1) rfl) rfl ?_
        refine r_putI hk (k := 3) (fsX2 X q6 q7) cbX2 (by decide) fl_X3_103 (in_tn q6 hq6 q7 hq7 0 (by decide)) (fun _ => rfl) rfl rfl (fun _ _ _ => rfl) (fun _ _ => (by decide : 3 < 10)) hF (dtX3_limit_0 41 (85, .putfield 103, 3) rfl) (fun m12 hF => ?_)
        exact r_sub hk [0] rfl (j88_11 m12 hF)
      · refine r_aload hk 3 (dtX3_limit_0 35 (73, .aload 4, 2) rfl) rfl ?_
        refine r_iload_n hk 2 (dtX3_limit_0 36 (75, .iload_n 3, 1) rfl) rfl ?_
        refine r_putI hk (k := 4) (fsX2 X q6 q7) cbX2 (by decide) fl_X3_59 (in_tn q6 hq6 q7 hq7 0 (by decide)) (fun _ => rfl) rfl rfl (fun _ _ _ => rfl) (fun _ _ => (by decide : 4 < 10)) hF (dtX3_limit_0 37 (76, .putfield 59, 3) rfl) (fun m13 hF => ?_)
        refine r_goto hk 88 (dtX3_limit_0 38 (79, .goto 9, 3) rfl) (by decide) ?_
        exact r_sub hk [0] rfl (j88_11 m13 hF)
    refine r_if_eq hk 62 hF (dtX3_limit_0 26 (51, .ifCond .eq 11, 3) rfl) (by decide) (fun hF => ?_) (fun hF => ?_)
    · refine r_aload hk 0 (dtX3_limit_0 30 (62, .aload 4, 2) rfl) rfl ?_
      refine r_getI hk (k := 3) (fsX2 X q6 q7) cbX2 (by decide) fl_X3_103 (in_tn q6 hq6 q7 hq7 0 (by decide)) (fun _ => rfl) (fun _ _ => rfl) hF (dtX3_limit_0 31 (64, .getfield 103, 3) rfl) (fun v14 hF => ?_)
      exact r_sub hk [3, 4, 0] rfl (j67_9 v14 hF)
    · refine r_aload hk 0 (dtX3_limit_0 27 (54, .aload 4, 2) rfl) rfl ?_
      refine r_getI hk (k := 4) (fsX2 X q6 q7) cbX2 (by decide) fl_X3_59 (in_tn q6 hq6 q7 hq7 0 (by decide)) (fun _ => rfl) (fun _ _ => rfl) hF (dtX3_limit_0 28 (56, .getfield 59, 3) rfl) (fun v15 hF => ?_)
      refine r_goto hk 67 (dtX3_limit_0 29 (59, .goto 8, 3) rfl) (by decide) ?_
      exact r_sub hk [3, 4, 0] rfl (j67_9 v15 hF)
  have j30_16 : (J_X3_limit_30 p1 p2 p3 m0) = some (rv, mE) → G X K 30 [(0, .ref (xad X (0, 0, 0, 0))), (1, .int p1), (2, .int p2), (3, .int p3)] [] m0 := by
    intro hF
    unfold J_X3_limit_30 at hF
    refine r_iconst (v := 0) hk (dtX3_limit_0 14 (30, .iconst 0, 1) rfl) (by decide) ?_
    exact r_sub hk [0, 1, 2, 3] rfl (j31_3 0 hF)
  refine r_if_eq hk 30 hF (dtX3_limit_0 2 (4, .ifCond .eq 26, 3) rfl) (by decide) (fun hF => ?_) (fun hF => ?_)
  · exact r_sub hk [0, 1, 2, 3] rfl (j30_16 hF)
  · refine r_iload_n hk 3 (dtX3_limit_0 3 (7, .iload_n 3, 1) rfl) rfl ?_
    refine r_if_lt hk 30 hF (dtX3_limit_0 4 (8, .ifCond .lt 22, 3) rfl) (by decide) (fun hF => ?_) (fun hF => ?_)
    · exact r_sub hk [0, 1, 2, 3] rfl (j30_16 hF)
    · refine r_iload_n hk 3 (dtX3_limit_0 5 (11, .iload_n 3, 1) rfl) rfl ?_
      refine r_iload_n hk 2 (dtX3_limit_0 6 (12, .iload_n 2, 1) rfl) rfl ?_
      have j23_18 : ∀ (v17 : Int32), (J_X3_limit_23 p1 p2 p3 m0) v17 = some (rv, mE) → G X K 23 [(0, .ref (xad X (0, 0, 0, 0))), (1, .int p1), (2, .int p2), (3, .int p3)] [.int v17, .int p3] m0 := by
        intro v17 hF
        unfold J_X3_limit_23 at hF
        refine r_icmp_gt hk 30 hF (dtX3_limit_0 11 (23, .if_icmp .gt 7, 3) rfl) (by decide) (fun hF => ?_) (fun hF => ?_)
        · exact r_sub hk [0, 1, 2, 3] rfl (j30_16 hF)
        · refine r_iconst (v := 1) hk (dtX3_limit_0 12 (26, .iconst 1, 1) rfl) (by decide) ?_
          refine r_goto hk 31 (dtX3_limit_0 13 (27, .goto 4, 3) rfl) (by decide) ?_
          exact r_sub hk [0, 1, 2, 3] rfl (j31_3 1 hF)
      refine r_if_eq hk 21 hF (dtX3_limit_0 7 (13, .ifCond .eq 8, 3) rfl) (by decide) (fun hF => ?_) (fun hF => ?_)
      · refine r_bipush (v := 40) hk (dtX3_limit_0 10 (21, .bipush 40, 2) rfl) (by decide) ?_
        exact r_sub hk [0, 1, 2, 3] rfl (j23_18 40 hF)
      · refine r_bipush (v := 8) hk (dtX3_limit_0 8 (16, .bipush 8, 2) rfl) (by decide) ?_
        refine r_goto hk 23 (dtX3_limit_0 9 (18, .goto 5, 3) rfl) (by decide) ?_
        exact r_sub hk [0, 1, 2, 3] rfl (j23_18 8 hF)
set_option maxHeartbeats 4000000 in
set_option maxRecDepth 100000 in
theorem c_X3_undo (l : Launch) (hlf : l.stackTraces = false) (X : XW)   (m0 : Mem) (rv : Int32 ⊕ Nat) (mE : Mem) (hF : F_X3_undo m0 = some (rv, mE)) : MT X l yX3_undo cX3_undo 2 (some .int) 7 [.ref (xad X (0, 0, 0, 0))] m0 rv mE (QTI X rv mE) := by
  refine startTI hlf (by decide +kernel) rfl [(0, .ref (xad X (0, 0, 0, 0)))] rfl (Nat.le_of_ble_eq_true rfl) (fun K hk hR hX => ?_)
  unfold F_X3_undo at hF
  refine r_aload_n hk 0 (dtX3_undo_0 0 (0, .aload_n 0, 1) rfl) rfl ?_
  refine r_getI hk (k := 5) (fsX3 X) cbX3 (by decide) fl_X3_179 (in_main 0 (by decide)) (fun _ => rfl) (fun _ _ => rfl) hF (dtX3_undo_0 1 (1, .getfield 179, 3) rfl) (fun v1 hF => ?_)
  refine r_if_gt hk 17 hF (dtX3_undo_0 2 (4, .ifCond .gt 13, 3) rfl) (by decide) (fun hF => ?_) (fun hF => ?_)
  · refine r_aload_n hk 0 (dtX3_undo_0 8 (17, .aload_n 0, 1) rfl) rfl ?_
    refine r_dup hk (dtX3_undo_0 9 (18, .dup, 1) rfl) rfl ?_
    refine r_getI hk (k := 5) (fsX3 X) cbX3 (by decide) fl_X3_179 (in_main 0 (by decide)) (fun _ => rfl) (fun _ _ => rfl) hF (dtX3_undo_0 10 (19, .getfield 179, 3) rfl) (fun v2 hF => ?_)
    refine r_iconst (v := 1) hk (dtX3_undo_0 11 (22, .iconst 1, 1) rfl) (by decide) ?_
    refine r_isub hk hF (dtX3_undo_0 12 (23, .isub, 1) rfl) (fun v3 hF => ?_)
    refine r_putI hk (k := 5) (fsX3 X) cbX3 (by decide) fl_X3_179 (in_main 0 (by decide)) (fun _ => rfl) rfl rfl (fun _ _ _ => rfl) (fun _ _ => (by decide : 5 < 7)) hF (dtX3_undo_0 13 (24, .putfield 179, 3) rfl) (fun m4 hF => ?_)
    refine r_aload_n hk 0 (dtX3_undo_0 14 (27, .aload_n 0, 1) rfl) rfl ?_
    refine r_getR hk (k := 0) (fsX3 X) cbX3 (by decide) fl_X3_11 (in_main 0 (by decide)) (fun _ => rfl) (fun _ _ => rfl) (dtX3_undo_0 15 (28, .getfield 11, 3) rfl) ?_
    refine r_aload_n hk 0 (dtX3_undo_0 16 (31, .aload_n 0, 1) rfl) rfl ?_
    refine r_getI hk (k := 5) (fsX3 X) cbX3 (by decide) fl_X3_179 (in_main 0 (by decide)) (fun _ => rfl) (fun _ _ => rfl) hF (dtX3_undo_0 17 (32, .getfield 179, 3) rfl) (fun v5 hF => ?_)
    refine r_aldS hk hF (dtX3_undo_0 18 (35, .aaload, 1) rfl) (fun q6 hq6 hF => ?_)
    refine r_astore_n hk [(1, .ref (xad X (1, q6, 0, 0))), (0, .ref (xad X (0, 0, 0, 0)))] (dtX3_undo_0 19 (36, .astore_n 1, 1) rfl) (by decide) rfl ?_
    refine r_aload_n hk 1 (dtX3_undo_0 20 (37, .aload_n 0, 1) rfl) rfl ?_
    refine r_getR hk (k := 0) (fsX3 X) cbX3 (by decide) fl_X3_11 (in_main 0 (by decide)) (fun _ => rfl) (fun _ _ => rfl) (dtX3_undo_0 21 (38, .getfield 11, 3) rfl) ?_
    refine r_aload_n hk 1 (dtX3_undo_0 22 (41, .aload_n 0, 1) rfl) rfl ?_
    refine r_getI hk (k := 5) (fsX3 X) cbX3 (by decide) fl_X3_179 (in_main 0 (by decide)) (fun _ => rfl) (fun _ _ => rfl) hF (dtX3_undo_0 23 (42, .getfield 179, 3) rfl) (fun v7 hF => ?_)
    refine r_aload_n hk 1 (dtX3_undo_0 24 (45, .aload_n 0, 1) rfl) rfl ?_
    refine r_getS hk fl_X3_30 hF (dtX3_undo_0 25 (46, .getfield 30, 3) rfl) (fun q8 hq8 hF => ?_)
    refine r_aastS hk hq8 hF (dtX3_undo_0 26 (49, .aastore, 1) rfl) (fun m9 hF => ?_)
    refine r_aload_n hk 1 (dtX3_undo_0 27 (50, .aload_n 0, 1) rfl) rfl ?_
    refine r_aload_n hk 0 (dtX3_undo_0 28 (51, .aload_n 1, 1) rfl) rfl ?_
    refine r_putS hk fl_X3_30 hF (dtX3_undo_0 29 (52, .putfield 30, 3) rfl) (fun m10 hF => ?_)
    refine r_aload_n hk 1 (dtX3_undo_0 30 (55, .aload_n 0, 1) rfl) rfl ?_
    refine r_getI hk (k := 5) (fsX3 X) cbX3 (by decide) fl_X3_179 (in_main 0 (by decide)) (fun _ => rfl) (fun _ _ => rfl) hF (dtX3_undo_0 31 (56, .getfield 179, 3) rfl) (fun v11 hF => ?_)
    cases Option.some.inj hF
    exact hR v11 rfl _ _ (dtX3_undo_0 32 (59, .ireturn, 1) rfl)
  · cases Option.some.inj hF
    exact (hX 1 rfl).2.2.1 _ _ _ _ _ _ _ th_X3_148_152 th_X3_148_152_g (hk.2.2.2.2.2.1.2.2.2.2.2.1) (by decide) (Nat.le_of_ble_eq_true rfl) (dtX3_undo_0 3 (7, .new 148, 3) rfl) (dtX3_undo_0 4 (10, .dup, 1) rfl) (dtX3_undo_0 5 (11, .ldc 182, 2) rfl) (dtX3_undo_0 6 (13, .invokespecial 152, 3) rfl) (dtX3_undo_0 7 (16, .athrow, 1) rfl)
end
