/-! the law's loop (written by mklaw.py) -/
theorem r_fin {X : XW} {K : MC} {pc : Nat} {lv : List (Nat × Value)} {mm : Mem} {v : Int32} (hF : (if v = 1 then some () else none) = some ()) (g : G X K pc lv [.int 1] mm) : G X K pc lv [.int v] mm := by
  by_cases h : v = 1
  · subst h; exact g
  · rw [if_neg h] at hF; cases hF
theorem yf_L_table : YF yL_table 1 := ⟨⟨by decide +kernel, by decide +kernel⟩, by decide +kernel⟩
theorem me_L_table : MeS yL_table cL_table 13 (some .boolean) := fun a U h => ⟨h.use a 306 (by decide +kernel) (by decide +kernel), h.use a 21 (by decide +kernel) (by decide +kernel), h.use a 307 (by decide +kernel) (by decide +kernel)⟩
theorem lk_L_100 : Lk RL 100 yL_table := fun a U h => h.use a 305 (by decide +kernel) (by decide +kernel)
theorem yf_L_asks : YF yL_asks 4 := ⟨⟨by decide +kernel, by decide +kernel⟩, by decide +kernel⟩
theorem me_L_asks : MeS yL_asks cL_asks 8 (some .boolean) := fun a U h => ⟨h.use a 366 (by decide +kernel) (by decide +kernel), h.use a 21 (by decide +kernel) (by decide +kernel), h.use a 367 (by decide +kernel) (by decide +kernel)⟩
theorem lk_L_104 : Lk RL 104 yL_asks := fun a U h => h.use a 365 (by decide +kernel) (by decide +kernel)
theorem yf_L_act : YF yL_act 3 := ⟨⟨by decide +kernel, by decide +kernel⟩, by decide +kernel⟩
theorem me_L_act : MeS yL_act cL_act 8 (some .int) := fun a U h => ⟨h.use a 514 (by decide +kernel) (by decide +kernel), h.use a 21 (by decide +kernel) (by decide +kernel), h.use a 515 (by decide +kernel) (by decide +kernel)⟩
theorem lk_L_96 : Lk RL 96 yL_act := fun a U h => h.use a 513 (by decide +kernel) (by decide +kernel)
def J_L_law_353 (vs : Int32)  : Option Unit :=
  (if vs = 1 then some () else none)
def J_L_law_346 (vt : Int32) (vi : Int32) (kbL : Int32 → Int32 → Int32 → Mem → Option Unit) (v25 : Int32) (m26 : Mem) : Option Unit :=
  bd (vi + 1) fun v28 => kbL v25 vt v28 m26
def J_L_law_345 (vt : Int32) (vi : Int32) (kbL : Int32 → Int32 → Int32 → Mem → Option Unit) (m29 : Mem) : Option Unit :=
  (J_L_law_346 vt vi kbL) 0 m29
def J_L_law_302 (sL : Nat) (sx : Nat → Int32) (vt : Int32) (vi : Int32) (kbL : Int32 → Int32 → Int32 → Mem → Option Unit) (v14 : Int32) (m17 : Mem)  : Option Unit :=
  bo (F_L_table m17) fun v34 => (if v34 = 0 then (J_L_law_345 vt vi kbL) m17 else bo (F_L_low v14 3 m17) fun v35 => bd (v14 >>> (2 &&& 31)) fun v36 => bo (F_L_low v36 8 m17) fun v37 => bd (3 * vi) fun v38 => bd (v38 + 2) fun v39 => bo (F_L_cell sL sx v39 m17) fun v40 => bm (F_L_asks v35 v37 v40 m17) fun v41 m42 => (if v41 = 0 then (J_L_law_345 vt vi kbL) m42 else (J_L_law_346 vt vi kbL) 1 m42))
def J_L_law_276 (sL : Nat) (sx : Nat → Int32) (vt : Int32) (vi : Int32) (kbL : Int32 → Int32 → Int32 → Mem → Option Unit) (v3 : Int32) (v11 : Int32) (v14 : Int32) (v16 : Int32) (m17 : Mem)  : Option Unit :=
  (if v11 = 18 then (if v16 = (-30) then (J_L_law_302 sL sx vt vi kbL v14 m17) else bts (F_X3_count 1 m17) (fun _ => none) fun v43 => bd (v3 - 1) fun v44 => (if v43 = v44 then (J_L_law_302 sL sx vt vi kbL v14 m17) else (J_L_law_345 vt vi kbL) m17)) else (J_L_law_302 sL sx vt vi kbL v14 m17))
def J_L_law_272 (sL : Nat) (sx : Nat → Int32) (vt : Int32) (vi : Int32) (kbL : Int32 → Int32 → Int32 → Mem → Option Unit) (v3 : Int32) (v11 : Int32) (v14 : Int32) (v16 : Int32) (m17 : Mem) (v45 : Int32) (v46 : Int32) : Option Unit :=
  bd (v3 + v46) fun v48 => (if v45 = v48 then (J_L_law_276 sL sx vt vi kbL v3 v11 v14 v16 m17) else (J_L_law_345 vt vi kbL) m17)
def J_L_law_241 (sL : Nat) (sx : Nat → Int32) (vt : Int32) (vi : Int32) (kbL : Int32 → Int32 → Int32 → Mem → Option Unit) (v3 : Int32) (v11 : Int32) (v14 : Int32) (v16 : Int32) (m17 : Mem)  : Option Unit :=
  (if v11 < 8 then (J_L_law_276 sL sx vt vi kbL v3 v11 v14 v16 m17) else (if 12 < v11 then (J_L_law_276 sL sx vt vi kbL v3 v11 v14 v16 m17) else bts (F_X3_count 1 m17) (fun _ => none) fun v45 => (if 0 ≤ v16 then (J_L_law_272 sL sx vt vi kbL v3 v11 v14 v16 m17 v45) 1 else (J_L_law_272 sL sx vt vi kbL v3 v11 v14 v16 m17 v45) 0)))
def J_L_law_238 (sL : Nat) (sx : Nat → Int32) (vt : Int32) (vi : Int32) (kbL : Int32 → Int32 → Int32 → Mem → Option Unit) (v3 : Int32) (v11 : Int32) (v14 : Int32) (v16 : Int32) (m17 : Mem) (v49 : Int32) (v50 : Int32) : Option Unit :=
  (if v49 = v50 then (J_L_law_241 sL sx vt vi kbL v3 v11 v14 v16 m17) else (J_L_law_345 vt vi kbL) m17)
def J_L_law_183 (sL : Nat) (sx : Nat → Int32) (vt : Int32) (vi : Int32) (kbL : Int32 → Int32 → Int32 → Mem → Option Unit) (v2 : Int32) (v3 : Int32) (v11 : Int32) (v14 : Int32) (v16 : Int32) (m17 : Mem) (v23 : Int32) : Option Unit :=
  (if v23 = 0 then (J_L_law_345 vt vi kbL) m17 else (if v16 = (-30) then bts (F_X3_count 7 m17) (fun _ => none) fun v53 => (if v53 = v2 then (J_L_law_241 sL sx vt vi kbL v3 v11 v14 v16 m17) else (J_L_law_345 vt vi kbL) m17) else (if 21 < v11 then (J_L_law_241 sL sx vt vi kbL v3 v11 v14 v16 m17) else bts (F_X3_count 7 m17) (fun _ => none) fun v49 => (if 6 ≤ v2 then (J_L_law_238 sL sx vt vi kbL v3 v11 v14 v16 m17 v49) 6 else bd (v2 + 1) fun v52 => (J_L_law_238 sL sx vt vi kbL v3 v11 v14 v16 m17 v49) v52))))
def J_L_law_178 (sL : Nat) (sx : Nat → Int32) (vt : Int32) (vi : Int32) (kbL : Int32 → Int32 → Int32 → Mem → Option Unit) (v2 : Int32) (v3 : Int32) (v11 : Int32) (v14 : Int32) (v16 : Int32) (m17 : Mem)  : Option Unit :=
  (J_L_law_183 sL sx vt vi kbL v2 v3 v11 v14 v16 m17) 1
def J_L_law_174 (sL : Nat) (sx : Nat → Int32) (vt : Int32) (vi : Int32) (kbL : Int32 → Int32 → Int32 → Mem → Option Unit) (v2 : Int32) (v3 : Int32) (v8 : Int32) (v11 : Int32) (v14 : Int32) (v16 : Int32) (m17 : Mem) (v22 : Int32) (v55 : Int32) : Option Unit :=
  bd (v8 + v55) fun v57 => (if v22 = v57 then (J_L_law_178 sL sx vt vi kbL v2 v3 v11 v14 v16 m17) else (J_L_law_183 sL sx vt vi kbL v2 v3 v11 v14 v16 m17) 0)
def J_L_law_173 (sL : Nat) (sx : Nat → Int32) (vt : Int32) (vi : Int32) (kbL : Int32 → Int32 → Int32 → Mem → Option Unit) (v2 : Int32) (v3 : Int32) (v8 : Int32) (v11 : Int32) (v14 : Int32) (v16 : Int32) (m17 : Mem) (v22 : Int32)  : Option Unit :=
  (J_L_law_174 sL sx vt vi kbL v2 v3 v8 v11 v14 v16 m17 v22) 0
def LL (sL : Nat) (sx : Nat → Int32) : Nat → Int32 → Int32 → Int32 → Mem → Option Unit
  | 0, _, _, _, _ => none
  | n + 1, vs, vt, vi, mi => (if vt ≤ vi then (J_L_law_353 vs) else (if vs = 0 then (J_L_law_353 vs) else bts (F_X3_count 7 mi) (fun _ => none) fun v2 => bts (F_X3_count 1 mi) (fun _ => none) fun v3 => bts (F_X3_tenant 0 8 mi) (fun _ => none) fun v4 => bts (F_X3_tenant 1 8 mi) (fun _ => none) fun v5 => bd (v4 + v5) fun v6 => bts (F_X3_tenant 2 8 mi) (fun _ => none) fun v7 => bd (v6 + v7) fun v8 => bd (3 * vi) fun v9 => bo (F_L_cell sL sx v9 mi) fun v10 => bo (F_L_low v10 24 mi) fun v11 => bd (3 * vi) fun v12 => bd (v12 + 1) fun v13 => bo (F_L_cell sL sx v13 mi) fun v14 => bd (3 * vi) fun v15 => bm (F_L_act sL sx v15 mi) fun v16 m17 => bts (F_X3_tenant 0 8 m17) (fun _ => none) fun v18 => bts (F_X3_tenant 1 8 m17) (fun _ => none) fun v19 => bd (v18 + v19) fun v20 => bts (F_X3_tenant 2 8 m17) (fun _ => none) fun v21 => bd (v20 + v21) fun v22 => (if 21 < v11 then (J_L_law_178 sL sx vt vi (fun w0 w1 w2 w3 => LL sL sx n w0 w1 w2 w3) v2 v3 v11 v14 v16 m17) else (if (-1) ≤ v16 then (J_L_law_173 sL sx vt vi (fun w0 w1 w2 w3 => LL sL sx n w0 w1 w2 w3) v2 v3 v8 v11 v14 v16 m17 v22) else (if v16 ≤ (-30) then (J_L_law_173 sL sx vt vi (fun w0 w1 w2 w3 => LL sL sx n w0 w1 w2 w3) v2 v3 v8 v11 v14 v16 m17 v22) else (J_L_law_174 sL sx vt vi (fun w0 w1 w2 w3 => LL sL sx n w0 w1 w2 w3) v2 v3 v8 v11 v14 v16 m17 v22) 1)))))
def J_L_law_28 (sL : Nat) (sx : Nat → Int32) (mi : Mem) (v1002 : Int32) : Option Unit :=
  (LL sL sx fu) 1 v1002 0 mi
def F_law (sL : Nat) (sx : Nat → Int32) (mi : Mem) : Option Unit := bd ((Int32.ofNat sL) / 3) fun v1001 => (if v1001 ≤ 44 then bd ((Int32.ofNat sL) / 3) fun v1004 => (J_L_law_28 sL sx mi) v1004 else (J_L_law_28 sL sx mi) 44)
def LGood (X : XW) (K : MC) (n : Nat) : Prop := Ok X K RL cL_law 12 10 ∧ kce K + n ≤ (kR K).cells ∧ ksl K + 6 * n ≤ (kR K).slots ∧ ∀ c s, c ≤ (kR K).cells → s ≤ (kR K).slots → ∀ pc lv m, decode cL_law pc = .ok (.ireturn, 1) → G X (setc K c s) pc lv [.int 1] m
set_option maxHeartbeats 40000000 in
set_option maxRecDepth 100000 in
theorem law_loop (X : XW) : ∀ (n : Nat) (vs vt vi : Int32) (mi : Mem) (K : MC), LGood X K n → LL (xL X) (xs X) n vs vt vi mi = some () → G X K 32 [(0, .ref (xb X)), (1, .ref (xad X (0, 0, 0, 0))), (2, .int vs), (3, .int vt), (4, .int vi)] [] mi := by
  intro n
  induction n with
  | zero => intro vs vt vi mi K hg hF; exact nomatch (show (none : Option Unit) = some () from hF)
  | succ n ih =>
    intro vs vt vi mi K hg hF
    obtain ⟨hk, hc1, hc2, hE0⟩ := hg
    have hroom : kce K + 1 ≤ (kR K).cells ∧ ksl K + 6 ≤ (kR K).slots := ⟨by omega, by omega⟩
    have hk1 : Ok X (setc K (kce K + 1) (ksl K + 6)) RL cL_law 12 10 := ok_setc hk hroom.1 hroom.2
    have hE : ∀ pc lv m, decode cL_law pc = .ok (.ireturn, 1) → G X K pc lv [.int 1] m := fun pc lv m hd => hE0 (kce K) (ksl K) hk.2.2.2.2.2.2.2.2.2.1 hk.2.2.2.2.2.2.2.2.2.2.1 pc lv m hd
    have ih2 : ∀ vs vt vi mi, LL (xL X) (xs X) n vs vt vi mi = some () → G X (setc K (kce K + 1) (ksl K + 6)) 32 [(0, .ref (xb X)), (1, .ref (xad X (0, 0, 0, 0))), (2, .int vs), (3, .int vt), (4, .int vi)] [] mi := fun vs vt vi mi hF => ih vs vt vi mi _ ⟨hk1, by show kce K + 1 + n ≤ (kR K).cells; omega, by show ksl K + 6 + 6 * n ≤ (kR K).slots; omega, fun c s h1 h2 => hE0 c s h1 h2⟩ hF
    rw [LL] at hF
    refine r_iload hk 4 (dtL_law_0 21 (32, .iload 4, 2) rfl) rfl ?_
    refine r_iload_n hk 3 (dtL_law_0 22 (34, .iload_n 3, 1) rfl) rfl ?_
    have j353_1 : (J_L_law_353 vs) = some () → G X K 353 [(2, .int vs)] [] mi := by
      intro hF
      unfold J_L_law_353 at hF
      refine r_iload_n hk 0 (dtL_law_2 62 (353, .iload_n 2, 1) rfl) rfl ?_
      exact r_fin hF (hE _ _ _ (dtL_law_2 63 (354, .ireturn, 1) rfl))
    refine r_icmp_ge hk 353 hF (dtL_law_0 23 (35, .if_icmp .ge 318, 3) rfl) (by decide) (fun hF => ?_) (fun hF => ?_)
    · exact r_sub hk [2] rfl (j353_1 hF)
    · refine r_iload_n hk 2 (dtL_law_0 24 (38, .iload_n 2, 1) rfl) rfl ?_
      refine r_if_eq hk 353 hF (dtL_law_0 25 (39, .ifCond .eq 314, 3) rfl) (by decide) (fun hF => ?_) (fun hF => ?_)
      · exact r_sub hk [2] rfl (j353_1 hF)
      · refine r_aload_n hk 1 (dtL_law_0 26 (42, .aload_n 1, 1) rfl) rfl ?_
        refine r_bipush (v := 7) hk (dtL_law_0 27 (43, .bipush 7, 2) rfl) (by decide) ?_
        refine r_callIts hk hF (fun c h => nomatch h) (fun R h hf H locs ls hH hS hl => runT_V (y := yX3_count) hk (in_main 0 (by decide)) rfl rfl (c_X3_count (kl K) hk.2.2.2.2.2.2.2.2.2.2.2 X  7 mi R h) lk_L_17 me_X3_count yf_X3_count (by decide) (by decide) rfl (Nat.le_of_ble_eq_true rfl) rfl (dtL_law_0 28 (45, .invokevirtual 17, 3) rfl) hf hH hS hl) (fun v2 hF => ?_)
        refine r_istore hk [(5, .int v2), (0, .ref (xb X)), (1, .ref (xad X (0, 0, 0, 0))), (2, .int vs), (3, .int vt), (4, .int vi)] (dtL_law_0 29 (48, .istore 5, 2) rfl) (by decide) rfl ?_
        refine r_aload_n hk 2 (dtL_law_0 30 (50, .aload_n 1, 1) rfl) rfl ?_
        refine r_iconst (v := 1) hk (dtL_law_0 31 (51, .iconst 1, 1) rfl) (by decide) ?_
        refine r_callIts hk hF (fun c h => nomatch h) (fun R h hf H locs ls hH hS hl => runT_V (y := yX3_count) hk (in_main 0 (by decide)) rfl rfl (c_X3_count (kl K) hk.2.2.2.2.2.2.2.2.2.2.2 X  1 mi R h) lk_L_17 me_X3_count yf_X3_count (by decide) (by decide) rfl (Nat.le_of_ble_eq_true rfl) rfl (dtL_law_0 32 (52, .invokevirtual 17, 3) rfl) hf hH hS hl) (fun v3 hF => ?_)
        refine r_istore hk [(6, .int v3), (5, .int v2), (0, .ref (xb X)), (1, .ref (xad X (0, 0, 0, 0))), (2, .int vs), (3, .int vt), (4, .int vi)] (dtL_law_0 33 (55, .istore 6, 2) rfl) (by decide) rfl ?_
        refine r_aload_n hk 3 (dtL_law_0 34 (57, .aload_n 1, 1) rfl) rfl ?_
        refine r_iconst (v := 0) hk (dtL_law_0 35 (58, .iconst 0, 1) rfl) (by decide) ?_
        refine r_bipush (v := 8) hk (dtL_law_0 36 (59, .bipush 8, 2) rfl) (by decide) ?_
        refine r_callIts hk hF (fun c h => nomatch h) (fun R h hf H locs ls hH hS hl => runT_V (y := yX3_tenant) hk (in_main 0 (by decide)) rfl rfl (c_X3_tenant (kl K) hk.2.2.2.2.2.2.2.2.2.2.2 X  0 8 mi R h) lk_L_25 me_X3_tenant yf_X3_tenant (by decide) (by decide) rfl (Nat.le_of_ble_eq_true rfl) rfl (dtL_law_0 37 (61, .invokevirtual 25, 3) rfl) hf hH hS hl) (fun v4 hF => ?_)
        refine r_aload_n hk 3 (dtL_law_0 38 (64, .aload_n 1, 1) rfl) rfl ?_
        refine r_iconst (v := 1) hk (dtL_law_0 39 (65, .iconst 1, 1) rfl) (by decide) ?_
        refine r_bipush (v := 8) hk (dtL_law_0 40 (66, .bipush 8, 2) rfl) (by decide) ?_
        refine r_callIts hk hF (fun c h => nomatch h) (fun R h hf H locs ls hH hS hl => runT_V (y := yX3_tenant) hk (in_main 0 (by decide)) rfl rfl (c_X3_tenant (kl K) hk.2.2.2.2.2.2.2.2.2.2.2 X  1 8 mi R h) lk_L_25 me_X3_tenant yf_X3_tenant (by decide) (by decide) rfl (Nat.le_of_ble_eq_true rfl) rfl (dtL_law_0 41 (68, .invokevirtual 25, 3) rfl) hf hH hS hl) (fun v5 hF => ?_)
        refine r_iadd hk hF (dtL_law_0 42 (71, .iadd, 1) rfl) (fun v6 hF => ?_)
        refine r_aload_n hk 3 (dtL_law_0 43 (72, .aload_n 1, 1) rfl) rfl ?_
        refine r_iconst (v := 2) hk (dtL_law_0 44 (73, .iconst 2, 1) rfl) (by decide) ?_
        refine r_bipush (v := 8) hk (dtL_law_0 45 (74, .bipush 8, 2) rfl) (by decide) ?_
        refine r_callIts hk hF (fun c h => nomatch h) (fun R h hf H locs ls hH hS hl => runT_V (y := yX3_tenant) hk (in_main 0 (by decide)) rfl rfl (c_X3_tenant (kl K) hk.2.2.2.2.2.2.2.2.2.2.2 X  2 8 mi R h) lk_L_25 me_X3_tenant yf_X3_tenant (by decide) (by decide) rfl (Nat.le_of_ble_eq_true rfl) rfl (dtL_law_0 46 (76, .invokevirtual 25, 3) rfl) hf hH hS hl) (fun v7 hF => ?_)
        refine r_iadd hk hF (dtL_law_0 47 (79, .iadd, 1) rfl) (fun v8 hF => ?_)
        refine r_istore hk [(7, .int v8), (6, .int v3), (5, .int v2), (0, .ref (xb X)), (1, .ref (xad X (0, 0, 0, 0))), (2, .int vs), (3, .int vt), (4, .int vi)] (dtL_law_0 48 (80, .istore 7, 2) rfl) (by decide) rfl ?_
        refine r_aload_n hk 3 (dtL_law_0 49 (82, .aload_n 0, 1) rfl) rfl ?_
        refine r_iconst (v := 3) hk (dtL_law_0 50 (83, .iconst 3, 1) rfl) (by decide) ?_
        refine r_iload hk 7 (dtL_law_0 51 (84, .iload 4, 2) rfl) rfl ?_
        refine r_imul hk hF (dtL_law_0 52 (86, .imul, 1) rfl) (fun v9 hF => ?_)
        refine r_callI hF (fun v10 h H locs ls hH hS hl => run_S hk (c_L_cell (kl K) hk.2.2.2.2.2.2.2.2.2.2.2 X  v9 mi v10 h) lk_L_60 me_L_cell yf_L_cell (by decide) (by decide) rfl (Nat.le_of_ble_eq_true rfl) rfl (dtL_law_0 53 (87, .invokestatic 60, 3) rfl) hH hS hl) (fun v10 hF => ?_)
        refine r_bipush (v := 24) hk (dtL_law_0 54 (90, .bipush 24, 2) rfl) (by decide) ?_
        refine r_callI hF (fun v11 h H locs ls hH hS hl => run_S hk (c_L_low (kl K) hk.2.2.2.2.2.2.2.2.2.2.2 X  v10 24 mi v11 h) lk_L_39 me_L_low yf_L_low (by decide) (by decide) rfl (Nat.le_of_ble_eq_true rfl) rfl (dtL_law_0 55 (92, .invokestatic 39, 3) rfl) hH hS hl) (fun v11 hF => ?_)
        refine r_istore hk [(8, .int v11), (7, .int v8), (6, .int v3), (5, .int v2), (0, .ref (xb X)), (1, .ref (xad X (0, 0, 0, 0))), (2, .int vs), (3, .int vt), (4, .int vi)] (dtL_law_0 56 (95, .istore 8, 2) rfl) (by decide) rfl ?_
        refine r_aload_n hk 4 (dtL_law_0 57 (97, .aload_n 0, 1) rfl) rfl ?_
        refine r_iconst (v := 3) hk (dtL_law_0 58 (98, .iconst 3, 1) rfl) (by decide) ?_
        refine r_iload hk 8 (dtL_law_0 59 (99, .iload 4, 2) rfl) rfl ?_
        refine r_imul hk hF (dtL_law_0 60 (101, .imul, 1) rfl) (fun v12 hF => ?_)
        refine r_iconst (v := 1) hk (dtL_law_0 61 (102, .iconst 1, 1) rfl) (by decide) ?_
        refine r_iadd hk hF (dtL_law_0 62 (103, .iadd, 1) rfl) (fun v13 hF => ?_)
        refine r_callI hF (fun v14 h H locs ls hH hS hl => run_S hk (c_L_cell (kl K) hk.2.2.2.2.2.2.2.2.2.2.2 X  v13 mi v14 h) lk_L_60 me_L_cell yf_L_cell (by decide) (by decide) rfl (Nat.le_of_ble_eq_true rfl) rfl (dtL_law_0 63 (104, .invokestatic 60, 3) rfl) hH hS hl) (fun v14 hF => ?_)
        refine r_istore hk [(9, .int v14), (8, .int v11), (7, .int v8), (6, .int v3), (5, .int v2), (0, .ref (xb X)), (1, .ref (xad X (0, 0, 0, 0))), (2, .int vs), (3, .int vt), (4, .int vi)] (dtL_law_1 0 (107, .istore 9, 2) rfl) (by decide) rfl ?_
        refine r_aload_n hk 6 (dtL_law_1 1 (109, .aload_n 1, 1) rfl) rfl ?_
        refine r_aload_n hk 5 (dtL_law_1 2 (110, .aload_n 0, 1) rfl) rfl ?_
        refine r_iconst (v := 3) hk (dtL_law_1 3 (111, .iconst 3, 1) rfl) (by decide) ?_
        refine r_iload hk 9 (dtL_law_1 4 (112, .iload 4, 2) rfl) rfl ?_
        refine r_imul hk hF (dtL_law_1 5 (114, .imul, 1) rfl) (fun v15 hF => ?_)
        refine r_callH hroom hF (fun v16 m17 h H locs ls hH hS hl => run_SA hk hroom (c_L_act (kl K) hk.2.2.2.2.2.2.2.2.2.2.2 X v15 mi v16 m17 h) lk_L_96 me_L_act yf_L_act (by decide) (by decide) rfl (Nat.le_of_ble_eq_true rfl) rfl (dtL_law_1 6 (115, .invokestatic 96, 3) rfl) hH hS hl) (fun v16 m17 hF => ?_)
        refine r_istore hk1 [(10, .int v16), (9, .int v14), (8, .int v11), (7, .int v8), (6, .int v3), (5, .int v2), (0, .ref (xb X)), (1, .ref (xad X (0, 0, 0, 0))), (2, .int vs), (3, .int vt), (4, .int vi)] (dtL_law_1 7 (118, .istore 10, 2) rfl) (by decide) rfl ?_
        refine r_aload_n hk1 7 (dtL_law_1 8 (120, .aload_n 1, 1) rfl) rfl ?_
        refine r_iconst (v := 0) hk1 (dtL_law_1 9 (121, .iconst 0, 1) rfl) (by decide) ?_
        refine r_bipush (v := 8) hk1 (dtL_law_1 10 (122, .bipush 8, 2) rfl) (by decide) ?_
        refine r_callIts hk1 hF (fun c h => nomatch h) (fun R h hf H locs ls hH hS hl => runT_V (y := yX3_tenant) hk1 (in_main 0 (by decide)) rfl rfl (c_X3_tenant (kl K) hk1.2.2.2.2.2.2.2.2.2.2.2 X  0 8 m17 R h) lk_L_25 me_X3_tenant yf_X3_tenant (by decide) (by decide) rfl (Nat.le_of_ble_eq_true rfl) rfl (dtL_law_1 11 (124, .invokevirtual 25, 3) rfl) hf hH hS hl) (fun v18 hF => ?_)
        refine r_aload_n hk1 7 (dtL_law_1 12 (127, .aload_n 1, 1) rfl) rfl ?_
        refine r_iconst (v := 1) hk1 (dtL_law_1 13 (128, .iconst 1, 1) rfl) (by decide) ?_
        refine r_bipush (v := 8) hk1 (dtL_law_1 14 (129, .bipush 8, 2) rfl) (by decide) ?_
        refine r_callIts hk1 hF (fun c h => nomatch h) (fun R h hf H locs ls hH hS hl => runT_V (y := yX3_tenant) hk1 (in_main 0 (by decide)) rfl rfl (c_X3_tenant (kl K) hk1.2.2.2.2.2.2.2.2.2.2.2 X  1 8 m17 R h) lk_L_25 me_X3_tenant yf_X3_tenant (by decide) (by decide) rfl (Nat.le_of_ble_eq_true rfl) rfl (dtL_law_1 15 (131, .invokevirtual 25, 3) rfl) hf hH hS hl) (fun v19 hF => ?_)
        refine r_iadd hk1 hF (dtL_law_1 16 (134, .iadd, 1) rfl) (fun v20 hF => ?_)
        refine r_aload_n hk1 7 (dtL_law_1 17 (135, .aload_n 1, 1) rfl) rfl ?_
        refine r_iconst (v := 2) hk1 (dtL_law_1 18 (136, .iconst 2, 1) rfl) (by decide) ?_
        refine r_bipush (v := 8) hk1 (dtL_law_1 19 (137, .bipush 8, 2) rfl) (by decide) ?_
        refine r_callIts hk1 hF (fun c h => nomatch h) (fun R h hf H locs ls hH hS hl => runT_V (y := yX3_tenant) hk1 (in_main 0 (by decide)) rfl rfl (c_X3_tenant (kl K) hk1.2.2.2.2.2.2.2.2.2.2.2 X  2 8 m17 R h) lk_L_25 me_X3_tenant yf_X3_tenant (by decide) (by decide) rfl (Nat.le_of_ble_eq_true rfl) rfl (dtL_law_1 20 (139, .invokevirtual 25, 3) rfl) hf hH hS hl) (fun v21 hF => ?_)
        refine r_iadd hk1 hF (dtL_law_1 21 (142, .iadd, 1) rfl) (fun v22 hF => ?_)
        refine r_istore hk1 [(11, .int v22), (10, .int v16), (9, .int v14), (8, .int v11), (7, .int v8), (6, .int v3), (5, .int v2), (0, .ref (xb X)), (1, .ref (xad X (0, 0, 0, 0))), (2, .int vs), (3, .int vt), (4, .int vi)] (dtL_law_1 22 (143, .istore 11, 2) rfl) (by decide) rfl ?_
        refine r_iload hk1 3 (dtL_law_1 23 (145, .iload 8, 2) rfl) rfl ?_
        refine r_bipush (v := 21) hk1 (dtL_law_1 24 (147, .bipush 21, 2) rfl) (by decide) ?_
        have j183_24 : ∀ (v23 : Int32), (J_L_law_183 (xL X) (xs X) vt vi (fun w0 w1 w2 w3 => LL (xL X) (xs X) n w0 w1 w2 w3) v2 v3 v11 v14 v16 m17) v23 = some () → G X (setc K (kce K + 1) (ksl K + 6)) 183 [(0, .ref (xb X)), (1, .ref (xad X (0, 0, 0, 0))), (3, .int vt), (4, .int vi), (5, .int v2), (6, .int v3), (8, .int v11), (9, .int v14), (10, .int v16)] [.int v23] m17 := by
          intro v23 hF
          unfold J_L_law_183 at hF
          refine r_istore_n hk1 [(2, .int v23), (0, .ref (xb X)), (1, .ref (xad X (0, 0, 0, 0))), (3, .int vt), (4, .int vi), (5, .int v2), (6, .int v3), (8, .int v11), (9, .int v14), (10, .int v16)] (dtL_law_1 42 (183, .istore_n 2, 1) rfl) (by decide) rfl ?_
          refine r_iload_n hk1 0 (dtL_law_1 43 (184, .iload_n 2, 1) rfl) rfl ?_
          have j346_27 : ∀ (v25 : Int32) (m26 : Mem), (J_L_law_346 vt vi (fun w0 w1 w2 w3 => LL (xL X) (xs X) n w0 w1 w2 w3)) v25 m26 = some () → G X (setc K (kce K + 1) (ksl K + 6)) 346 [(0, .ref (xb X)), (1, .ref (xad X (0, 0, 0, 0))), (3, .int vt), (4, .int vi)] [.int v25] m26 := by
            intro v25 m26 hF
            unfold J_L_law_346 at hF
            refine r_istore_n hk1 [(2, .int v25), (0, .ref (xb X)), (1, .ref (xad X (0, 0, 0, 0))), (3, .int vt), (4, .int vi)] (dtL_law_2 59 (346, .istore_n 2, 1) rfl) (by decide) rfl ?_
            refine r_iinc hk1 1 4 (fun v28 => [(4, .int v28), (2, .int v25), (0, .ref (xb X)), (1, .ref (xad X (0, 0, 0, 0))), (3, .int vt)]) hF (dtL_law_2 60 (347, .iinc 4 1, 3) rfl) rfl (by decide) (by decide) (fun _ => rfl) (fun v28 hF => ?_)
            refine r_goto hk1 32 (dtL_law_2 61 (350, .goto (-318), 3) rfl) (by decide) ?_
            exact r_sub hk1 [2, 3, 1, 4, 0] rfl (ih2 v25 vt v28 m26 hF)
          have j345_30 : ∀ (m29 : Mem), (J_L_law_345 vt vi (fun w0 w1 w2 w3 => LL (xL X) (xs X) n w0 w1 w2 w3)) m29 = some () → G X (setc K (kce K + 1) (ksl K + 6)) 345 [(0, .ref (xb X)), (1, .ref (xad X (0, 0, 0, 0))), (3, .int vt), (4, .int vi)] [] m29 := by
            intro m29 hF
            unfold J_L_law_345 at hF
            refine r_iconst (v := 0) hk1 (dtL_law_2 58 (345, .iconst 0, 1) rfl) (by decide) ?_
            exact r_sub hk1 [0, 1, 2, 3] rfl (j346_27 0 m29 hF)
          refine r_if_eq hk1 345 hF (dtL_law_1 44 (185, .ifCond .eq 160, 3) rfl) (by decide) (fun hF => ?_) (fun hF => ?_)
          · exact r_sub hk1 [1, 2, 3, 4] rfl (j345_30 m17 hF)
          · refine r_iload hk1 9 (dtL_law_1 45 (188, .iload 10, 2) rfl) rfl ?_
            refine r_bipush (v := (-30)) hk1 (dtL_law_1 46 (190, .bipush (-30), 2) rfl) (by decide) ?_
            have j241_31 : (J_L_law_241 (xL X) (xs X) vt vi (fun w0 w1 w2 w3 => LL (xL X) (xs X) n w0 w1 w2 w3) v3 v11 v14 v16 m17) = some () → G X (setc K (kce K + 1) (ksl K + 6)) 241 [(0, .ref (xb X)), (1, .ref (xad X (0, 0, 0, 0))), (3, .int vt), (4, .int vi), (6, .int v3), (8, .int v11), (9, .int v14), (10, .int v16)] [] m17 := by
              intro hF
              unfold J_L_law_241 at hF
              refine r_iload hk1 5 (dtL_law_2 5 (241, .iload 8, 2) rfl) rfl ?_
              refine r_bipush (v := 8) hk1 (dtL_law_2 6 (243, .bipush 8, 2) rfl) (by decide) ?_
              have j276_32 : (J_L_law_276 (xL X) (xs X) vt vi (fun w0 w1 w2 w3 => LL (xL X) (xs X) n w0 w1 w2 w3) v3 v11 v14 v16 m17) = some () → G X (setc K (kce K + 1) (ksl K + 6)) 276 [(0, .ref (xb X)), (1, .ref (xad X (0, 0, 0, 0))), (3, .int vt), (4, .int vi), (6, .int v3), (8, .int v11), (9, .int v14), (10, .int v16)] [] m17 := by
                intro hF
                unfold J_L_law_276 at hF
                refine r_iload hk1 5 (dtL_law_2 22 (276, .iload 8, 2) rfl) rfl ?_
                refine r_bipush (v := 18) hk1 (dtL_law_2 23 (278, .bipush 18, 2) rfl) (by decide) ?_
                have j302_33 : (J_L_law_302 (xL X) (xs X) vt vi (fun w0 w1 w2 w3 => LL (xL X) (xs X) n w0 w1 w2 w3) v14 m17) = some () → G X (setc K (kce K + 1) (ksl K + 6)) 302 [(0, .ref (xb X)), (1, .ref (xad X (0, 0, 0, 0))), (3, .int vt), (4, .int vi), (9, .int v14)] [] m17 := by
                  intro hF
                  unfold J_L_law_302 at hF
                  refine r_aload_n hk1 1 (dtL_law_2 35 (302, .aload_n 1, 1) rfl) rfl ?_
                  refine r_callI hF (fun v34 h H locs ls hH hS hl => run_S hk1 (c_L_table (kl K) hk1.2.2.2.2.2.2.2.2.2.2.2 X   m17 v34 h) lk_L_100 me_L_table yf_L_table (by decide) (by decide) rfl (Nat.le_of_ble_eq_true rfl) rfl (dtL_law_2 36 (303, .invokestatic 100, 3) rfl) hH hS hl) (fun v34 hF => ?_)
                  refine r_if_eq hk1 345 hF (dtL_law_2 37 (306, .ifCond .eq 39, 3) rfl) (by decide) (fun hF => ?_) (fun hF => ?_)
                  · exact r_sub hk1 [0, 1, 2, 3] rfl (j345_30 m17 hF)
                  · refine r_aload_n hk1 1 (dtL_law_2 38 (309, .aload_n 1, 1) rfl) rfl ?_
                    refine r_iload hk1 4 (dtL_law_2 39 (310, .iload 9, 2) rfl) rfl ?_
                    refine r_iconst (v := 3) hk1 (dtL_law_2 40 (312, .iconst 3, 1) rfl) (by decide) ?_
                    refine r_callI hF (fun v35 h H locs ls hH hS hl => run_S hk1 (c_L_low (kl K) hk1.2.2.2.2.2.2.2.2.2.2.2 X  v14 3 m17 v35 h) lk_L_39 me_L_low yf_L_low (by decide) (by decide) rfl (Nat.le_of_ble_eq_true rfl) rfl (dtL_law_2 41 (313, .invokestatic 39, 3) rfl) hH hS hl) (fun v35 hF => ?_)
                    refine r_iload hk1 4 (dtL_law_2 42 (316, .iload 9, 2) rfl) rfl ?_
                    refine r_iconst (v := 2) hk1 (dtL_law_2 43 (318, .iconst 2, 1) rfl) (by decide) ?_
                    refine r_ishr hk1 hF (dtL_law_2 44 (319, .ishr, 1) rfl) (fun v36 hF => ?_)
                    refine r_bipush (v := 8) hk1 (dtL_law_2 45 (320, .bipush 8, 2) rfl) (by decide) ?_
                    refine r_callI hF (fun v37 h H locs ls hH hS hl => run_S hk1 (c_L_low (kl K) hk1.2.2.2.2.2.2.2.2.2.2.2 X  v36 8 m17 v37 h) lk_L_39 me_L_low yf_L_low (by decide) (by decide) rfl (Nat.le_of_ble_eq_true rfl) rfl (dtL_law_2 46 (322, .invokestatic 39, 3) rfl) hH hS hl) (fun v37 hF => ?_)
                    refine r_aload_n hk1 0 (dtL_law_2 47 (325, .aload_n 0, 1) rfl) rfl ?_
                    refine r_iconst (v := 3) hk1 (dtL_law_2 48 (326, .iconst 3, 1) rfl) (by decide) ?_
                    refine r_iload hk1 3 (dtL_law_2 49 (327, .iload 4, 2) rfl) rfl ?_
                    refine r_imul hk1 hF (dtL_law_2 50 (329, .imul, 1) rfl) (fun v38 hF => ?_)
                    refine r_iconst (v := 2) hk1 (dtL_law_2 51 (330, .iconst 2, 1) rfl) (by decide) ?_
                    refine r_iadd hk1 hF (dtL_law_2 52 (331, .iadd, 1) rfl) (fun v39 hF => ?_)
                    refine r_callI hF (fun v40 h H locs ls hH hS hl => run_S hk1 (c_L_cell (kl K) hk1.2.2.2.2.2.2.2.2.2.2.2 X  v39 m17 v40 h) lk_L_60 me_L_cell yf_L_cell (by decide) (by decide) rfl (Nat.le_of_ble_eq_true rfl) rfl (dtL_law_2 53 (332, .invokestatic 60, 3) rfl) hH hS hl) (fun v40 hF => ?_)
                    refine r_callIm hF (fun v41 m42 h H locs ls hH hS hl => run_S hk1 (c_L_asks (kl K) hk1.2.2.2.2.2.2.2.2.2.2.2 X  v35 v37 v40 m17 v41 m42 h) lk_L_104 me_L_asks yf_L_asks (by decide) (by decide) rfl (Nat.le_of_ble_eq_true rfl) rfl (dtL_law_2 54 (335, .invokestatic 104, 3) rfl) hH hS hl) (fun v41 m42 hF => ?_)
                    refine r_if_eq hk1 345 hF (dtL_law_2 55 (338, .ifCond .eq 7, 3) rfl) (by decide) (fun hF => ?_) (fun hF => ?_)
                    · exact r_sub hk1 [0, 1, 2, 3] rfl (j345_30 m42 hF)
                    · refine r_iconst (v := 1) hk1 (dtL_law_2 56 (341, .iconst 1, 1) rfl) (by decide) ?_
                      refine r_goto hk1 346 (dtL_law_2 57 (342, .goto 4, 3) rfl) (by decide) ?_
                      exact r_sub hk1 [0, 1, 2, 3] rfl (j346_27 1 m42 hF)
                refine r_icmp_ne hk1 302 hF (dtL_law_2 24 (280, .if_icmp .ne 22, 3) rfl) (by decide) (fun hF => ?_) (fun hF => ?_)
                · exact r_sub hk1 [0, 1, 2, 3, 6] rfl (j302_33 hF)
                · refine r_iload hk1 7 (dtL_law_2 25 (283, .iload 10, 2) rfl) rfl ?_
                  refine r_bipush (v := (-30)) hk1 (dtL_law_2 26 (285, .bipush (-30), 2) rfl) (by decide) ?_
                  refine r_icmp_eq hk1 302 hF (dtL_law_2 27 (287, .if_icmp .eq 15, 3) rfl) (by decide) (fun hF => ?_) (fun hF => ?_)
                  · exact r_sub hk1 [0, 1, 2, 3, 6] rfl (j302_33 hF)
                  · refine r_aload_n hk1 1 (dtL_law_2 28 (290, .aload_n 1, 1) rfl) rfl ?_
                    refine r_iconst (v := 1) hk1 (dtL_law_2 29 (291, .iconst 1, 1) rfl) (by decide) ?_
                    refine r_callIts hk1 hF (fun c h => nomatch h) (fun R h hf H locs ls hH hS hl => runT_V (y := yX3_count) hk1 (in_main 0 (by decide)) rfl rfl (c_X3_count (kl K) hk1.2.2.2.2.2.2.2.2.2.2.2 X  1 m17 R h) lk_L_17 me_X3_count yf_X3_count (by decide) (by decide) rfl (Nat.le_of_ble_eq_true rfl) rfl (dtL_law_2 30 (292, .invokevirtual 17, 3) rfl) hf hH hS hl) (fun v43 hF => ?_)
                    refine r_iload hk1 4 (dtL_law_2 31 (295, .iload 6, 2) rfl) rfl ?_
                    refine r_iconst (v := 1) hk1 (dtL_law_2 32 (297, .iconst 1, 1) rfl) (by decide) ?_
                    refine r_isub hk1 hF (dtL_law_2 33 (298, .isub, 1) rfl) (fun v44 hF => ?_)
                    refine r_icmp_ne hk1 345 hF (dtL_law_2 34 (299, .if_icmp .ne 46, 3) rfl) (by decide) (fun hF => ?_) (fun hF => ?_)
                    · exact r_sub hk1 [0, 1, 2, 3] rfl (j345_30 m17 hF)
                    · exact r_sub hk1 [0, 1, 2, 3, 6] rfl (j302_33 hF)
              refine r_icmp_lt hk1 276 hF (dtL_law_2 7 (245, .if_icmp .lt 31, 3) rfl) (by decide) (fun hF => ?_) (fun hF => ?_)
              · exact r_sub hk1 [0, 1, 2, 3, 4, 5, 6, 7] rfl (j276_32 hF)
              · refine r_iload hk1 5 (dtL_law_2 8 (248, .iload 8, 2) rfl) rfl ?_
                refine r_bipush (v := 12) hk1 (dtL_law_2 9 (250, .bipush 12, 2) rfl) (by decide) ?_
                refine r_icmp_gt hk1 276 hF (dtL_law_2 10 (252, .if_icmp .gt 24, 3) rfl) (by decide) (fun hF => ?_) (fun hF => ?_)
                · exact r_sub hk1 [0, 1, 2, 3, 4, 5, 6, 7] rfl (j276_32 hF)
                · refine r_aload_n hk1 1 (dtL_law_2 11 (255, .aload_n 1, 1) rfl) rfl ?_
                  refine r_iconst (v := 1) hk1 (dtL_law_2 12 (256, .iconst 1, 1) rfl) (by decide) ?_
                  refine r_callIts hk1 hF (fun c h => nomatch h) (fun R h hf H locs ls hH hS hl => runT_V (y := yX3_count) hk1 (in_main 0 (by decide)) rfl rfl (c_X3_count (kl K) hk1.2.2.2.2.2.2.2.2.2.2.2 X  1 m17 R h) lk_L_17 me_X3_count yf_X3_count (by decide) (by decide) rfl (Nat.le_of_ble_eq_true rfl) rfl (dtL_law_2 13 (257, .invokevirtual 17, 3) rfl) hf hH hS hl) (fun v45 hF => ?_)
                  refine r_iload hk1 4 (dtL_law_2 14 (260, .iload 6, 2) rfl) rfl ?_
                  refine r_iload hk1 7 (dtL_law_2 15 (262, .iload 10, 2) rfl) rfl ?_
                  have j272_47 : ∀ (v46 : Int32), (J_L_law_272 (xL X) (xs X) vt vi (fun w0 w1 w2 w3 => LL (xL X) (xs X) n w0 w1 w2 w3) v3 v11 v14 v16 m17 v45) v46 = some () → G X (setc K (kce K + 1) (ksl K + 6)) 272 [(0, .ref (xb X)), (1, .ref (xad X (0, 0, 0, 0))), (3, .int vt), (4, .int vi), (6, .int v3), (8, .int v11), (9, .int v14), (10, .int v16)] [.int v46, .int v3, .int v45] m17 := by
                    intro v46 hF
                    unfold J_L_law_272 at hF
                    refine r_iadd hk1 hF (dtL_law_2 20 (272, .iadd, 1) rfl) (fun v48 hF => ?_)
                    refine r_icmp_ne hk1 345 hF (dtL_law_2 21 (273, .if_icmp .ne 72, 3) rfl) (by decide) (fun hF => ?_) (fun hF => ?_)
                    · exact r_sub hk1 [0, 1, 2, 3] rfl (j345_30 m17 hF)
                    · exact r_sub hk1 [0, 1, 2, 3, 4, 5, 6, 7] rfl (j276_32 hF)
                  refine r_if_ge hk1 271 hF (dtL_law_2 16 (264, .ifCond .ge 7, 3) rfl) (by decide) (fun hF => ?_) (fun hF => ?_)
                  · refine r_iconst (v := 1) hk1 (dtL_law_2 19 (271, .iconst 1, 1) rfl) (by decide) ?_
                    exact r_sub hk1 [0, 1, 2, 3, 4, 5, 6, 7] rfl (j272_47 1 hF)
                  · refine r_iconst (v := 0) hk1 (dtL_law_2 17 (267, .iconst 0, 1) rfl) (by decide) ?_
                    refine r_goto hk1 272 (dtL_law_2 18 (268, .goto 4, 3) rfl) (by decide) ?_
                    exact r_sub hk1 [0, 1, 2, 3, 4, 5, 6, 7] rfl (j272_47 0 hF)
            refine r_icmp_ne hk1 209 hF (dtL_law_1 47 (192, .if_icmp .ne 17, 3) rfl) (by decide) (fun hF => ?_) (fun hF => ?_)
            · refine r_iload hk1 7 (dtL_law_1 54 (209, .iload 8, 2) rfl) rfl ?_
              refine r_bipush (v := 21) hk1 (dtL_law_1 55 (211, .bipush 21, 2) rfl) (by decide) ?_
              refine r_icmp_gt hk1 241 hF (dtL_law_1 56 (213, .if_icmp .gt 28, 3) rfl) (by decide) (fun hF => ?_) (fun hF => ?_)
              · exact r_sub hk1 [1, 2, 3, 4, 6, 7, 8, 9] rfl (j241_31 hF)
              · refine r_aload_n hk1 2 (dtL_law_1 57 (216, .aload_n 1, 1) rfl) rfl ?_
                refine r_bipush (v := 7) hk1 (dtL_law_1 58 (217, .bipush 7, 2) rfl) (by decide) ?_
                refine r_callIts hk1 hF (fun c h => nomatch h) (fun R h hf H locs ls hH hS hl => runT_V (y := yX3_count) hk1 (in_main 0 (by decide)) rfl rfl (c_X3_count (kl K) hk1.2.2.2.2.2.2.2.2.2.2.2 X  7 m17 R h) lk_L_17 me_X3_count yf_X3_count (by decide) (by decide) rfl (Nat.le_of_ble_eq_true rfl) rfl (dtL_law_1 59 (219, .invokevirtual 17, 3) rfl) hf hH hS hl) (fun v49 hF => ?_)
                refine r_iload hk1 5 (dtL_law_1 60 (222, .iload 5, 2) rfl) rfl ?_
                refine r_bipush (v := 6) hk1 (dtL_law_1 61 (224, .bipush 6, 2) rfl) (by decide) ?_
                have j238_51 : ∀ (v50 : Int32), (J_L_law_238 (xL X) (xs X) vt vi (fun w0 w1 w2 w3 => LL (xL X) (xs X) n w0 w1 w2 w3) v3 v11 v14 v16 m17 v49) v50 = some () → G X (setc K (kce K + 1) (ksl K + 6)) 238 [(0, .ref (xb X)), (1, .ref (xad X (0, 0, 0, 0))), (3, .int vt), (4, .int vi), (6, .int v3), (8, .int v11), (9, .int v14), (10, .int v16)] [.int v50, .int v49] m17 := by
                  intro v50 hF
                  unfold J_L_law_238 at hF
                  refine r_icmp_ne hk1 345 hF (dtL_law_2 4 (238, .if_icmp .ne 107, 3) rfl) (by decide) (fun hF => ?_) (fun hF => ?_)
                  · exact r_sub hk1 [0, 1, 2, 3] rfl (j345_30 m17 hF)
                  · exact r_sub hk1 [0, 1, 2, 3, 4, 5, 6, 7] rfl (j241_31 hF)
                refine r_icmp_ge hk1 236 hF (dtL_law_1 62 (226, .if_icmp .ge 10, 3) rfl) (by decide) (fun hF => ?_) (fun hF => ?_)
                · refine r_bipush (v := 6) hk1 (dtL_law_2 3 (236, .bipush 6, 2) rfl) (by decide) ?_
                  exact r_sub hk1 [1, 2, 3, 4, 6, 7, 8, 9] rfl (j238_51 6 hF)
                · refine r_iload hk1 5 (dtL_law_1 63 (229, .iload 5, 2) rfl) rfl ?_
                  refine r_iconst (v := 1) hk1 (dtL_law_2 0 (231, .iconst 1, 1) rfl) (by decide) ?_
                  refine r_iadd hk1 hF (dtL_law_2 1 (232, .iadd, 1) rfl) (fun v52 hF => ?_)
                  refine r_goto hk1 238 (dtL_law_2 2 (233, .goto 5, 3) rfl) (by decide) ?_
                  exact r_sub hk1 [1, 2, 3, 4, 6, 7, 8, 9] rfl (j238_51 v52 hF)
            · refine r_aload_n hk1 2 (dtL_law_1 48 (195, .aload_n 1, 1) rfl) rfl ?_
              refine r_bipush (v := 7) hk1 (dtL_law_1 49 (196, .bipush 7, 2) rfl) (by decide) ?_
              refine r_callIts hk1 hF (fun c h => nomatch h) (fun R h hf H locs ls hH hS hl => runT_V (y := yX3_count) hk1 (in_main 0 (by decide)) rfl rfl (c_X3_count (kl K) hk1.2.2.2.2.2.2.2.2.2.2.2 X  7 m17 R h) lk_L_17 me_X3_count yf_X3_count (by decide) (by decide) rfl (Nat.le_of_ble_eq_true rfl) rfl (dtL_law_1 50 (198, .invokevirtual 17, 3) rfl) hf hH hS hl) (fun v53 hF => ?_)
              refine r_iload hk1 5 (dtL_law_1 51 (201, .iload 5, 2) rfl) rfl ?_
              refine r_icmp_ne hk1 345 hF (dtL_law_1 52 (203, .if_icmp .ne 142, 3) rfl) (by decide) (fun hF => ?_) (fun hF => ?_)
              · exact r_sub hk1 [1, 2, 3, 4] rfl (j345_30 m17 hF)
              · refine r_goto hk1 241 (dtL_law_1 53 (206, .goto 35, 3) rfl) (by decide) ?_
                exact r_sub hk1 [1, 2, 3, 4, 6, 7, 8, 9] rfl (j241_31 hF)
        have j178_54 : (J_L_law_178 (xL X) (xs X) vt vi (fun w0 w1 w2 w3 => LL (xL X) (xs X) n w0 w1 w2 w3) v2 v3 v11 v14 v16 m17) = some () → G X (setc K (kce K + 1) (ksl K + 6)) 178 [(0, .ref (xb X)), (1, .ref (xad X (0, 0, 0, 0))), (3, .int vt), (4, .int vi), (5, .int v2), (6, .int v3), (8, .int v11), (9, .int v14), (10, .int v16)] [] m17 := by
          intro hF
          unfold J_L_law_178 at hF
          refine r_iconst (v := 1) hk1 (dtL_law_1 39 (178, .iconst 1, 1) rfl) (by decide) ?_
          refine r_goto hk1 183 (dtL_law_1 40 (179, .goto 4, 3) rfl) (by decide) ?_
          exact r_sub hk1 [0, 1, 2, 3, 4, 5, 6, 7, 8] rfl (j183_24 1 hF)
        refine r_icmp_gt hk1 178 hF (dtL_law_1 25 (149, .if_icmp .gt 29, 3) rfl) (by decide) (fun hF => ?_) (fun hF => ?_)
        · exact r_sub hk1 [7, 8, 10, 11, 6, 5, 3, 2, 1] rfl (j178_54 hF)
        · refine r_iload hk1 0 (dtL_law_1 26 (152, .iload 11, 2) rfl) rfl ?_
          refine r_iload hk1 4 (dtL_law_1 27 (154, .iload 7, 2) rfl) rfl ?_
          refine r_iload hk1 1 (dtL_law_1 28 (156, .iload 10, 2) rfl) rfl ?_
          refine r_iconst (v := (-1)) hk1 (dtL_law_1 29 (158, .iconst (-1), 1) rfl) (by decide) ?_
          have j174_56 : ∀ (v55 : Int32), (J_L_law_174 (xL X) (xs X) vt vi (fun w0 w1 w2 w3 => LL (xL X) (xs X) n w0 w1 w2 w3) v2 v3 v8 v11 v14 v16 m17 v22) v55 = some () → G X (setc K (kce K + 1) (ksl K + 6)) 174 [(0, .ref (xb X)), (1, .ref (xad X (0, 0, 0, 0))), (3, .int vt), (4, .int vi), (5, .int v2), (6, .int v3), (8, .int v11), (9, .int v14), (10, .int v16)] [.int v55, .int v8, .int v22] m17 := by
            intro v55 hF
            unfold J_L_law_174 at hF
            refine r_iadd hk1 hF (dtL_law_1 37 (174, .iadd, 1) rfl) (fun v57 hF => ?_)
            refine r_icmp_ne hk1 182 hF (dtL_law_1 38 (175, .if_icmp .ne 7, 3) rfl) (by decide) (fun hF => ?_) (fun hF => ?_)
            · refine r_iconst (v := 0) hk1 (dtL_law_1 41 (182, .iconst 0, 1) rfl) (by decide) ?_
              exact r_sub hk1 [0, 1, 2, 3, 4, 5, 6, 7, 8] rfl (j183_24 0 hF)
            · exact r_sub hk1 [0, 1, 2, 3, 4, 5, 6, 7, 8] rfl (j178_54 hF)
          have j173_58 : (J_L_law_173 (xL X) (xs X) vt vi (fun w0 w1 w2 w3 => LL (xL X) (xs X) n w0 w1 w2 w3) v2 v3 v8 v11 v14 v16 m17 v22) = some () → G X (setc K (kce K + 1) (ksl K + 6)) 173 [(0, .ref (xb X)), (1, .ref (xad X (0, 0, 0, 0))), (3, .int vt), (4, .int vi), (5, .int v2), (6, .int v3), (8, .int v11), (9, .int v14), (10, .int v16)] [.int v8, .int v22] m17 := by
            intro hF
            unfold J_L_law_173 at hF
            refine r_iconst (v := 0) hk1 (dtL_law_1 36 (173, .iconst 0, 1) rfl) (by decide) ?_
            exact r_sub hk1 [0, 1, 2, 3, 4, 5, 6, 7, 8] rfl (j174_56 0 hF)
          refine r_icmp_ge hk1 173 hF (dtL_law_1 30 (159, .if_icmp .ge 14, 3) rfl) (by decide) (fun hF => ?_) (fun hF => ?_)
          · exact r_sub hk1 [7, 8, 10, 11, 6, 5, 3, 2, 1] rfl (j173_58 hF)
          · refine r_iload hk1 1 (dtL_law_1 31 (162, .iload 10, 2) rfl) rfl ?_
            refine r_bipush (v := (-30)) hk1 (dtL_law_1 32 (164, .bipush (-30), 2) rfl) (by decide) ?_
            refine r_icmp_le hk1 173 hF (dtL_law_1 33 (166, .if_icmp .le 7, 3) rfl) (by decide) (fun hF => ?_) (fun hF => ?_)
            · exact r_sub hk1 [7, 8, 10, 11, 6, 5, 3, 2, 1] rfl (j173_58 hF)
            · refine r_iconst (v := 1) hk1 (dtL_law_1 34 (169, .iconst 1, 1) rfl) (by decide) ?_
              refine r_goto hk1 174 (dtL_law_1 35 (170, .goto 4, 3) rfl) (by decide) ?_
              exact r_sub hk1 [7, 8, 10, 11, 6, 5, 3, 2, 1] rfl (j174_56 1 hF)
set_option maxHeartbeats 40000000 in
set_option maxRecDepth 100000 in
theorem law_run (X : XW) (K : MC) (hg : LGood X K fu) (mi : Mem) (hF : F_law (xL X) (xs X) mi = some ()) : G X K 8 [(0, .ref (xb X)), (1, .ref (xad X (0, 0, 0, 0)))] [] mi := by
  have hk := hg.1
  have hLL : ∀ vs vt vi mi, LL (xL X) (xs X) fu vs vt vi mi = some () → G X K 32 [(0, .ref (xb X)), (1, .ref (xad X (0, 0, 0, 0))), (2, .int vs), (3, .int vt), (4, .int vi)] [] mi := fun vs vt vi mi h => law_loop X fu vs vt vi mi K hg h
  unfold F_law at hF
  refine r_iconst (v := 1) hk (dtL_law_0 4 (8, .iconst 1, 1) rfl) (by decide) ?_
  refine r_istore_n hk [(2, .int 1), (0, .ref (xb X)), (1, .ref (xad X (0, 0, 0, 0)))] (dtL_law_0 5 (9, .istore_n 2, 1) rfl) (by decide) rfl ?_
  refine r_aload_n hk 1 (dtL_law_0 6 (10, .aload_n 0, 1) rfl) rfl ?_
  refine r_slen hk (dtL_law_0 7 (11, .arraylength, 1) rfl) ?_
  refine r_iconst (v := 3) hk (dtL_law_0 8 (12, .iconst 3, 1) rfl) (by decide) ?_
  refine r_idiv hk (by decide) hF (dtL_law_0 9 (13, .idiv, 1) rfl) (fun v1001 hF => ?_)
  refine r_bipush (v := 44) hk (dtL_law_0 10 (14, .bipush 44, 2) rfl) (by decide) ?_
  have j28_1003 : ∀ (v1002 : Int32), (J_L_law_28 (xL X) (xs X) mi) v1002 = some () → G X K 28 [(0, .ref (xb X)), (1, .ref (xad X (0, 0, 0, 0))), (2, .int 1)] [.int v1002] mi := by
    intro v1002 hF
    unfold J_L_law_28 at hF
    refine r_istore_n hk [(3, .int v1002), (0, .ref (xb X)), (1, .ref (xad X (0, 0, 0, 0))), (2, .int 1)] (dtL_law_0 18 (28, .istore_n 3, 1) rfl) (by decide) rfl ?_
    refine r_iconst (v := 0) hk (dtL_law_0 19 (29, .iconst 0, 1) rfl) (by decide) ?_
    refine r_istore hk [(4, .int 0), (3, .int v1002), (0, .ref (xb X)), (1, .ref (xad X (0, 0, 0, 0))), (2, .int 1)] (dtL_law_0 20 (30, .istore 4, 2) rfl) (by decide) rfl ?_
    exact r_sub hk [2, 3, 4, 1, 0] rfl (hLL 1 v1002 0 mi hF)
  refine r_icmp_le hk 24 hF (dtL_law_0 11 (16, .if_icmp .le 8, 3) rfl) (by decide) (fun hF => ?_) (fun hF => ?_)
  · refine r_aload_n hk 1 (dtL_law_0 14 (24, .aload_n 0, 1) rfl) rfl ?_
    refine r_slen hk (dtL_law_0 15 (25, .arraylength, 1) rfl) ?_
    refine r_iconst (v := 3) hk (dtL_law_0 16 (26, .iconst 3, 1) rfl) (by decide) ?_
    refine r_idiv hk (by decide) hF (dtL_law_0 17 (27, .idiv, 1) rfl) (fun v1004 hF => ?_)
    exact r_sub hk [1, 2, 0] rfl (j28_1003 v1004 hF)
  · refine r_bipush (v := 44) hk (dtL_law_0 12 (19, .bipush 44, 2) rfl) (by decide) ?_
    refine r_goto hk 28 (dtL_law_0 13 (21, .goto 7, 3) rfl) (by decide) ?_
    exact r_sub hk [1, 2, 0] rfl (j28_1003 44 hF)
