/-! the walks (written by dec.py) -/
set_option maxHeartbeats 4000000 in
set_option maxRecDepth 100000 in
theorem c_X1_tableOf (l : Launch) (hlf : l.stackTraces = false) (X : XW) (i0 : Nat) (hi0 : i0 < 7) (p1 : Int32) (m0 : Mem) (rv : Int32) (hF : F_X1_tableOf i0 p1 m0 = some rv) : MX X l yX1_tableOf cX1_tableOf 2 (some .int) 0 [.ref (xad X (1, i0, 0, 0)), .int p1] m0 (QI X rv m0) := by
  refine startI hlf (by decide +kernel) rfl [(0, .ref (xad X (1, i0, 0, 0))), (1, .int p1)] rfl (Nat.le_of_ble_eq_true rfl) (fun K hk hR => ?_)
  unfold F_X1_tableOf at hF
  refine r_aload_n hk 0 (dtX1_tableOf_0 0 (0, .aload_n 0, 1) rfl) rfl ?_
  refine r_getR hk (k := 0) (fsX1 X i0) cbX1 (by decide) fl_X1_11 (in_st i0 hi0 0 (by decide)) (fun _ => rfl) (fun _ _ => rfl) (dtX1_tableOf_0 1 (1, .getfield 11, 3) rfl) ?_
  refine r_iload_n hk 1 (dtX1_tableOf_0 2 (4, .iload_n 1, 1) rfl) rfl ?_
  refine r_aldT hk hi0 hF (dtX1_tableOf_0 3 (5, .aaload, 1) rfl) (fun q1 hq1 hF => ?_)
  refine r_getI hk (k := 5) (fsX2 X i0 q1) cbX2 (by decide) fl_X1_56 (in_tn i0 hi0 q1 hq1 0 (by decide)) (fun _ => rfl) (fun _ _ => rfl) hF (dtX1_tableOf_0 4 (6, .getfield 56, 3) rfl) (fun v2 hF => ?_)
  have j19_4 : ∀ (v3 : Int32), J_X1_tableOf_19 v3 = some rv → G X K 19 [] [.int v3] m0 := by
    intro v3 hF
    unfold J_X1_tableOf_19 at hF
    cases Option.some.inj hF
    exact hR _ _ (dtX1_tableOf_0 11 (19, .ireturn, 1) rfl)
  refine r_if_eq hk 18 hF (dtX1_tableOf_0 5 (9, .ifCond .eq 9, 3) rfl) (by decide) (fun hF => ?_) (fun hF => ?_)
  · refine r_iconst (v := 0) hk (dtX1_tableOf_0 10 (18, .iconst 0, 1) rfl) (by decide) ?_
    exact r_sub hk [] rfl (j19_4 0 hF)
  · refine r_iload_n hk 1 (dtX1_tableOf_0 6 (12, .iload_n 1, 1) rfl) rfl ?_
    refine r_iconst (v := 1) hk (dtX1_tableOf_0 7 (13, .iconst 1, 1) rfl) (by decide) ?_
    refine r_iadd hk hF (dtX1_tableOf_0 8 (14, .iadd, 1) rfl) (fun v5 hF => ?_)
    refine r_goto hk 19 (dtX1_tableOf_0 9 (15, .goto 4, 3) rfl) (by decide) ?_
    exact r_sub hk [] rfl (j19_4 v5 hF)
set_option maxHeartbeats 4000000 in
set_option maxRecDepth 100000 in
theorem c_X1_insertRow (l : Launch) (hlf : l.stackTraces = false) (X : XW) (i0 : Nat) (hi0 : i0 < 7) (p1 : Int32) (m0 : Mem) (rv : Int32) (mE : Mem) (hF : F_X1_insertRow i0 p1 m0 = some (rv, mE)) : MX X l yX1_insertRow cX1_insertRow 4 (some .int) 2 [.ref (xad X (1, i0, 0, 0)), .int p1] m0 (QI X rv mE) := by
  refine startI hlf (by decide +kernel) rfl [(0, .ref (xad X (1, i0, 0, 0))), (1, .int p1)] rfl (Nat.le_of_ble_eq_true rfl) (fun K hk hR => ?_)
  unfold F_X1_insertRow at hF
  refine r_aload_n hk 0 (dtX1_insertRow_0 0 (0, .aload_n 0, 1) rfl) rfl ?_
  refine r_getI hk (k := 3) (fsX1 X i0) cbX1 (by decide) fl_X1_29 (in_st i0 hi0 0 (by decide)) (fun _ => rfl) (fun _ _ => rfl) hF (dtX1_insertRow_0 1 (1, .getfield 29, 3) rfl) (fun v1 hF => ?_)
  refine r_bipush (v := 120) hk (dtX1_insertRow_0 2 (4, .bipush 120, 2) rfl) (by decide) ?_
  refine r_icmp_lt hk 11 hF (dtX1_insertRow_0 3 (6, .if_icmp .lt 5, 3) rfl) (by decide) (fun hF => ?_) (fun hF => ?_)
  · refine r_iconst (v := 0) hk (dtX1_insertRow_0 6 (11, .iconst 0, 1) rfl) (by decide) ?_
    refine r_istore_n hk [(2, .int 0), (0, .ref (xad X (1, i0, 0, 0))), (1, .int p1)] (dtX1_insertRow_0 7 (12, .istore_n 2, 1) rfl) (by decide) rfl ?_
    have e45_3 : ∀ (v2 : Int32), (C_X1_insertRow_45 i0 p1 m0) v2 = some (rv, mE) → G X K 45 [(0, .ref (xad X (1, i0, 0, 0))), (1, .int p1), (2, .int v2)] [] m0 := by
      intro v2 hF
      unfold C_X1_insertRow_45 at hF
      refine r_aload_n hk 0 (dtX1_insertRow_0 24 (45, .aload_n 0, 1) rfl) rfl ?_
      refine r_getR hk (k := 1) (fsX1 X i0) cbX1 (by decide) fl_X1_17 (in_st i0 hi0 0 (by decide)) (fun _ => rfl) (fun _ _ => rfl) (dtX1_insertRow_0 25 (46, .getfield 17, 3) rfl) ?_
      refine r_iload_n hk 2 (dtX1_insertRow_0 26 (49, .iload_n 2, 1) rfl) rfl ?_
      refine r_aload_n hk 0 (dtX1_insertRow_0 27 (50, .aload_n 0, 1) rfl) rfl ?_
      refine r_getR hk (k := 1) (fsX1 X i0) cbX1 (by decide) fl_X1_17 (in_st i0 hi0 0 (by decide)) (fun _ => rfl) (fun _ _ => rfl) (dtX1_insertRow_0 28 (51, .getfield 17, 3) rfl) ?_
      refine r_iload_n hk 2 (dtX1_insertRow_0 29 (54, .iload_n 2, 1) rfl) rfl ?_
      refine r_iconst (v := 1) hk (dtX1_insertRow_0 30 (55, .iconst 1, 1) rfl) (by decide) ?_
      refine r_iadd hk hF (dtX1_insertRow_0 31 (56, .iadd, 1) rfl) (fun v4 hF => ?_)
      refine r_aload_n hk 0 (dtX1_insertRow_0 32 (57, .aload_n 0, 1) rfl) rfl ?_
      refine r_getI hk (k := 3) (fsX1 X i0) cbX1 (by decide) fl_X1_29 (in_st i0 hi0 0 (by decide)) (fun _ => rfl) (fun _ _ => rfl) hF (dtX1_insertRow_0 33 (58, .getfield 29, 3) rfl) (fun v5 hF => ?_)
      refine r_iload_n hk 2 (dtX1_insertRow_0 34 (61, .iload_n 2, 1) rfl) rfl ?_
      refine r_isub hk hF (dtX1_insertRow_0 35 (62, .isub, 1) rfl) (fun v6 hF => ?_)
      refine r_copyi hk (in_st i0 hi0 2 (by decide)) (fun _ => rfl) (in_st i0 hi0 2 (by decide)) (fun _ => rfl) lk_X1_33 hF (by decide) (Nat.le_of_ble_eq_true rfl) (dtX1_insertRow_0 36 (63, .invokestatic 33, 3) rfl) (fun m7 hF => ?_)
      refine r_aload_n hk 0 (dtX1_insertRow_0 37 (66, .aload_n 0, 1) rfl) rfl ?_
      refine r_getR hk (k := 2) (fsX1 X i0) cbX1 (by decide) fl_X1_21 (in_st i0 hi0 0 (by decide)) (fun _ => rfl) (fun _ _ => rfl) (dtX1_insertRow_0 38 (67, .getfield 21, 3) rfl) ?_
      refine r_iload_n hk 2 (dtX1_insertRow_0 39 (70, .iload_n 2, 1) rfl) rfl ?_
      refine r_bipush (v := 8) hk (dtX1_insertRow_0 40 (71, .bipush 8, 2) rfl) (by decide) ?_
      refine r_imul hk hF (dtX1_insertRow_0 41 (73, .imul, 1) rfl) (fun v8 hF => ?_)
      refine r_aload_n hk 0 (dtX1_insertRow_0 42 (74, .aload_n 0, 1) rfl) rfl ?_
      refine r_getR hk (k := 2) (fsX1 X i0) cbX1 (by decide) fl_X1_21 (in_st i0 hi0 0 (by decide)) (fun _ => rfl) (fun _ _ => rfl) (dtX1_insertRow_0 43 (75, .getfield 21, 3) rfl) ?_
      refine r_iload_n hk 2 (dtX1_insertRow_0 44 (78, .iload_n 2, 1) rfl) rfl ?_
      refine r_iconst (v := 1) hk (dtX1_insertRow_0 45 (79, .iconst 1, 1) rfl) (by decide) ?_
      refine r_iadd hk hF (dtX1_insertRow_0 46 (80, .iadd, 1) rfl) (fun v9 hF => ?_)
      refine r_bipush (v := 8) hk (dtX1_insertRow_0 47 (81, .bipush 8, 2) rfl) (by decide) ?_
      refine r_imul hk hF (dtX1_insertRow_0 48 (83, .imul, 1) rfl) (fun v10 hF => ?_)
      refine r_aload_n hk 0 (dtX1_insertRow_0 49 (84, .aload_n 0, 1) rfl) rfl ?_
      refine r_getI hk (k := 3) (fsX1 X i0) cbX1 (by decide) fl_X1_29 (in_st i0 hi0 0 (by decide)) (fun _ => rfl) (fun _ _ => rfl) hF (dtX1_insertRow_0 50 (85, .getfield 29, 3) rfl) (fun v11 hF => ?_)
      refine r_iload_n hk 2 (dtX1_insertRow_0 51 (88, .iload_n 2, 1) rfl) rfl ?_
      refine r_isub hk hF (dtX1_insertRow_0 52 (89, .isub, 1) rfl) (fun v12 hF => ?_)
      refine r_bipush (v := 8) hk (dtX1_insertRow_0 53 (90, .bipush 8, 2) rfl) (by decide) ?_
      refine r_imul hk hF (dtX1_insertRow_0 54 (92, .imul, 1) rfl) (fun v13 hF => ?_)
      refine r_copyi hk (in_st i0 hi0 3 (by decide)) (fun _ => rfl) (in_st i0 hi0 3 (by decide)) (fun _ => rfl) lk_X1_33 hF (by decide) (Nat.le_of_ble_eq_true rfl) (dtX1_insertRow_0 55 (93, .invokestatic 33, 3) rfl) (fun m14 hF => ?_)
      refine r_aload_n hk 0 (dtX1_insertRow_0 56 (96, .aload_n 0, 1) rfl) rfl ?_
      refine r_dup hk (dtX1_insertRow_0 57 (97, .dup, 1) rfl) rfl ?_
      refine r_getI hk (k := 3) (fsX1 X i0) cbX1 (by decide) fl_X1_29 (in_st i0 hi0 0 (by decide)) (fun _ => rfl) (fun _ _ => rfl) hF (dtX1_insertRow_0 58 (98, .getfield 29, 3) rfl) (fun v15 hF => ?_)
      refine r_iconst (v := 1) hk (dtX1_insertRow_0 59 (101, .iconst 1, 1) rfl) (by decide) ?_
      refine r_iadd hk hF (dtX1_insertRow_0 60 (102, .iadd, 1) rfl) (fun v16 hF => ?_)
      refine r_putI hk (k := 3) (fsX1 X i0) cbX1 (by decide) fl_X1_29 (in_st i0 hi0 0 (by decide)) (fun _ => rfl) rfl rfl (fun _ _ _ => rfl) (fun _ _ => (by decide : 3 < 4)) hF (dtX1_insertRow_0 61 (103, .putfield 29, 3) rfl) (fun m17 hF => ?_)
      refine r_aload_n hk 0 (dtX1_insertRow_0 62 (106, .aload_n 0, 1) rfl) rfl ?_
      refine r_getR hk (k := 1) (fsX1 X i0) cbX1 (by decide) fl_X1_17 (in_st i0 hi0 0 (by decide)) (fun _ => rfl) (fun _ _ => rfl) (dtX1_insertRow_0 63 (107, .getfield 17, 3) rfl) ?_
      refine r_iload_n hk 2 (dtX1_insertRow_1 0 (110, .iload_n 2, 1) rfl) rfl ?_
      refine r_iload_n hk 1 (dtX1_insertRow_1 1 (111, .iload_n 1, 1) rfl) rfl ?_
      refine r_iast hk (in_st i0 hi0 2 (by decide)) (fun _ => rfl) hF (dtX1_insertRow_1 2 (112, .iastore, 1) rfl) (fun m18 hF => ?_)
      refine r_iconst (v := 0) hk (dtX1_insertRow_1 3 (113, .iconst 0, 1) rfl) (by decide) ?_
      refine r_istore_n hk [(3, .int 0), (0, .ref (xad X (1, i0, 0, 0))), (1, .int p1), (2, .int v2)] (dtX1_insertRow_1 4 (114, .istore_n 3, 1) rfl) (by decide) rfl ?_
      have e135_20 : ∀ (m19 : Mem), (C_X1_insertRow_135 v2) m19 = some (rv, mE) → G X K 135 [(2, .int v2)] [] m19 := by
        intro m19 hF
        unfold C_X1_insertRow_135 at hF
        refine r_iload_n hk 0 (dtX1_insertRow_1 15 (135, .iload_n 2, 1) rfl) rfl ?_
        cases Option.some.inj hF
        exact hR _ _ (dtX1_insertRow_1 16 (136, .ireturn, 1) rfl)
      have l24 : ∀ (n24 : Nat) (v21 : Int32) (m22 : Mem), L_X1_insertRow_115 i0 v2 n24 v21 m22 = some (rv, mE) → G X K 115 [(0, .ref (xad X (1, i0, 0, 0))), (2, .int v2), (3, .int v21)] [] m22 := by
        intro n24
        induction n24 with
        | zero => intro v21 m22 hF; exact nomatch (show (none : Option (Int32 × Mem)) = some (rv, mE) from hF)
        | succ n24 ih24 =>
          intro v21 m22 hF
          rw [L_X1_insertRow_115] at hF
          refine r_iload_n hk 2 (dtX1_insertRow_1 5 (115, .iload_n 3, 1) rfl) rfl ?_
          refine r_bipush (v := 8) hk (dtX1_insertRow_1 6 (116, .bipush 8, 2) rfl) (by decide) ?_
          refine r_icmp_ge hk 135 hF (dtX1_insertRow_1 7 (118, .if_icmp .ge 17, 3) rfl) (by decide) (fun hF => ?_) (fun hF => ?_)
          · exact r_sub hk [1] rfl (e135_20 m22 hF)
          · refine r_aload_n hk 0 (dtX1_insertRow_1 8 (121, .aload_n 0, 1) rfl) rfl ?_
            refine r_iload_n hk 1 (dtX1_insertRow_1 9 (122, .iload_n 2, 1) rfl) rfl ?_
            refine r_iload_n hk 2 (dtX1_insertRow_1 10 (123, .iload_n 3, 1) rfl) rfl ?_
            refine r_ldc hk cn_X1_39 (dtX1_insertRow_1 11 (124, .ldc 39, 2) rfl) ?_
            refine r_callVm hF (fun w m25 h H locs ls hH hS hl => run_V (y := yX1_setValue) hk (in_st i0 hi0 0 (by decide)) rfl rfl (c_X1_setValue (kl K) hk.2.2.2.2.2.2.2.2.2.2.2 X i0 hi0 v2 v21 (-1000000) m22 w m25 h) lk_X1_44 me_X1_setValue yf_X1_setValue (by decide) (by decide) rfl (Nat.le_of_ble_eq_true rfl) rfl (dtX1_insertRow_1 12 (126, .invokevirtual 44, 3) rfl) hH hS hl) (fun _ m25 hF => ?_)
            refine r_iinc hk 1 2 (fun v26 => [(3, .int v26), (0, .ref (xad X (1, i0, 0, 0))), (2, .int v2)]) hF (dtX1_insertRow_1 13 (129, .iinc 3 1, 3) rfl) rfl (by decide) (by decide) (fun _ => rfl) (fun v26 hF => ?_)
            refine r_goto hk 115 (dtX1_insertRow_1 14 (132, .goto (-17), 3) rfl) (by decide) ?_
            exact r_sub hk [1, 2, 0] rfl (ih24 v26 m25 hF)
      exact r_sub hk [1, 3, 0] rfl (l24 fu 0 m18 hF)
    have l29 : ∀ (n29 : Nat) (v27 : Int32), L_X1_insertRow_13 i0 p1 m0 n29 v27 = some (rv, mE) → G X K 13 [(0, .ref (xad X (1, i0, 0, 0))), (1, .int p1), (2, .int v27)] [] m0 := by
      intro n29
      induction n29 with
      | zero => intro v27 hF; exact nomatch (show (none : Option (Int32 × Mem)) = some (rv, mE) from hF)
      | succ n29 ih29 =>
        intro v27 hF
        rw [L_X1_insertRow_13] at hF
        refine r_iload_n hk 2 (dtX1_insertRow_0 8 (13, .iload_n 2, 1) rfl) rfl ?_
        refine r_aload_n hk 0 (dtX1_insertRow_0 9 (14, .aload_n 0, 1) rfl) rfl ?_
        refine r_getI hk (k := 3) (fsX1 X i0) cbX1 (by decide) fl_X1_29 (in_st i0 hi0 0 (by decide)) (fun _ => rfl) (fun _ _ => rfl) hF (dtX1_insertRow_0 10 (15, .getfield 29, 3) rfl) (fun v30 hF => ?_)
        refine r_icmp_ge hk 45 hF (dtX1_insertRow_0 11 (18, .if_icmp .ge 27, 3) rfl) (by decide) (fun hF => ?_) (fun hF => ?_)
        · exact r_sub hk [0, 1, 2] rfl (e45_3 v27 hF)
        · refine r_aload_n hk 0 (dtX1_insertRow_0 12 (21, .aload_n 0, 1) rfl) rfl ?_
          refine r_aload_n hk 0 (dtX1_insertRow_0 13 (22, .aload_n 0, 1) rfl) rfl ?_
          refine r_getR hk (k := 1) (fsX1 X i0) cbX1 (by decide) fl_X1_17 (in_st i0 hi0 0 (by decide)) (fun _ => rfl) (fun _ _ => rfl) (dtX1_insertRow_0 14 (23, .getfield 17, 3) rfl) ?_
          refine r_iload_n hk 2 (dtX1_insertRow_0 15 (26, .iload_n 2, 1) rfl) rfl ?_
          refine r_iald hk (in_st i0 hi0 2 (by decide)) (fun _ => rfl) hF (dtX1_insertRow_0 16 (27, .iaload, 1) rfl) (fun v31 hF => ?_)
          refine r_callI hF (fun v32 h H locs ls hH hS hl => run_V (y := yX1_tableOf) hk (in_st i0 hi0 0 (by decide)) rfl rfl (c_X1_tableOf (kl K) hk.2.2.2.2.2.2.2.2.2.2.2 X i0 hi0 v31 m0 v32 h) lk_X1_48 me_X1_tableOf yf_X1_tableOf (by decide) (by decide) rfl (Nat.le_of_ble_eq_true rfl) rfl (dtX1_insertRow_0 17 (28, .invokevirtual 48, 3) rfl) hH hS hl) (fun v32 hF => ?_)
          refine r_aload_n hk 0 (dtX1_insertRow_0 18 (31, .aload_n 0, 1) rfl) rfl ?_
          refine r_iload_n hk 1 (dtX1_insertRow_0 19 (32, .iload_n 1, 1) rfl) rfl ?_
          refine r_callI hF (fun v33 h H locs ls hH hS hl => run_V (y := yX1_tableOf) hk (in_st i0 hi0 0 (by decide)) rfl rfl (c_X1_tableOf (kl K) hk.2.2.2.2.2.2.2.2.2.2.2 X i0 hi0 p1 m0 v33 h) lk_X1_48 me_X1_tableOf yf_X1_tableOf (by decide) (by decide) rfl (Nat.le_of_ble_eq_true rfl) rfl (dtX1_insertRow_0 20 (33, .invokevirtual 48, 3) rfl) hH hS hl) (fun v33 hF => ?_)
          refine r_icmp_gt hk 45 hF (dtX1_insertRow_0 21 (36, .if_icmp .gt 9, 3) rfl) (by decide) (fun hF => ?_) (fun hF => ?_)
          · exact r_sub hk [0, 1, 2] rfl (e45_3 v27 hF)
          · refine r_iinc hk 1 2 (fun v34 => [(2, .int v34), (0, .ref (xad X (1, i0, 0, 0))), (1, .int p1)]) hF (dtX1_insertRow_0 22 (39, .iinc 2 1, 3) rfl) rfl (by decide) (by decide) (fun _ => rfl) (fun v34 hF => ?_)
            refine r_goto hk 13 (dtX1_insertRow_0 23 (42, .goto (-29), 3) rfl) (by decide) ?_
            exact r_sub hk [1, 2, 0] rfl (ih29 v34 hF)
    exact r_sub hk [1, 2, 0] rfl (l29 fu 0 hF)
  · refine r_iconst (v := (-1)) hk (dtX1_insertRow_0 4 (9, .iconst (-1), 1) rfl) (by decide) ?_
    cases Option.some.inj hF
    exact hR _ _ (dtX1_insertRow_0 5 (10, .ireturn, 1) rfl)
set_option maxHeartbeats 4000000 in
set_option maxRecDepth 100000 in
theorem c_X3_row (l : Launch) (hlf : l.stackTraces = false) (X : XW)  (p1 : Int32) (m0 : Mem) (rv : Int32 ⊕ Nat) (mE : Mem) (hF : F_X3_row p1 m0 = some (rv, mE)) : MT X l yX3_row cX3_row 3 (some .int) 8 [.ref (xad X (0, 0, 0, 0)), .int p1] m0 rv mE (QTI X rv mE) := by
  refine startTI hlf (by decide +kernel) rfl [(0, .ref (xad X (0, 0, 0, 0))), (1, .int p1)] rfl (Nat.le_of_ble_eq_true rfl) (fun K hk hR hX => ?_)
  unfold F_X3_row at hF
  refine r_iload_n hk 1 (dtX3_row_0 0 (0, .iload_n 1, 1) rfl) rfl ?_
  refine r_callI hF (fun v1 h H locs ls hH hS hl => run_S hk (c_X3_isTenant (kl K) hk.2.2.2.2.2.2.2.2.2.2.2 X  p1 m0 v1 h) lk_X3_34 me_X3_isTenant yf_X3_isTenant (by decide) (by decide) rfl (Nat.le_of_ble_eq_true rfl) rfl (dtX3_row_0 1 (1, .invokestatic 34, 3) rfl) hH hS hl) (fun v1 hF => ?_)
  refine r_callVts hk hF (fun c h => by cases Option.some.inj h; exact hX c rfl) (fun R h hf H locs ls hH hS hl => runT_S hk (c_X3_require (kl K) hk.2.2.2.2.2.2.2.2.2.2.2 X  v1 m0 R h) lk_X3_41 me_X3_require yf_X3_require (by decide) (by decide) rfl (Nat.le_of_ble_eq_true rfl) rfl (dtX3_row_0 2 (4, .invokestatic 41, 3) rfl) hf hH hS hl) (fun _ hF => ?_)
  refine r_aload_n hk 0 (dtX3_row_0 3 (7, .aload_n 0, 1) rfl) rfl ?_
  refine r_callRm (fun q => xad X (1, q, 0, 0)) hF (fun q2 m3 h H locs ls hH hS hl => run_V (y := yX3_save) hk (in_main 0 (by decide)) rfl rfl (c_X3_save (kl K) hk.2.2.2.2.2.2.2.2.2.2.2 X   m0 q2 m3 h) lk_X3_45 me_X3_save yf_X3_save (by decide) (by decide) rfl (Nat.le_of_ble_eq_true rfl) rfl (dtX3_row_0 4 (8, .invokevirtual 45, 3) rfl) hH hS hl) (fun q2 m3 _ hF => ?_)
  obtain ⟨hq2, hF⟩ := bp_some hF
  refine r_pop hk (dtX3_row_0 5 (11, .pop, 1) rfl) rfl ?_
  refine r_aload_n hk 0 (dtX3_row_0 6 (12, .aload_n 0, 1) rfl) rfl ?_
  refine r_getS hk fl_X3_30 hF (dtX3_row_0 7 (13, .getfield 30, 3) rfl) (fun q4 hq4 hF => ?_)
  refine r_getR hk (k := 0) (fsX1 X q4) cbX1 (by decide) fl_X3_49 (in_st q4 hq4 0 (by decide)) (fun _ => rfl) (fun _ _ => rfl) (dtX3_row_0 8 (16, .getfield 49, 3) rfl) ?_
  refine r_iload_n hk 1 (dtX3_row_0 9 (19, .iload_n 1, 1) rfl) rfl ?_
  refine r_aldT hk hq4 hF (dtX3_row_0 10 (20, .aaload, 1) rfl) (fun q5 hq5 hF => ?_)
  refine r_astore_n hk [(2, .ref (xad X (2, q4, q5, 0))), (0, .ref (xad X (0, 0, 0, 0))), (1, .int p1)] (dtX3_row_0 11 (21, .astore_n 2, 1) rfl) (by decide) rfl ?_
  refine r_aload_n hk 1 (dtX3_row_0 12 (22, .aload_n 0, 1) rfl) rfl ?_
  refine r_getS hk fl_X3_30 hF (dtX3_row_0 13 (23, .getfield 30, 3) rfl) (fun q6 hq6 hF => ?_)
  refine r_iload_n hk 2 (dtX3_row_0 14 (26, .iload_n 1, 1) rfl) rfl ?_
  refine r_callI hF (fun v7 h H locs ls hH hS hl => run_V (y := yX1_rowsOf) hk (in_st q6 hq6 0 (by decide)) rfl rfl (c_X1_rowsOf (kl K) hk.2.2.2.2.2.2.2.2.2.2.2 X q6 hq6 p1 m3 v7 h) lk_X3_100 me_X1_rowsOf yf_X1_rowsOf (by decide) (by decide) rfl (Nat.le_of_ble_eq_true rfl) rfl (dtX3_row_0 15 (27, .invokevirtual 100, 3) rfl) hH hS hl) (fun v7 hF => ?_)
  refine r_aload_n hk 0 (dtX3_row_0 16 (30, .aload_n 2, 1) rfl) rfl ?_
  refine r_getI hk (k := 3) (fsX2 X q4 q5) cbX2 (by decide) fl_X3_103 (in_tn q4 hq4 q5 hq5 0 (by decide)) (fun _ => rfl) (fun _ _ => rfl) hF (dtX3_row_0 17 (31, .getfield 103, 3) rfl) (fun v8 hF => ?_)
  refine r_icmp_lt hk 43 hF (dtX3_row_0 18 (34, .if_icmp .lt 9, 3) rfl) (by decide) (fun hF => ?_) (fun hF => ?_)
  · refine r_aload_n hk 0 (dtX3_row_0 23 (43, .aload_n 2, 1) rfl) rfl ?_
    refine r_getI hk (k := 5) (fsX2 X q4 q5) cbX2 (by decide) fl_X3_106 (in_tn q4 hq4 q5 hq5 0 (by decide)) (fun _ => rfl) (fun _ _ => rfl) hF (dtX3_row_0 24 (44, .getfield 106, 3) rfl) (fun v9 hF => ?_)
    have j68_10 : (J_X3_row_68 p1 m3) = some (rv, mE) → G X K 68 [(0, .ref (xad X (0, 0, 0, 0))), (1, .int p1)] [] m3 := by
      intro hF
      unfold J_X3_row_68 at hF
      refine r_aload_n hk 0 (dtX3_row_0 35 (68, .aload_n 0, 1) rfl) rfl ?_
      refine r_getS hk fl_X3_30 hF (dtX3_row_0 36 (69, .getfield 30, 3) rfl) (fun q11 hq11 hF => ?_)
      refine r_iload_n hk 1 (dtX3_row_0 37 (72, .iload_n 1, 1) rfl) rfl ?_
      refine r_callIm hF (fun v12 m13 h H locs ls hH hS hl => run_V (y := yX1_insertRow) hk (in_st q11 hq11 0 (by decide)) rfl rfl (c_X1_insertRow (kl K) hk.2.2.2.2.2.2.2.2.2.2.2 X q11 hq11 p1 m3 v12 m13 h) lk_X3_113 me_X1_insertRow yf_X1_insertRow (by decide) (by decide) rfl (Nat.le_of_ble_eq_true rfl) rfl (dtX3_row_0 38 (73, .invokevirtual 113, 3) rfl) hH hS hl) (fun v12 m13 hF => ?_)
      cases Option.some.inj hF
      exact hR v12 rfl _ _ (dtX3_row_0 39 (76, .ireturn, 1) rfl)
    refine r_if_ne hk 68 hF (dtX3_row_0 25 (47, .ifCond .ne 21, 3) rfl) (by decide) (fun hF => ?_) (fun hF => ?_)
    · exact r_sub hk [1, 2] rfl (j68_10 hF)
    · refine r_aload_n hk 1 (dtX3_row_0 26 (50, .aload_n 0, 1) rfl) rfl ?_
      refine r_getS hk fl_X3_30 hF (dtX3_row_0 27 (51, .getfield 30, 3) rfl) (fun q14 hq14 hF => ?_)
      refine r_callI hF (fun v15 h H locs ls hH hS hl => run_V (y := yX1_tableRows) hk (in_st q14 hq14 0 (by decide)) rfl rfl (c_X1_tableRows (kl K) hk.2.2.2.2.2.2.2.2.2.2.2 X q14 hq14  m3 v15 h) lk_X3_110 me_X1_tableRows yf_X1_tableRows (by decide) (by decide) rfl (Nat.le_of_ble_eq_true rfl) rfl (dtX3_row_0 28 (54, .invokevirtual 110, 3) rfl) hH hS hl) (fun v15 hF => ?_)
      refine r_bipush (v := 40) hk (dtX3_row_0 29 (57, .bipush 40, 2) rfl) (by decide) ?_
      refine r_icmp_lt hk 68 hF (dtX3_row_0 30 (59, .if_icmp .lt 9, 3) rfl) (by decide) (fun hF => ?_) (fun hF => ?_)
      · exact r_sub hk [1, 2] rfl (j68_10 hF)
      · refine r_aload_n hk 0 (dtX3_row_0 31 (62, .aload_n 2, 1) rfl) rfl ?_
        refine r_iconst (v := 2) hk (dtX3_row_0 32 (63, .iconst 2, 1) rfl) (by decide) ?_
        refine r_callIm hF (fun v16 m17 h H locs ls hH hS hl => run_V (y := yX2_refuse) hk (in_tn q4 hq4 q5 hq5 0 (by decide)) rfl rfl (c_X2_refuse (kl K) hk.2.2.2.2.2.2.2.2.2.2.2 X q4 hq4 q5 hq5 2 m3 v16 m17 h) lk_X3_63 me_X2_refuse yf_X2_refuse (by decide) (by decide) rfl (Nat.le_of_ble_eq_true rfl) rfl (dtX3_row_0 33 (64, .invokevirtual 63, 3) rfl) hH hS hl) (fun v16 m17 hF => ?_)
        cases Option.some.inj hF
        exact hR v16 rfl _ _ (dtX3_row_0 34 (67, .ireturn, 1) rfl)
  · refine r_aload_n hk 0 (dtX3_row_0 19 (37, .aload_n 2, 1) rfl) rfl ?_
    refine r_iconst (v := 1) hk (dtX3_row_0 20 (38, .iconst 1, 1) rfl) (by decide) ?_
    refine r_callIm hF (fun v18 m19 h H locs ls hH hS hl => run_V (y := yX2_refuse) hk (in_tn q4 hq4 q5 hq5 0 (by decide)) rfl rfl (c_X2_refuse (kl K) hk.2.2.2.2.2.2.2.2.2.2.2 X q4 hq4 q5 hq5 1 m3 v18 m19 h) lk_X3_63 me_X2_refuse yf_X2_refuse (by decide) (by decide) rfl (Nat.le_of_ble_eq_true rfl) rfl (dtX3_row_0 21 (39, .invokevirtual 63, 3) rfl) hH hS hl) (fun v18 m19 hF => ?_)
    cases Option.some.inj hF
    exact hR v18 rfl _ _ (dtX3_row_0 22 (42, .ireturn, 1) rfl)
set_option maxHeartbeats 4000000 in
set_option maxRecDepth 100000 in
theorem c_X3_fits (l : Launch) (hlf : l.stackTraces = false) (X : XW)  (p1 : Int32) (p2 : Int32) (m0 : Mem) (rv : Int32) (hF : F_X3_fits p1 p2 m0 = some rv) : MX X l yX3_fits cX3_fits 2 (some .boolean) 0 [.int p1, .int p2] m0 (QI X rv m0) := by
  refine startZ hlf (by decide +kernel) rfl [(0, .int p1), (1, .int p2)] rfl (Nat.le_of_ble_eq_true rfl) (fun K hk hR => ?_)
  unfold F_X3_fits at hF
  refine r_iload_n hk 0 (dtX3_fits_0 0 (0, .iload_n 0, 1) rfl) rfl ?_
  by_cases hs1_0 : p1 = 0
  · rw [if_pos hs1_0] at hF
    refine r_lookup (off := 27) hk 28 (dtX3_fits_0 1 (1, .lookupswitch 62 #[(0, 27), (1, 47)], 27) rfl) (by decide) (lk_eq hs1_0 (by decide)) (by decide) ?_
    refine r_iload_n hk 1 (dtX3_fits_0 2 (28, .iload_n 1, 1) rfl) rfl ?_
    refine r_sipush (v := (-999)) hk (dtX3_fits_0 3 (29, .sipush (-999), 3) rfl) (by decide) ?_
    have j47_2 : ∀ (v1 : Int32), J_X3_fits_47 v1 = some rv → G X K 47 [] [.int v1] m0 := by
      intro v1 hF
      unfold J_X3_fits_47 at hF
      obtain ⟨hz, hF⟩ := ck_some hF
      cases Option.some.inj hF
      exact hR _ _ hz (dtX3_fits_0 11 (47, .ireturn, 1) rfl)
    have j46_3 : J_X3_fits_46 = some rv → G X K 46 [] [] m0 := by
      intro hF
      unfold J_X3_fits_46 at hF
      refine r_iconst (v := 0) hk (dtX3_fits_0 10 (46, .iconst 0, 1) rfl) (by decide) ?_
      exact r_sub hk [] rfl (j47_2 0 hF)
    refine r_icmp_lt hk 46 hF (dtX3_fits_0 4 (32, .if_icmp .lt 14, 3) rfl) (by decide) (fun hF => ?_) (fun hF => ?_)
    · exact r_sub hk [] rfl (j46_3 hF)
    · refine r_iload_n hk 1 (dtX3_fits_0 5 (35, .iload_n 1, 1) rfl) rfl ?_
      refine r_sipush (v := 999) hk (dtX3_fits_0 6 (36, .sipush 999, 3) rfl) (by decide) ?_
      refine r_icmp_gt hk 46 hF (dtX3_fits_0 7 (39, .if_icmp .gt 7, 3) rfl) (by decide) (fun hF => ?_) (fun hF => ?_)
      · exact r_sub hk [] rfl (j46_3 hF)
      · refine r_iconst (v := 1) hk (dtX3_fits_0 8 (42, .iconst 1, 1) rfl) (by decide) ?_
        refine r_goto hk 47 (dtX3_fits_0 9 (43, .goto 4, 3) rfl) (by decide) ?_
        exact r_sub hk [] rfl (j47_2 1 hF)
  · rw [if_neg hs1_0] at hF
    by_cases hs1_1 : p1 = 1
    · rw [if_pos hs1_1] at hF
      refine r_lookup (off := 47) hk 48 (dtX3_fits_0 1 (1, .lookupswitch 62 #[(0, 27), (1, 47)], 27) rfl) (by decide) (lk_eq hs1_1 (by decide)) (by decide) ?_
      refine r_iload_n hk 1 (dtX3_fits_0 12 (48, .iload_n 1, 1) rfl) rfl ?_
      have j62_5 : ∀ (v4 : Int32), J_X3_fits_62 v4 = some rv → G X K 62 [] [.int v4] m0 := by
        intro v4 hF
        unfold J_X3_fits_62 at hF
        obtain ⟨hz, hF⟩ := ck_some hF
        cases Option.some.inj hF
        exact hR _ _ hz (dtX3_fits_0 20 (62, .ireturn, 1) rfl)
      have j57_6 : J_X3_fits_57 = some rv → G X K 57 [] [] m0 := by
        intro hF
        unfold J_X3_fits_57 at hF
        refine r_iconst (v := 1) hk (dtX3_fits_0 17 (57, .iconst 1, 1) rfl) (by decide) ?_
        refine r_goto hk 62 (dtX3_fits_0 18 (58, .goto 4, 3) rfl) (by decide) ?_
        exact r_sub hk [] rfl (j62_5 1 hF)
      refine r_if_eq hk 57 hF (dtX3_fits_0 13 (49, .ifCond .eq 8, 3) rfl) (by decide) (fun hF => ?_) (fun hF => ?_)
      · exact r_sub hk [] rfl (j57_6 hF)
      · refine r_iload_n hk 1 (dtX3_fits_0 14 (52, .iload_n 1, 1) rfl) rfl ?_
        refine r_iconst (v := 1) hk (dtX3_fits_0 15 (53, .iconst 1, 1) rfl) (by decide) ?_
        refine r_icmp_ne hk 61 hF (dtX3_fits_0 16 (54, .if_icmp .ne 7, 3) rfl) (by decide) (fun hF => ?_) (fun hF => ?_)
        · refine r_iconst (v := 0) hk (dtX3_fits_0 19 (61, .iconst 0, 1) rfl) (by decide) ?_
          exact r_sub hk [] rfl (j62_5 0 hF)
        · exact r_sub hk [] rfl (j57_6 hF)
    · rw [if_neg hs1_1] at hF
      refine r_lookup (off := 62) hk 63 (dtX3_fits_0 1 (1, .lookupswitch 62 #[(0, 27), (1, 47)], 27) rfl) (by decide) ((lv_osw hs1_0 (by decide)).trans ((lv_osw hs1_1 (by decide)).trans rfl)) (by decide) ?_
      refine r_iload_n hk 1 (dtX3_fits_0 21 (63, .iload_n 1, 1) rfl) rfl ?_
      have j79_8 : ∀ (v7 : Int32), J_X3_fits_79 v7 = some rv → G X K 79 [] [.int v7] m0 := by
        intro v7 hF
        unfold J_X3_fits_79 at hF
        obtain ⟨hz, hF⟩ := ck_some hF
        cases Option.some.inj hF
        exact hR _ _ hz (dtX3_fits_0 29 (79, .ireturn, 1) rfl)
      have j78_9 : J_X3_fits_78 = some rv → G X K 78 [] [] m0 := by
        intro hF
        unfold J_X3_fits_78 at hF
        refine r_iconst (v := 0) hk (dtX3_fits_0 28 (78, .iconst 0, 1) rfl) (by decide) ?_
        exact r_sub hk [] rfl (j79_8 0 hF)
      refine r_if_lt hk 78 hF (dtX3_fits_0 22 (64, .ifCond .lt 14, 3) rfl) (by decide) (fun hF => ?_) (fun hF => ?_)
      · exact r_sub hk [] rfl (j78_9 hF)
      · refine r_iload_n hk 1 (dtX3_fits_0 23 (67, .iload_n 1, 1) rfl) rfl ?_
        refine r_sipush (v := 3650) hk (dtX3_fits_0 24 (68, .sipush 3650, 3) rfl) (by decide) ?_
        refine r_icmp_gt hk 78 hF (dtX3_fits_0 25 (71, .if_icmp .gt 7, 3) rfl) (by decide) (fun hF => ?_) (fun hF => ?_)
        · exact r_sub hk [] rfl (j78_9 hF)
        · refine r_iconst (v := 1) hk (dtX3_fits_0 26 (74, .iconst 1, 1) rfl) (by decide) ?_
          refine r_goto hk 79 (dtX3_fits_0 27 (75, .goto 4, 3) rfl) (by decide) ?_
          exact r_sub hk [] rfl (j79_8 1 hF)
set_option maxHeartbeats 4000000 in
set_option maxRecDepth 100000 in
theorem c_X3_put (l : Launch) (hlf : l.stackTraces = false) (X : XW)  (p1 : Int32) (p2 : Int32) (p3 : Int32) (m0 : Mem) (rv : Int32 ⊕ Nat) (mE : Mem) (hF : F_X3_put p1 p2 p3 m0 = some (rv, mE)) : MT X l yX3_put cX3_put 7 (some .int) 8 [.ref (xad X (0, 0, 0, 0)), .int p1, .int p2, .int p3] m0 rv mE (QTI X rv mE) := by
  refine startTI hlf (by decide +kernel) rfl [(0, .ref (xad X (0, 0, 0, 0))), (1, .int p1), (2, .int p2), (3, .int p3)] rfl (Nat.le_of_ble_eq_true rfl) (fun K hk hR hX => ?_)
  unfold F_X3_put at hF
  refine r_aload_n hk 0 (dtX3_put_0 0 (0, .aload_n 0, 1) rfl) rfl ?_
  refine r_iload_n hk 1 (dtX3_put_0 1 (1, .iload_n 1, 1) rfl) rfl ?_
  refine r_callVts hk hF (fun c h => by cases Option.some.inj h; exact hX c rfl) (fun R h hf H locs ls hH hS hl => runT_V (y := yX3_requireRow) hk (in_main 0 (by decide)) rfl rfl (c_X3_requireRow (kl K) hk.2.2.2.2.2.2.2.2.2.2.2 X  p1 m0 R h) lk_X3_116 me_X3_requireRow yf_X3_requireRow (by decide) (by decide) rfl (Nat.le_of_ble_eq_true rfl) rfl (dtX3_put_0 2 (2, .invokevirtual 116, 3) rfl) hf hH hS hl) (fun _ hF => ?_)
  refine r_iload_n hk 2 (dtX3_put_0 3 (5, .iload_n 2, 1) rfl) rfl ?_
  refine r_callI hF (fun v1 h H locs ls hH hS hl => run_S hk (c_X3_isLetter (kl K) hk.2.2.2.2.2.2.2.2.2.2.2 X  p2 m0 v1 h) lk_X3_38 me_X3_isLetter yf_X3_isLetter (by decide) (by decide) rfl (Nat.le_of_ble_eq_true rfl) rfl (dtX3_put_0 4 (6, .invokestatic 38, 3) rfl) hH hS hl) (fun v1 hF => ?_)
  have j31_3 : ∀ (v2 : Int32), (J_X3_put_31 p1 p2 p3 m0) v2 = some (rv, mE) → G X K 31 [(0, .ref (xad X (0, 0, 0, 0))), (1, .int p1), (2, .int p2), (3, .int p3)] [.int v2] m0 := by
    intro v2 hF
    unfold J_X3_put_31 at hF
    refine r_callVts hk hF (fun c h => by cases Option.some.inj h; exact hX c rfl) (fun R h hf H locs ls hH hS hl => runT_S hk (c_X3_require (kl K) hk.2.2.2.2.2.2.2.2.2.2.2 X  v2 m0 R h) lk_X3_41 me_X3_require yf_X3_require (by decide) (by decide) rfl (Nat.le_of_ble_eq_true rfl) rfl (dtX3_put_0 15 (31, .invokestatic 41, 3) rfl) hf hH hS hl) (fun _ hF => ?_)
    refine r_aload_n hk 0 (dtX3_put_0 16 (34, .aload_n 0, 1) rfl) rfl ?_
    refine r_callRm (fun q => xad X (1, q, 0, 0)) hF (fun q4 m5 h H locs ls hH hS hl => run_V (y := yX3_save) hk (in_main 0 (by decide)) rfl rfl (c_X3_save (kl K) hk.2.2.2.2.2.2.2.2.2.2.2 X   m0 q4 m5 h) lk_X3_45 me_X3_save yf_X3_save (by decide) (by decide) rfl (Nat.le_of_ble_eq_true rfl) rfl (dtX3_put_0 17 (35, .invokevirtual 45, 3) rfl) hH hS hl) (fun q4 m5 _ hF => ?_)
    obtain ⟨hq4, hF⟩ := bp_some hF
    refine r_pop hk (dtX3_put_0 18 (38, .pop, 1) rfl) rfl ?_
    refine r_aload_n hk 0 (dtX3_put_0 19 (39, .aload_n 0, 1) rfl) rfl ?_
    refine r_getS hk fl_X3_30 hF (dtX3_put_0 20 (40, .getfield 30, 3) rfl) (fun q6 hq6 hF => ?_)
    refine r_iload_n hk 1 (dtX3_put_0 21 (43, .iload_n 1, 1) rfl) rfl ?_
    refine r_callR (fun q => xad X (2, q6, q, 0)) hF (fun q7 h H locs ls hH hS hl => run_V (y := yX1_ownerOf) hk (in_st q6 hq6 0 (by decide)) rfl rfl (c_X1_ownerOf (kl K) hk.2.2.2.2.2.2.2.2.2.2.2 X q6 hq6 p1 m5 q7 h) lk_X3_119 me_X1_ownerOf yf_X1_ownerOf (by decide) (by decide) rfl (Nat.le_of_ble_eq_true rfl) rfl (dtX3_put_0 22 (44, .invokevirtual 119, 3) rfl) hH hS hl) (fun q7 _ hF => ?_)
    obtain ⟨hq7, hF⟩ := bp_some hF
    refine r_astore hk [(4, .ref (xad X (2, q6, q7, 0))), (0, .ref (xad X (0, 0, 0, 0))), (1, .int p1), (2, .int p2), (3, .int p3)] (dtX3_put_0 23 (47, .astore 4, 2) rfl) (by decide) rfl ?_
    refine r_aload hk 0 (dtX3_put_0 24 (49, .aload 4, 2) rfl) rfl ?_
    refine r_iload_n hk 3 (dtX3_put_0 25 (51, .iload_n 2, 1) rfl) rfl ?_
    refine r_callI hF (fun v8 h H locs ls hH hS hl => run_V (y := yX2_columnOf) hk (in_tn q6 hq6 q7 hq7 0 (by decide)) rfl rfl (c_X2_columnOf (kl K) hk.2.2.2.2.2.2.2.2.2.2.2 X q6 hq6 q7 hq7 p2 m5 v8 h) lk_X3_67 me_X2_columnOf yf_X2_columnOf (by decide) (by decide) rfl (Nat.le_of_ble_eq_true rfl) rfl (dtX3_put_0 26 (52, .invokevirtual 67, 3) rfl) hH hS hl) (fun v8 hF => ?_)
    refine r_istore hk [(5, .int v8), (4, .ref (xad X (2, q6, q7, 0))), (0, .ref (xad X (0, 0, 0, 0))), (1, .int p1), (2, .int p2), (3, .int p3)] (dtX3_put_0 27 (55, .istore 5, 2) rfl) (by decide) rfl ?_
    refine r_iload hk 0 (dtX3_put_0 28 (57, .iload 5, 2) rfl) rfl ?_
    refine r_iconst (v := (-1)) hk (dtX3_put_0 29 (59, .iconst (-1), 1) rfl) (by decide) ?_
    refine r_icmp_ne hk 70 hF (dtX3_put_0 30 (60, .if_icmp .ne 10, 3) rfl) (by decide) (fun hF => ?_) (fun hF => ?_)
    · refine r_aload hk 1 (dtX3_put_0 35 (70, .aload 4, 2) rfl) rfl ?_
      refine r_getR hk (k := 1) (fsX2 X q6 q7) cbX2 (by decide) fl_X3_89 (in_tn q6 hq6 q7 hq7 0 (by decide)) (fun _ => rfl) (fun _ _ => rfl) (dtX3_put_0 36 (72, .getfield 89, 3) rfl) ?_
      refine r_iload hk 0 (dtX3_put_0 37 (75, .iload 5, 2) rfl) rfl ?_
      refine r_iald hk (in_tn q6 hq6 q7 hq7 2 (by decide)) (fun _ => rfl) hF (dtX3_put_0 38 (77, .iaload, 1) rfl) (fun v9 hF => ?_)
      refine r_iload_n hk 5 (dtX3_put_0 39 (78, .iload_n 3, 1) rfl) rfl ?_
      refine r_callI hF (fun v10 h H locs ls hH hS hl => run_S hk (c_X3_fits (kl K) hk.2.2.2.2.2.2.2.2.2.2.2 X  v9 p3 m5 v10 h) lk_X3_123 me_X3_fits yf_X3_fits (by decide) (by decide) rfl (Nat.le_of_ble_eq_true rfl) rfl (dtX3_put_0 40 (79, .invokestatic 123, 3) rfl) hH hS hl) (fun v10 hF => ?_)
      refine r_if_ne hk 93 hF (dtX3_put_0 41 (82, .ifCond .ne 11, 3) rfl) (by decide) (fun hF => ?_) (fun hF => ?_)
      · refine r_aload_n hk 2 (dtX3_put_0 46 (93, .aload_n 0, 1) rfl) rfl ?_
        refine r_getS hk fl_X3_30 hF (dtX3_put_0 47 (94, .getfield 30, 3) rfl) (fun q11 hq11 hF => ?_)
        refine r_iload_n hk 3 (dtX3_put_0 48 (97, .iload_n 1, 1) rfl) rfl ?_
        refine r_iload hk 0 (dtX3_put_0 49 (98, .iload 5, 2) rfl) rfl ?_
        refine r_callI hF (fun v12 h H locs ls hH hS hl => run_V (y := yX1_valueAt) hk (in_st q11 hq11 0 (by decide)) rfl rfl (c_X1_valueAt (kl K) hk.2.2.2.2.2.2.2.2.2.2.2 X q11 hq11 p1 v8 m5 v12 h) lk_X3_127 me_X1_valueAt yf_X1_valueAt (by decide) (by decide) rfl (Nat.le_of_ble_eq_true rfl) rfl (dtX3_put_0 50 (100, .invokevirtual 127, 3) rfl) hH hS hl) (fun v12 hF => ?_)
        refine r_ldc hk cn_X3_130 (dtX3_put_0 51 (103, .ldc 130, 2) rfl) ?_
        have j113_14 : ∀ (v13 : Int32), (J_X3_put_113 p1 p3 m5 v8) v13 = some (rv, mE) → G X K 113 [(0, .ref (xad X (0, 0, 0, 0))), (1, .int p1), (3, .int p3), (5, .int v8)] [.int v13] m5 := by
          intro v13 hF
          unfold J_X3_put_113 at hF
          refine r_istore hk [(6, .int v13), (0, .ref (xad X (0, 0, 0, 0))), (1, .int p1), (3, .int p3), (5, .int v8)] (dtX3_put_0 56 (113, .istore 6, 2) rfl) (by decide) rfl ?_
          refine r_aload_n hk 1 (dtX3_put_0 57 (115, .aload_n 0, 1) rfl) rfl ?_
          refine r_getS hk fl_X3_30 hF (dtX3_put_0 58 (116, .getfield 30, 3) rfl) (fun q15 hq15 hF => ?_)
          refine r_iload_n hk 2 (dtX3_put_0 59 (119, .iload_n 1, 1) rfl) rfl ?_
          refine r_iload hk 4 (dtX3_put_0 60 (120, .iload 5, 2) rfl) rfl ?_
          refine r_iload_n hk 3 (dtX3_put_0 61 (122, .iload_n 3, 1) rfl) rfl ?_
          refine r_callVm hF (fun w m16 h H locs ls hH hS hl => run_V (y := yX1_setValue) hk (in_st q15 hq15 0 (by decide)) rfl rfl (c_X1_setValue (kl K) hk.2.2.2.2.2.2.2.2.2.2.2 X q15 hq15 p1 v8 p3 m5 w m16 h) lk_X3_131 me_X1_setValue yf_X1_setValue (by decide) (by decide) rfl (Nat.le_of_ble_eq_true rfl) rfl (dtX3_put_0 62 (123, .invokevirtual 131, 3) rfl) hH hS hl) (fun _ m16 hF => ?_)
          refine r_iload hk 0 (dtX3_put_0 63 (126, .iload 6, 2) rfl) rfl ?_
          refine r_callI hF (fun v17 h H locs ls hH hS hl => run_S hk (c_X3_asNumber (kl K) hk.2.2.2.2.2.2.2.2.2.2.2 X  v13 m16 v17 h) lk_X3_96 me_X3_asNumber yf_X3_asNumber (by decide) (by decide) rfl (Nat.le_of_ble_eq_true rfl) rfl (dtX3_put_1 0 (128, .invokestatic 96, 3) rfl) hH hS hl) (fun v17 hF => ?_)
          cases Option.some.inj hF
          exact hR v17 rfl _ _ (dtX3_put_1 1 (131, .ireturn, 1) rfl)
        refine r_icmp_eq hk 112 hF (dtX3_put_0 52 (105, .if_icmp .eq 7, 3) rfl) (by decide) (fun hF => ?_) (fun hF => ?_)
        · refine r_iconst (v := 0) hk (dtX3_put_0 55 (112, .iconst 0, 1) rfl) (by decide) ?_
          exact r_sub hk [2, 3, 5, 0] rfl (j113_14 0 hF)
        · refine r_iconst (v := 1) hk (dtX3_put_0 53 (108, .iconst 1, 1) rfl) (by decide) ?_
          refine r_goto hk 113 (dtX3_put_0 54 (109, .goto 4, 3) rfl) (by decide) ?_
          exact r_sub hk [2, 3, 5, 0] rfl (j113_14 1 hF)
      · refine r_aload hk 1 (dtX3_put_0 42 (85, .aload 4, 2) rfl) rfl ?_
        refine r_bipush (v := 6) hk (dtX3_put_0 43 (87, .bipush 6, 2) rfl) (by decide) ?_
        refine r_callIm hF (fun v18 m19 h H locs ls hH hS hl => run_V (y := yX2_refuse) hk (in_tn q6 hq6 q7 hq7 0 (by decide)) rfl rfl (c_X2_refuse (kl K) hk.2.2.2.2.2.2.2.2.2.2.2 X q6 hq6 q7 hq7 6 m5 v18 m19 h) lk_X3_63 me_X2_refuse yf_X2_refuse (by decide) (by decide) rfl (Nat.le_of_ble_eq_true rfl) rfl (dtX3_put_0 44 (89, .invokevirtual 63, 3) rfl) hH hS hl) (fun v18 m19 hF => ?_)
        cases Option.some.inj hF
        exact hR v18 rfl _ _ (dtX3_put_0 45 (92, .ireturn, 1) rfl)
    · refine r_aload hk 1 (dtX3_put_0 31 (63, .aload 4, 2) rfl) rfl ?_
      refine r_iconst (v := 5) hk (dtX3_put_0 32 (65, .iconst 5, 1) rfl) (by decide) ?_
      refine r_callIm hF (fun v20 m21 h H locs ls hH hS hl => run_V (y := yX2_refuse) hk (in_tn q6 hq6 q7 hq7 0 (by decide)) rfl rfl (c_X2_refuse (kl K) hk.2.2.2.2.2.2.2.2.2.2.2 X q6 hq6 q7 hq7 5 m5 v20 m21 h) lk_X3_63 me_X2_refuse yf_X2_refuse (by decide) (by decide) rfl (Nat.le_of_ble_eq_true rfl) rfl (dtX3_put_0 33 (66, .invokevirtual 63, 3) rfl) hH hS hl) (fun v20 m21 hF => ?_)
      cases Option.some.inj hF
      exact hR v20 rfl _ _ (dtX3_put_0 34 (69, .ireturn, 1) rfl)
  have j30_22 : (J_X3_put_30 p1 p2 p3 m0) = some (rv, mE) → G X K 30 [(0, .ref (xad X (0, 0, 0, 0))), (1, .int p1), (2, .int p2), (3, .int p3)] [] m0 := by
    intro hF
    unfold J_X3_put_30 at hF
    refine r_iconst (v := 0) hk (dtX3_put_0 14 (30, .iconst 0, 1) rfl) (by decide) ?_
    exact r_sub hk [0, 1, 2, 3] rfl (j31_3 0 hF)
  refine r_if_eq hk 30 hF (dtX3_put_0 5 (9, .ifCond .eq 21, 3) rfl) (by decide) (fun hF => ?_) (fun hF => ?_)
  · exact r_sub hk [0, 1, 2, 3] rfl (j30_22 hF)
  · refine r_iload_n hk 3 (dtX3_put_0 6 (12, .iload_n 3, 1) rfl) rfl ?_
    refine r_sipush (v := (-9999)) hk (dtX3_put_0 7 (13, .sipush (-9999), 3) rfl) (by decide) ?_
    refine r_icmp_lt hk 30 hF (dtX3_put_0 8 (16, .if_icmp .lt 14, 3) rfl) (by decide) (fun hF => ?_) (fun hF => ?_)
    · exact r_sub hk [0, 1, 2, 3] rfl (j30_22 hF)
    · refine r_iload_n hk 3 (dtX3_put_0 9 (19, .iload_n 3, 1) rfl) rfl ?_
      refine r_sipush (v := 9999) hk (dtX3_put_0 10 (20, .sipush 9999, 3) rfl) (by decide) ?_
      refine r_icmp_gt hk 30 hF (dtX3_put_0 11 (23, .if_icmp .gt 7, 3) rfl) (by decide) (fun hF => ?_) (fun hF => ?_)
      · exact r_sub hk [0, 1, 2, 3] rfl (j30_22 hF)
      · refine r_iconst (v := 1) hk (dtX3_put_0 12 (26, .iconst 1, 1) rfl) (by decide) ?_
        refine r_goto hk 31 (dtX3_put_0 13 (27, .goto 4, 3) rfl) (by decide) ?_
        exact r_sub hk [0, 1, 2, 3] rfl (j31_3 1 hF)
set_option maxHeartbeats 4000000 in
set_option maxRecDepth 100000 in
theorem c_X1_copyRow (l : Launch) (hlf : l.stackTraces = false) (X : XW) (i0 : Nat) (hi0 : i0 < 7) (i1 : Nat) (hi1 : i1 < 7) (p2 : Int32) (p3 : Int32) (m0 : Mem) (rv : Unit) (mE : Mem) (hF : F_X1_copyRow i0 i1 p2 p3 m0 = some (rv, mE)) : MX X l yX1_copyRow cX1_copyRow 4 none 2 [.ref (xad X (1, i0, 0, 0)), .ref (xad X (1, i1, 0, 0)), .int p2, .int p3] m0 (QV X mE) := by
  refine startV hlf (by decide +kernel) rfl [(0, .ref (xad X (1, i0, 0, 0))), (1, .ref (xad X (1, i1, 0, 0))), (2, .int p2), (3, .int p3)] rfl (Nat.le_of_ble_eq_true rfl) (fun K hk hR => ?_)
  unfold F_X1_copyRow at hF
  refine r_aload_n hk 0 (dtX1_copyRow_0 0 (0, .aload_n 0, 1) rfl) rfl ?_
  refine r_getR hk (k := 1) (fsX1 X i0) cbX1 (by decide) fl_X1_17 (in_st i0 hi0 0 (by decide)) (fun _ => rfl) (fun _ _ => rfl) (dtX1_copyRow_0 1 (1, .getfield 17, 3) rfl) ?_
  refine r_iload_n hk 3 (dtX1_copyRow_0 2 (4, .iload_n 3, 1) rfl) rfl ?_
  refine r_aload_n hk 1 (dtX1_copyRow_0 3 (5, .aload_n 1, 1) rfl) rfl ?_
  refine r_getR hk (k := 1) (fsX1 X i1) cbX1 (by decide) fl_X1_17 (in_st i1 hi1 0 (by decide)) (fun _ => rfl) (fun _ _ => rfl) (dtX1_copyRow_0 4 (6, .getfield 17, 3) rfl) ?_
  refine r_iload_n hk 2 (dtX1_copyRow_0 5 (9, .iload_n 2, 1) rfl) rfl ?_
  refine r_iald hk (in_st i1 hi1 2 (by decide)) (fun _ => rfl) hF (dtX1_copyRow_0 6 (10, .iaload, 1) rfl) (fun v1 hF => ?_)
  refine r_iast hk (in_st i0 hi0 2 (by decide)) (fun _ => rfl) hF (dtX1_copyRow_0 7 (11, .iastore, 1) rfl) (fun m2 hF => ?_)
  refine r_aload_n hk 1 (dtX1_copyRow_0 8 (12, .aload_n 1, 1) rfl) rfl ?_
  refine r_getR hk (k := 2) (fsX1 X i1) cbX1 (by decide) fl_X1_21 (in_st i1 hi1 0 (by decide)) (fun _ => rfl) (fun _ _ => rfl) (dtX1_copyRow_0 9 (13, .getfield 21, 3) rfl) ?_
  refine r_iload_n hk 2 (dtX1_copyRow_0 10 (16, .iload_n 2, 1) rfl) rfl ?_
  refine r_bipush (v := 8) hk (dtX1_copyRow_0 11 (17, .bipush 8, 2) rfl) (by decide) ?_
  refine r_imul hk hF (dtX1_copyRow_0 12 (19, .imul, 1) rfl) (fun v3 hF => ?_)
  refine r_aload_n hk 0 (dtX1_copyRow_0 13 (20, .aload_n 0, 1) rfl) rfl ?_
  refine r_getR hk (k := 2) (fsX1 X i0) cbX1 (by decide) fl_X1_21 (in_st i0 hi0 0 (by decide)) (fun _ => rfl) (fun _ _ => rfl) (dtX1_copyRow_0 14 (21, .getfield 21, 3) rfl) ?_
  refine r_iload_n hk 3 (dtX1_copyRow_0 15 (24, .iload_n 3, 1) rfl) rfl ?_
  refine r_bipush (v := 8) hk (dtX1_copyRow_0 16 (25, .bipush 8, 2) rfl) (by decide) ?_
  refine r_imul hk hF (dtX1_copyRow_0 17 (27, .imul, 1) rfl) (fun v4 hF => ?_)
  refine r_bipush (v := 8) hk (dtX1_copyRow_0 18 (28, .bipush 8, 2) rfl) (by decide) ?_
  refine r_copyi hk (in_st i1 hi1 3 (by decide)) (fun _ => rfl) (in_st i0 hi0 3 (by decide)) (fun _ => rfl) lk_X1_33 hF (by decide) (Nat.le_of_ble_eq_true rfl) (dtX1_copyRow_0 19 (30, .invokestatic 33, 3) rfl) (fun m5 hF => ?_)
  cases Option.some.inj hF
  exact hR _ _ (dtX1_copyRow_0 20 (33, .return_, 1) rfl)
set_option maxHeartbeats 4000000 in
set_option maxRecDepth 100000 in
theorem c_X1_removeRows (l : Launch) (hlf : l.stackTraces = false) (X : XW) (i0 : Nat) (hi0 : i0 < 7) (p2 : Int32) (m0 : Mem) (rv : Unit) (mE : Mem) (hF : F_X1_removeRows i0 p2 m0 = some (rv, mE)) : MX X l yX1_removeRows cX1_removeRows 6 none 3 [.ref (xad X (1, i0, 0, 0)), .ref (xad X (0, 0, 0, 4)), .int p2] m0 (QV X mE) := by
  refine startV hlf (by decide +kernel) rfl [(0, .ref (xad X (1, i0, 0, 0))), (1, .ref (xad X (0, 0, 0, 4))), (2, .int p2)] rfl (Nat.le_of_ble_eq_true rfl) (fun K hk hR => ?_)
  unfold F_X1_removeRows at hF
  refine r_iconst (v := 0) hk (dtX1_removeRows_0 0 (0, .iconst 0, 1) rfl) (by decide) ?_
  refine r_istore_n hk [(3, .int 0), (0, .ref (xad X (1, i0, 0, 0))), (1, .ref (xad X (0, 0, 0, 4))), (2, .int p2)] (dtX1_removeRows_0 1 (1, .istore_n 3, 1) rfl) (by decide) rfl ?_
  refine r_iconst (v := 0) hk (dtX1_removeRows_0 2 (2, .iconst 0, 1) rfl) (by decide) ?_
  refine r_istore hk [(4, .int 0), (3, .int 0), (0, .ref (xad X (1, i0, 0, 0))), (1, .ref (xad X (0, 0, 0, 4))), (2, .int p2)] (dtX1_removeRows_0 3 (3, .istore 4, 2) rfl) (by decide) rfl ?_
  refine r_iconst (v := 0) hk (dtX1_removeRows_0 4 (5, .iconst 0, 1) rfl) (by decide) ?_
  refine r_istore hk [(5, .int 0), (4, .int 0), (3, .int 0), (0, .ref (xad X (1, i0, 0, 0))), (1, .ref (xad X (0, 0, 0, 4))), (2, .int p2)] (dtX1_removeRows_0 5 (6, .istore 5, 2) rfl) (by decide) rfl ?_
  have e62_3 : ∀ (v1 : Int32) (m2 : Mem), (C_X1_removeRows_62 i0) v1 m2 = some (rv, mE) → G X K 62 [(0, .ref (xad X (1, i0, 0, 0))), (3, .int v1)] [] m2 := by
    intro v1 m2 hF
    unfold C_X1_removeRows_62 at hF
    refine r_aload_n hk 0 (dtX1_removeRows_0 32 (62, .aload_n 0, 1) rfl) rfl ?_
    refine r_iload_n hk 1 (dtX1_removeRows_0 33 (63, .iload_n 3, 1) rfl) rfl ?_
    refine r_putI hk (k := 3) (fsX1 X i0) cbX1 (by decide) fl_X1_29 (in_st i0 hi0 0 (by decide)) (fun _ => rfl) rfl rfl (fun _ _ _ => rfl) (fun _ _ => (by decide : 3 < 4)) hF (dtX1_removeRows_0 34 (64, .putfield 29, 3) rfl) (fun m4 hF => ?_)
    cases Option.some.inj hF
    exact hR _ _ (dtX1_removeRows_0 35 (67, .return_, 1) rfl)
  have l10 : ∀ (n10 : Nat) (v5 : Int32) (v6 : Int32) (v7 : Int32) (m8 : Mem), L_X1_removeRows_8 i0 p2 n10 v5 v6 v7 m8 = some (rv, mE) → G X K 8 [(0, .ref (xad X (1, i0, 0, 0))), (1, .ref (xad X (0, 0, 0, 4))), (2, .int p2), (3, .int v5), (4, .int v6), (5, .int v7)] [] m8 := by
    intro n10
    induction n10 with
    | zero => intro v5 v6 v7 m8 hF; exact nomatch (show (none : Option (Unit × Mem)) = some (rv, mE) from hF)
    | succ n10 ih10 =>
      intro v5 v6 v7 m8 hF
      rw [L_X1_removeRows_8] at hF
      refine r_iload hk 5 (dtX1_removeRows_0 6 (8, .iload 5, 2) rfl) rfl ?_
      refine r_aload_n hk 0 (dtX1_removeRows_0 7 (10, .aload_n 0, 1) rfl) rfl ?_
      refine r_getI hk (k := 3) (fsX1 X i0) cbX1 (by decide) fl_X1_29 (in_st i0 hi0 0 (by decide)) (fun _ => rfl) (fun _ _ => rfl) hF (dtX1_removeRows_0 8 (11, .getfield 29, 3) rfl) (fun v11 hF => ?_)
      refine r_icmp_ge hk 62 hF (dtX1_removeRows_0 9 (14, .if_icmp .ge 48, 3) rfl) (by decide) (fun hF => ?_) (fun hF => ?_)
      · exact r_sub hk [0, 3] rfl (e62_3 v5 m8 hF)
      · refine r_iload hk 4 (dtX1_removeRows_0 10 (17, .iload 4, 2) rfl) rfl ?_
        refine r_iload_n hk 2 (dtX1_removeRows_0 11 (19, .iload_n 2, 1) rfl) rfl ?_
        have j56_15 : ∀ (v12 : Int32) (v13 : Int32) (m14 : Mem), (J_X1_removeRows_56 v7 (fun w0 w1 w2 w3 => L_X1_removeRows_8 i0 p2 n10 w0 w1 w2 w3)) v12 v13 m14 = some (rv, mE) → G X K 56 [(0, .ref (xad X (1, i0, 0, 0))), (1, .ref (xad X (0, 0, 0, 4))), (2, .int p2), (3, .int v12), (4, .int v13), (5, .int v7)] [] m14 := by
          intro v12 v13 m14 hF
          unfold J_X1_removeRows_56 at hF
          refine r_iinc hk 1 5 (fun v16 => [(5, .int v16), (0, .ref (xad X (1, i0, 0, 0))), (1, .ref (xad X (0, 0, 0, 4))), (2, .int p2), (3, .int v12), (4, .int v13)]) hF (dtX1_removeRows_0 30 (56, .iinc 5 1, 3) rfl) rfl (by decide) (by decide) (fun _ => rfl) (fun v16 hF => ?_)
          refine r_goto hk 8 (dtX1_removeRows_0 31 (59, .goto (-51), 3) rfl) (by decide) ?_
          exact r_sub hk [1, 2, 3, 4, 5, 0] rfl (ih10 v12 v13 v16 m14 hF)
        have j45_17 : (J_X1_removeRows_45 i0 v5 v6 v7 m8 (fun w0 w1 w2 w3 => L_X1_removeRows_8 i0 p2 n10 w0 w1 w2 w3)) = some (rv, mE) → G X K 45 [(0, .ref (xad X (1, i0, 0, 0))), (1, .ref (xad X (0, 0, 0, 4))), (2, .int p2), (3, .int v5), (4, .int v6), (5, .int v7)] [] m8 := by
          intro hF
          unfold J_X1_removeRows_45 at hF
          refine r_aload_n hk 0 (dtX1_removeRows_0 24 (45, .aload_n 0, 1) rfl) rfl ?_
          refine r_aload_n hk 0 (dtX1_removeRows_0 25 (46, .aload_n 0, 1) rfl) rfl ?_
          refine r_iload hk 5 (dtX1_removeRows_0 26 (47, .iload 5, 2) rfl) rfl ?_
          refine r_iload_n hk 3 (dtX1_removeRows_0 27 (49, .iload_n 3, 1) rfl) rfl ?_
          refine r_callVm hF (fun w m18 h H locs ls hH hS hl => run_V (y := yX1_copyRow) hk (in_st i0 hi0 0 (by decide)) rfl rfl (c_X1_copyRow (kl K) hk.2.2.2.2.2.2.2.2.2.2.2 X i0 hi0 i0 hi0 v7 v5 m8 w m18 h) lk_X1_52 me_X1_copyRow yf_X1_copyRow (by decide) (by decide) rfl (Nat.le_of_ble_eq_true rfl) rfl (dtX1_removeRows_0 28 (50, .invokevirtual 52, 3) rfl) hH hS hl) (fun _ m18 hF => ?_)
          refine r_iinc hk 1 3 (fun v19 => [(3, .int v19), (0, .ref (xad X (1, i0, 0, 0))), (1, .ref (xad X (0, 0, 0, 4))), (2, .int p2), (4, .int v6), (5, .int v7)]) hF (dtX1_removeRows_0 29 (53, .iinc 3 1, 3) rfl) rfl (by decide) (by decide) (fun _ => rfl) (fun v19 hF => ?_)
          exact r_sub hk [1, 2, 3, 0, 4, 5] rfl (j56_15 v19 v6 m18 hF)
        refine r_icmp_ge hk 45 hF (dtX1_removeRows_0 12 (20, .if_icmp .ge 25, 3) rfl) (by decide) (fun hF => ?_) (fun hF => ?_)
        · exact r_sub hk [0, 1, 2, 3, 4, 5] rfl (j45_17 hF)
        · refine r_iload hk 4 (dtX1_removeRows_0 13 (23, .iload 4, 2) rfl) rfl ?_
          refine r_aload_n hk 1 (dtX1_removeRows_0 14 (25, .aload_n 1, 1) rfl) rfl ?_
          refine r_alen (v := 120) hk (in_main 4 (by decide)) (fun _ => rfl) (by decide) (dtX1_removeRows_0 15 (26, .arraylength, 1) rfl) ?_
          refine r_icmp_ge hk 45 hF (dtX1_removeRows_0 16 (27, .if_icmp .ge 18, 3) rfl) (by decide) (fun hF => ?_) (fun hF => ?_)
          · exact r_sub hk [0, 1, 2, 3, 4, 5] rfl (j45_17 hF)
          · refine r_aload_n hk 1 (dtX1_removeRows_0 17 (30, .aload_n 1, 1) rfl) rfl ?_
            refine r_iload hk 4 (dtX1_removeRows_0 18 (31, .iload 4, 2) rfl) rfl ?_
            refine r_iald hk (in_main 4 (by decide)) (fun _ => rfl) hF (dtX1_removeRows_0 19 (33, .iaload, 1) rfl) (fun v20 hF => ?_)
            refine r_iload hk 5 (dtX1_removeRows_0 20 (34, .iload 5, 2) rfl) rfl ?_
            refine r_icmp_ne hk 45 hF (dtX1_removeRows_0 21 (36, .if_icmp .ne 9, 3) rfl) (by decide) (fun hF => ?_) (fun hF => ?_)
            · exact r_sub hk [0, 1, 2, 3, 4, 5] rfl (j45_17 hF)
            · refine r_iinc hk 1 4 (fun v21 => [(4, .int v21), (0, .ref (xad X (1, i0, 0, 0))), (1, .ref (xad X (0, 0, 0, 4))), (2, .int p2), (3, .int v5), (5, .int v7)]) hF (dtX1_removeRows_0 22 (39, .iinc 4 1, 3) rfl) rfl (by decide) (by decide) (fun _ => rfl) (fun v21 hF => ?_)
              refine r_goto hk 56 (dtX1_removeRows_0 23 (42, .goto 14, 3) rfl) (by decide) ?_
              exact r_sub hk [1, 2, 3, 4, 0, 5] rfl (j56_15 v5 v21 m8 hF)
  exact r_sub hk [3, 4, 5, 2, 1, 0] rfl (l10 fu 0 0 0 m0 hF)
set_option maxHeartbeats 4000000 in
set_option maxRecDepth 100000 in
theorem c_X3_remove (l : Launch) (hlf : l.stackTraces = false) (X : XW)  (p1 : Int32) (m0 : Mem) (rv : Int32 ⊕ Nat) (mE : Mem) (hF : F_X3_remove p1 m0 = some (rv, mE)) : MT X l yX3_remove cX3_remove 3 (some .int) 8 [.ref (xad X (0, 0, 0, 0)), .int p1] m0 rv mE (QTI X rv mE) := by
  refine startTI hlf (by decide +kernel) rfl [(0, .ref (xad X (0, 0, 0, 0))), (1, .int p1)] rfl (Nat.le_of_ble_eq_true rfl) (fun K hk hR hX => ?_)
  unfold F_X3_remove at hF
  refine r_aload_n hk 0 (dtX3_remove_0 0 (0, .aload_n 0, 1) rfl) rfl ?_
  refine r_iload_n hk 1 (dtX3_remove_0 1 (1, .iload_n 1, 1) rfl) rfl ?_
  refine r_callVts hk hF (fun c h => by cases Option.some.inj h; exact hX c rfl) (fun R h hf H locs ls hH hS hl => runT_V (y := yX3_requireRow) hk (in_main 0 (by decide)) rfl rfl (c_X3_requireRow (kl K) hk.2.2.2.2.2.2.2.2.2.2.2 X  p1 m0 R h) lk_X3_116 me_X3_requireRow yf_X3_requireRow (by decide) (by decide) rfl (Nat.le_of_ble_eq_true rfl) rfl (dtX3_remove_0 2 (2, .invokevirtual 116, 3) rfl) hf hH hS hl) (fun _ hF => ?_)
  refine r_aload_n hk 0 (dtX3_remove_0 3 (5, .aload_n 0, 1) rfl) rfl ?_
  refine r_callRm (fun q => xad X (1, q, 0, 0)) hF (fun q1 m2 h H locs ls hH hS hl => run_V (y := yX3_save) hk (in_main 0 (by decide)) rfl rfl (c_X3_save (kl K) hk.2.2.2.2.2.2.2.2.2.2.2 X   m0 q1 m2 h) lk_X3_45 me_X3_save yf_X3_save (by decide) (by decide) rfl (Nat.le_of_ble_eq_true rfl) rfl (dtX3_remove_0 4 (6, .invokevirtual 45, 3) rfl) hH hS hl) (fun q1 m2 _ hF => ?_)
  obtain ⟨hq1, hF⟩ := bp_some hF
  refine r_pop hk (dtX3_remove_0 5 (9, .pop, 1) rfl) rfl ?_
  refine r_aload_n hk 0 (dtX3_remove_0 6 (10, .aload_n 0, 1) rfl) rfl ?_
  refine r_getS hk fl_X3_30 hF (dtX3_remove_0 7 (11, .getfield 30, 3) rfl) (fun q3 hq3 hF => ?_)
  refine r_getR hk (k := 1) (fsX1 X q3) cbX1 (by decide) fl_X3_134 (in_st q3 hq3 0 (by decide)) (fun _ => rfl) (fun _ _ => rfl) (dtX3_remove_0 8 (14, .getfield 134, 3) rfl) ?_
  refine r_iload_n hk 1 (dtX3_remove_0 9 (17, .iload_n 1, 1) rfl) rfl ?_
  refine r_iald hk (in_st q3 hq3 2 (by decide)) (fun _ => rfl) hF (dtX3_remove_0 10 (18, .iaload, 1) rfl) (fun v4 hF => ?_)
  refine r_istore_n hk [(2, .int v4), (0, .ref (xad X (0, 0, 0, 0))), (1, .int p1)] (dtX3_remove_0 11 (19, .istore_n 2, 1) rfl) (by decide) rfl ?_
  refine r_aload_n hk 1 (dtX3_remove_0 12 (20, .aload_n 0, 1) rfl) rfl ?_
  refine r_getR hk (k := 3) (fsX3 X) cbX3 (by decide) fl_X3_26 (in_main 0 (by decide)) (fun _ => rfl) (fun _ _ => rfl) (dtX3_remove_0 13 (21, .getfield 26, 3) rfl) ?_
  refine r_iconst (v := 0) hk (dtX3_remove_0 14 (24, .iconst 0, 1) rfl) (by decide) ?_
  refine r_iload_n hk 2 (dtX3_remove_0 15 (25, .iload_n 1, 1) rfl) rfl ?_
  refine r_iast hk (in_main 4 (by decide)) (fun _ => rfl) hF (dtX3_remove_0 16 (26, .iastore, 1) rfl) (fun m5 hF => ?_)
  refine r_aload_n hk 1 (dtX3_remove_0 17 (27, .aload_n 0, 1) rfl) rfl ?_
  refine r_getS hk fl_X3_30 hF (dtX3_remove_0 18 (28, .getfield 30, 3) rfl) (fun q6 hq6 hF => ?_)
  refine r_aload_n hk 1 (dtX3_remove_0 19 (31, .aload_n 0, 1) rfl) rfl ?_
  refine r_getR hk (k := 3) (fsX3 X) cbX3 (by decide) fl_X3_26 (in_main 0 (by decide)) (fun _ => rfl) (fun _ _ => rfl) (dtX3_remove_0 20 (32, .getfield 26, 3) rfl) ?_
  refine r_iconst (v := 1) hk (dtX3_remove_0 21 (35, .iconst 1, 1) rfl) (by decide) ?_
  refine r_callVm hF (fun w m7 h H locs ls hH hS hl => run_V (y := yX1_removeRows) hk (in_st q6 hq6 0 (by decide)) rfl rfl (c_X1_removeRows (kl K) hk.2.2.2.2.2.2.2.2.2.2.2 X q6 hq6 1 m5 w m7 h) lk_X3_137 me_X1_removeRows yf_X1_removeRows (by decide) (by decide) rfl (Nat.le_of_ble_eq_true rfl) rfl (dtX3_remove_0 22 (36, .invokevirtual 137, 3) rfl) hH hS hl) (fun _ m7 hF => ?_)
  refine r_iload_n hk 0 (dtX3_remove_0 23 (39, .iload_n 2, 1) rfl) rfl ?_
  cases Option.some.inj hF
  exact hR v4 rfl _ _ (dtX3_remove_0 24 (40, .ireturn, 1) rfl)
set_option maxHeartbeats 4000000 in
set_option maxRecDepth 100000 in
theorem c_X1_orderRowsOf (l : Launch) (hlf : l.stackTraces = false) (X : XW) (i0 : Nat) (hi0 : i0 < 7) (i1 : Nat) (hi1 : i1 < 7)  (m0 : Mem) (rv : Unit) (mE : Mem) (hF : F_X1_orderRowsOf i0 i1 m0 = some (rv, mE)) : MX X l yX1_orderRowsOf cX1_orderRowsOf 4 none 3 [.ref (xad X (1, i0, 0, 0)), .ref (xad X (1, i1, 0, 0))] m0 (QV X mE) := by
  refine startV hlf (by decide +kernel) rfl [(0, .ref (xad X (1, i0, 0, 0))), (1, .ref (xad X (1, i1, 0, 0)))] rfl (Nat.le_of_ble_eq_true rfl) (fun K hk hR => ?_)
  unfold F_X1_orderRowsOf at hF
  refine r_aload_n hk 0 (dtX1_orderRowsOf_0 0 (0, .aload_n 0, 1) rfl) rfl ?_
  refine r_iconst (v := 0) hk (dtX1_orderRowsOf_0 1 (1, .iconst 0, 1) rfl) (by decide) ?_
  refine r_putI hk (k := 3) (fsX1 X i0) cbX1 (by decide) fl_X1_29 (in_st i0 hi0 0 (by decide)) (fun _ => rfl) rfl rfl (fun _ _ _ => rfl) (fun _ _ => (by decide : 3 < 4)) hF (dtX1_orderRowsOf_0 2 (2, .putfield 29, 3) rfl) (fun m1 hF => ?_)
  refine r_iconst (v := 0) hk (dtX1_orderRowsOf_0 3 (5, .iconst 0, 1) rfl) (by decide) ?_
  refine r_istore_n hk [(2, .int 0), (0, .ref (xad X (1, i0, 0, 0))), (1, .ref (xad X (1, i1, 0, 0)))] (dtX1_orderRowsOf_0 4 (6, .istore_n 2, 1) rfl) (by decide) rfl ?_
  have e68_3 : ∀ (m2 : Mem), C_X1_orderRowsOf_68 m2 = some (rv, mE) → G X K 68 [] [] m2 := by
    intro m2 hF
    unfold C_X1_orderRowsOf_68 at hF
    cases Option.some.inj hF
    exact hR _ _ (dtX1_orderRowsOf_0 38 (68, .return_, 1) rfl)
  have l7 : ∀ (n7 : Nat) (v4 : Int32) (m5 : Mem), L_X1_orderRowsOf_7 i0 i1 n7 v4 m5 = some (rv, mE) → G X K 7 [(0, .ref (xad X (1, i0, 0, 0))), (1, .ref (xad X (1, i1, 0, 0))), (2, .int v4)] [] m5 := by
    intro n7
    induction n7 with
    | zero => intro v4 m5 hF; exact nomatch (show (none : Option (Unit × Mem)) = some (rv, mE) from hF)
    | succ n7 ih7 =>
      intro v4 m5 hF
      rw [L_X1_orderRowsOf_7] at hF
      refine r_iload_n hk 2 (dtX1_orderRowsOf_0 5 (7, .iload_n 2, 1) rfl) rfl ?_
      refine r_iconst (v := 3) hk (dtX1_orderRowsOf_0 6 (8, .iconst 3, 1) rfl) (by decide) ?_
      refine r_icmp_gt hk 68 hF (dtX1_orderRowsOf_0 7 (9, .if_icmp .gt 59, 3) rfl) (by decide) (fun hF => ?_) (fun hF => ?_)
      · exact r_sub hk [] rfl (e68_3 m5 hF)
      · refine r_iconst (v := 0) hk (dtX1_orderRowsOf_0 8 (12, .iconst 0, 1) rfl) (by decide) ?_
        refine r_istore_n hk [(3, .int 0), (0, .ref (xad X (1, i0, 0, 0))), (1, .ref (xad X (1, i1, 0, 0))), (2, .int v4)] (dtX1_orderRowsOf_0 9 (13, .istore_n 3, 1) rfl) (by decide) rfl ?_
        have e62_9 : ∀ (m8 : Mem), (C_X1_orderRowsOf_62 v4 (fun w0 w1 => L_X1_orderRowsOf_7 i0 i1 n7 w0 w1)) m8 = some (rv, mE) → G X K 62 [(0, .ref (xad X (1, i0, 0, 0))), (1, .ref (xad X (1, i1, 0, 0))), (2, .int v4)] [] m8 := by
          intro m8 hF
          unfold C_X1_orderRowsOf_62 at hF
          refine r_iinc hk 1 2 (fun v10 => [(2, .int v10), (0, .ref (xad X (1, i0, 0, 0))), (1, .ref (xad X (1, i1, 0, 0)))]) hF (dtX1_orderRowsOf_0 36 (62, .iinc 2 1, 3) rfl) rfl (by decide) (by decide) (fun _ => rfl) (fun v10 hF => ?_)
          refine r_goto hk 7 (dtX1_orderRowsOf_0 37 (65, .goto (-58), 3) rfl) (by decide) ?_
          exact r_sub hk [1, 2, 0] rfl (ih7 v10 m8 hF)
        have l14 : ∀ (n14 : Nat) (v11 : Int32) (m12 : Mem), L_X1_orderRowsOf_14 i0 i1 v4 (fun w0 w1 => L_X1_orderRowsOf_7 i0 i1 n7 w0 w1) n14 v11 m12 = some (rv, mE) → G X K 14 [(0, .ref (xad X (1, i0, 0, 0))), (1, .ref (xad X (1, i1, 0, 0))), (2, .int v4), (3, .int v11)] [] m12 := by
          intro n14
          induction n14 with
          | zero => intro v11 m12 hF; exact nomatch (show (none : Option (Unit × Mem)) = some (rv, mE) from hF)
          | succ n14 ih14 =>
            intro v11 m12 hF
            rw [L_X1_orderRowsOf_14] at hF
            refine r_iload_n hk 3 (dtX1_orderRowsOf_0 10 (14, .iload_n 3, 1) rfl) rfl ?_
            refine r_aload_n hk 1 (dtX1_orderRowsOf_0 11 (15, .aload_n 1, 1) rfl) rfl ?_
            refine r_getI hk (k := 3) (fsX1 X i1) cbX1 (by decide) fl_X1_29 (in_st i1 hi1 0 (by decide)) (fun _ => rfl) (fun _ _ => rfl) hF (dtX1_orderRowsOf_0 12 (16, .getfield 29, 3) rfl) (fun v15 hF => ?_)
            refine r_icmp_ge hk 62 hF (dtX1_orderRowsOf_0 13 (19, .if_icmp .ge 43, 3) rfl) (by decide) (fun hF => ?_) (fun hF => ?_)
            · exact r_sub hk [0, 1, 2] rfl (e62_9 m12 hF)
            · refine r_aload_n hk 0 (dtX1_orderRowsOf_0 14 (22, .aload_n 0, 1) rfl) rfl ?_
              refine r_aload_n hk 1 (dtX1_orderRowsOf_0 15 (23, .aload_n 1, 1) rfl) rfl ?_
              refine r_getR hk (k := 1) (fsX1 X i1) cbX1 (by decide) fl_X1_17 (in_st i1 hi1 0 (by decide)) (fun _ => rfl) (fun _ _ => rfl) (dtX1_orderRowsOf_0 16 (24, .getfield 17, 3) rfl) ?_
              refine r_iload_n hk 3 (dtX1_orderRowsOf_0 17 (27, .iload_n 3, 1) rfl) rfl ?_
              refine r_iald hk (in_st i1 hi1 2 (by decide)) (fun _ => rfl) hF (dtX1_orderRowsOf_0 18 (28, .iaload, 1) rfl) (fun v16 hF => ?_)
              refine r_callI hF (fun v17 h H locs ls hH hS hl => run_V (y := yX1_tableOf) hk (in_st i0 hi0 0 (by decide)) rfl rfl (c_X1_tableOf (kl K) hk.2.2.2.2.2.2.2.2.2.2.2 X i0 hi0 v16 m12 v17 h) lk_X1_48 me_X1_tableOf yf_X1_tableOf (by decide) (by decide) rfl (Nat.le_of_ble_eq_true rfl) rfl (dtX1_orderRowsOf_0 19 (29, .invokevirtual 48, 3) rfl) hH hS hl) (fun v17 hF => ?_)
              refine r_iload_n hk 2 (dtX1_orderRowsOf_0 20 (32, .iload_n 2, 1) rfl) rfl ?_
              have j56_19 : ∀ (m18 : Mem), (J_X1_orderRowsOf_56 v11 (fun w0 w1 => L_X1_orderRowsOf_14 i0 i1 v4 (fun w0 w1 => L_X1_orderRowsOf_7 i0 i1 n7 w0 w1) n14 w0 w1)) m18 = some (rv, mE) → G X K 56 [(0, .ref (xad X (1, i0, 0, 0))), (1, .ref (xad X (1, i1, 0, 0))), (2, .int v4), (3, .int v11)] [] m18 := by
                intro m18 hF
                unfold J_X1_orderRowsOf_56 at hF
                refine r_iinc hk 1 3 (fun v20 => [(3, .int v20), (0, .ref (xad X (1, i0, 0, 0))), (1, .ref (xad X (1, i1, 0, 0))), (2, .int v4)]) hF (dtX1_orderRowsOf_0 34 (56, .iinc 3 1, 3) rfl) rfl (by decide) (by decide) (fun _ => rfl) (fun v20 hF => ?_)
                refine r_goto hk 14 (dtX1_orderRowsOf_0 35 (59, .goto (-45), 3) rfl) (by decide) ?_
                exact r_sub hk [1, 2, 3, 0] rfl (ih14 v20 m18 hF)
              refine r_icmp_ne hk 56 hF (dtX1_orderRowsOf_0 21 (33, .if_icmp .ne 23, 3) rfl) (by decide) (fun hF => ?_) (fun hF => ?_)
              · exact r_sub hk [0, 1, 2, 3] rfl (j56_19 m12 hF)
              · refine r_aload_n hk 0 (dtX1_orderRowsOf_0 22 (36, .aload_n 0, 1) rfl) rfl ?_
                refine r_aload_n hk 1 (dtX1_orderRowsOf_0 23 (37, .aload_n 1, 1) rfl) rfl ?_
                refine r_iload_n hk 3 (dtX1_orderRowsOf_0 24 (38, .iload_n 3, 1) rfl) rfl ?_
                refine r_aload_n hk 0 (dtX1_orderRowsOf_0 25 (39, .aload_n 0, 1) rfl) rfl ?_
                refine r_getI hk (k := 3) (fsX1 X i0) cbX1 (by decide) fl_X1_29 (in_st i0 hi0 0 (by decide)) (fun _ => rfl) (fun _ _ => rfl) hF (dtX1_orderRowsOf_0 26 (40, .getfield 29, 3) rfl) (fun v21 hF => ?_)
                refine r_callVm hF (fun w m22 h H locs ls hH hS hl => run_V (y := yX1_copyRow) hk (in_st i0 hi0 0 (by decide)) rfl rfl (c_X1_copyRow (kl K) hk.2.2.2.2.2.2.2.2.2.2.2 X i0 hi0 i1 hi1 v11 v21 m12 w m22 h) lk_X1_52 me_X1_copyRow yf_X1_copyRow (by decide) (by decide) rfl (Nat.le_of_ble_eq_true rfl) rfl (dtX1_orderRowsOf_0 27 (43, .invokevirtual 52, 3) rfl) hH hS hl) (fun _ m22 hF => ?_)
                refine r_aload_n hk 0 (dtX1_orderRowsOf_0 28 (46, .aload_n 0, 1) rfl) rfl ?_
                refine r_dup hk (dtX1_orderRowsOf_0 29 (47, .dup, 1) rfl) rfl ?_
                refine r_getI hk (k := 3) (fsX1 X i0) cbX1 (by decide) fl_X1_29 (in_st i0 hi0 0 (by decide)) (fun _ => rfl) (fun _ _ => rfl) hF (dtX1_orderRowsOf_0 30 (48, .getfield 29, 3) rfl) (fun v23 hF => ?_)
                refine r_iconst (v := 1) hk (dtX1_orderRowsOf_0 31 (51, .iconst 1, 1) rfl) (by decide) ?_
                refine r_iadd hk hF (dtX1_orderRowsOf_0 32 (52, .iadd, 1) rfl) (fun v24 hF => ?_)
                refine r_putI hk (k := 3) (fsX1 X i0) cbX1 (by decide) fl_X1_29 (in_st i0 hi0 0 (by decide)) (fun _ => rfl) rfl rfl (fun _ _ _ => rfl) (fun _ _ => (by decide : 3 < 4)) hF (dtX1_orderRowsOf_0 33 (53, .putfield 29, 3) rfl) (fun m25 hF => ?_)
                exact r_sub hk [0, 1, 2, 3] rfl (j56_19 m25 hF)
        exact r_sub hk [1, 2, 3, 0] rfl (l14 fu 0 m5 hF)
  exact r_sub hk [1, 2, 0] rfl (l7 fu 0 m1 hF)
set_option maxHeartbeats 4000000 in
set_option maxRecDepth 100000 in
theorem c_X3_move (l : Launch) (hlf : l.stackTraces = false) (X : XW)  (p1 : Int32) (m0 : Mem) (rv : Int32 ⊕ Nat) (mE : Mem) (hF : F_X3_move p1 m0 = some (rv, mE)) : MT X l yX3_move cX3_move 4 (some .int) 8 [.ref (xad X (0, 0, 0, 0)), .int p1] m0 rv mE (QTI X rv mE) := by
  refine startTI hlf (by decide +kernel) rfl [(0, .ref (xad X (0, 0, 0, 0))), (1, .int p1)] rfl (Nat.le_of_ble_eq_true rfl) (fun K hk hR hX => ?_)
  unfold F_X3_move at hF
  refine r_iload_n hk 1 (dtX3_move_0 0 (0, .iload_n 1, 1) rfl) rfl ?_
  refine r_callI hF (fun v1 h H locs ls hH hS hl => run_S hk (c_X3_isTenant (kl K) hk.2.2.2.2.2.2.2.2.2.2.2 X  p1 m0 v1 h) lk_X3_34 me_X3_isTenant yf_X3_isTenant (by decide) (by decide) rfl (Nat.le_of_ble_eq_true rfl) rfl (dtX3_move_0 1 (1, .invokestatic 34, 3) rfl) hH hS hl) (fun v1 hF => ?_)
  refine r_callVts hk hF (fun c h => by cases Option.some.inj h; exact hX c rfl) (fun R h hf H locs ls hH hS hl => runT_S hk (c_X3_require (kl K) hk.2.2.2.2.2.2.2.2.2.2.2 X  v1 m0 R h) lk_X3_41 me_X3_require yf_X3_require (by decide) (by decide) rfl (Nat.le_of_ble_eq_true rfl) rfl (dtX3_move_0 2 (4, .invokestatic 41, 3) rfl) hf hH hS hl) (fun _ hF => ?_)
  refine r_aload_n hk 0 (dtX3_move_0 3 (7, .aload_n 0, 1) rfl) rfl ?_
  refine r_callRm (fun q => xad X (1, q, 0, 0)) hF (fun q2 m3 h H locs ls hH hS hl => run_V (y := yX3_save) hk (in_main 0 (by decide)) rfl rfl (c_X3_save (kl K) hk.2.2.2.2.2.2.2.2.2.2.2 X   m0 q2 m3 h) lk_X3_45 me_X3_save yf_X3_save (by decide) (by decide) rfl (Nat.le_of_ble_eq_true rfl) rfl (dtX3_move_0 4 (8, .invokevirtual 45, 3) rfl) hH hS hl) (fun q2 m3 _ hF => ?_)
  obtain ⟨hq2, hF⟩ := bp_some hF
  refine r_astore_n hk [(2, .ref (xad X (1, q2, 0, 0))), (0, .ref (xad X (0, 0, 0, 0))), (1, .int p1)] (dtX3_move_0 5 (11, .astore_n 2, 1) rfl) (by decide) rfl ?_
  refine r_aload_n hk 1 (dtX3_move_0 6 (12, .aload_n 0, 1) rfl) rfl ?_
  refine r_getS hk fl_X3_30 hF (dtX3_move_0 7 (13, .getfield 30, 3) rfl) (fun q4 hq4 hF => ?_)
  refine r_getR hk (k := 0) (fsX1 X q4) cbX1 (by decide) fl_X3_49 (in_st q4 hq4 0 (by decide)) (fun _ => rfl) (fun _ _ => rfl) (dtX3_move_0 8 (16, .getfield 49, 3) rfl) ?_
  refine r_iload_n hk 2 (dtX3_move_0 9 (19, .iload_n 1, 1) rfl) rfl ?_
  refine r_aldT hk hq4 hF (dtX3_move_0 10 (20, .aaload, 1) rfl) (fun q5 hq5 hF => ?_)
  refine r_astore_n hk [(3, .ref (xad X (2, q4, q5, 0))), (2, .ref (xad X (1, q2, 0, 0))), (0, .ref (xad X (0, 0, 0, 0))), (1, .int p1)] (dtX3_move_0 11 (21, .astore_n 3, 1) rfl) (by decide) rfl ?_
  refine r_aload_n hk 0 (dtX3_move_0 12 (22, .aload_n 3, 1) rfl) rfl ?_
  refine r_getI hk (k := 5) (fsX2 X q4 q5) cbX2 (by decide) fl_X3_106 (in_tn q4 hq4 q5 hq5 0 (by decide)) (fun _ => rfl) (fun _ _ => rfl) hF (dtX3_move_0 13 (23, .getfield 106, 3) rfl) (fun v6 hF => ?_)
  have j56_7 : (J_X3_move_56 q2 m3 q4 q5) = some (rv, mE) → G X K 56 [(0, .ref (xad X (0, 0, 0, 0))), (2, .ref (xad X (1, q2, 0, 0))), (3, .ref (xad X (2, q4, q5, 0)))] [] m3 := by
    intro hF
    unfold J_X3_move_56 at hF
    refine r_aload_n hk 2 (dtX3_move_0 29 (56, .aload_n 3, 1) rfl) rfl ?_
    refine r_aload_n hk 2 (dtX3_move_0 30 (57, .aload_n 3, 1) rfl) rfl ?_
    refine r_getI hk (k := 5) (fsX2 X q4 q5) cbX2 (by decide) fl_X3_106 (in_tn q4 hq4 q5 hq5 0 (by decide)) (fun _ => rfl) (fun _ _ => rfl) hF (dtX3_move_0 31 (58, .getfield 106, 3) rfl) (fun v8 hF => ?_)
    have j69_10 : ∀ (v9 : Int32), (J_X3_move_69 q2 m3 q4 q5) v9 = some (rv, mE) → G X K 69 [(0, .ref (xad X (0, 0, 0, 0))), (2, .ref (xad X (1, q2, 0, 0))), (3, .ref (xad X (2, q4, q5, 0)))] [.int v9, .ref (xad X (2, q4, q5, 0))] m3 := by
      intro v9 hF
      unfold J_X3_move_69 at hF
      refine r_putZ hk (k := 5) (fsX2 X q4 q5) cbX2 (by decide) fl_X3_106 (in_tn q4 hq4 q5 hq5 0 (by decide)) (fun _ => rfl) rfl rfl (fun _ _ _ => rfl) (fun _ _ => (by decide : 5 < 10)) hF (dtX3_move_0 36 (69, .putfield 106, 3) rfl) (fun m11 hF => ?_)
      refine r_aload_n hk 0 (dtX3_move_0 37 (72, .aload_n 0, 1) rfl) rfl ?_
      refine r_getS hk fl_X3_30 hF (dtX3_move_0 38 (73, .getfield 30, 3) rfl) (fun q12 hq12 hF => ?_)
      refine r_aload_n hk 1 (dtX3_move_0 39 (76, .aload_n 2, 1) rfl) rfl ?_
      refine r_callVm hF (fun w m13 h H locs ls hH hS hl => run_V (y := yX1_orderRowsOf) hk (in_st q12 hq12 0 (by decide)) rfl rfl (c_X1_orderRowsOf (kl K) hk.2.2.2.2.2.2.2.2.2.2.2 X q12 hq12 q2 hq2  m11 w m13 h) lk_X3_141 me_X1_orderRowsOf yf_X1_orderRowsOf (by decide) (by decide) rfl (Nat.le_of_ble_eq_true rfl) rfl (dtX3_move_0 40 (77, .invokevirtual 141, 3) rfl) hH hS hl) (fun _ m13 hF => ?_)
      refine r_aload_n hk 2 (dtX3_move_0 41 (80, .aload_n 3, 1) rfl) rfl ?_
      refine r_getI hk (k := 5) (fsX2 X q4 q5) cbX2 (by decide) fl_X3_106 (in_tn q4 hq4 q5 hq5 0 (by decide)) (fun _ => rfl) (fun _ _ => rfl) hF (dtX3_move_0 42 (81, .getfield 106, 3) rfl) (fun v14 hF => ?_)
      refine r_callI hF (fun v15 h H locs ls hH hS hl => run_S hk (c_X3_asNumber (kl K) hk.2.2.2.2.2.2.2.2.2.2.2 X  v14 m13 v15 h) lk_X3_96 me_X3_asNumber yf_X3_asNumber (by decide) (by decide) rfl (Nat.le_of_ble_eq_true rfl) rfl (dtX3_move_0 43 (84, .invokestatic 96, 3) rfl) hH hS hl) (fun v15 hF => ?_)
      cases Option.some.inj hF
      exact hR v15 rfl _ _ (dtX3_move_0 44 (87, .ireturn, 1) rfl)
    refine r_if_ne hk 68 hF (dtX3_move_0 32 (61, .ifCond .ne 7, 3) rfl) (by decide) (fun hF => ?_) (fun hF => ?_)
    · refine r_iconst (v := 0) hk (dtX3_move_0 35 (68, .iconst 0, 1) rfl) (by decide) ?_
      exact r_sub hk [0, 1, 2] rfl (j69_10 0 hF)
    · refine r_iconst (v := 1) hk (dtX3_move_0 33 (64, .iconst 1, 1) rfl) (by decide) ?_
      refine r_goto hk 69 (dtX3_move_0 34 (65, .goto 4, 3) rfl) (by decide) ?_
      exact r_sub hk [0, 1, 2] rfl (j69_10 1 hF)
  refine r_if_eq hk 56 hF (dtX3_move_0 14 (26, .ifCond .eq 30, 3) rfl) (by decide) (fun hF => ?_) (fun hF => ?_)
  · exact r_sub hk [2, 1, 0] rfl (j56_7 hF)
  · refine r_aload_n hk 2 (dtX3_move_0 15 (29, .aload_n 0, 1) rfl) rfl ?_
    refine r_getS hk fl_X3_30 hF (dtX3_move_0 16 (30, .getfield 30, 3) rfl) (fun q16 hq16 hF => ?_)
    refine r_callI hF (fun v17 h H locs ls hH hS hl => run_V (y := yX1_tableRows) hk (in_st q16 hq16 0 (by decide)) rfl rfl (c_X1_tableRows (kl K) hk.2.2.2.2.2.2.2.2.2.2.2 X q16 hq16  m3 v17 h) lk_X3_110 me_X1_tableRows yf_X1_tableRows (by decide) (by decide) rfl (Nat.le_of_ble_eq_true rfl) rfl (dtX3_move_0 17 (33, .invokevirtual 110, 3) rfl) hH hS hl) (fun v17 hF => ?_)
    refine r_aload_n hk 2 (dtX3_move_0 18 (36, .aload_n 0, 1) rfl) rfl ?_
    refine r_getS hk fl_X3_30 hF (dtX3_move_0 19 (37, .getfield 30, 3) rfl) (fun q18 hq18 hF => ?_)
    refine r_iload_n hk 3 (dtX3_move_0 20 (40, .iload_n 1, 1) rfl) rfl ?_
    refine r_callI hF (fun v19 h H locs ls hH hS hl => run_V (y := yX1_rowsOf) hk (in_st q18 hq18 0 (by decide)) rfl rfl (c_X1_rowsOf (kl K) hk.2.2.2.2.2.2.2.2.2.2.2 X q18 hq18 p1 m3 v19 h) lk_X3_100 me_X1_rowsOf yf_X1_rowsOf (by decide) (by decide) rfl (Nat.le_of_ble_eq_true rfl) rfl (dtX3_move_0 21 (41, .invokevirtual 100, 3) rfl) hH hS hl) (fun v19 hF => ?_)
    refine r_iadd hk hF (dtX3_move_0 22 (44, .iadd, 1) rfl) (fun v20 hF => ?_)
    refine r_bipush (v := 40) hk (dtX3_move_0 23 (45, .bipush 40, 2) rfl) (by decide) ?_
    refine r_icmp_le hk 56 hF (dtX3_move_0 24 (47, .if_icmp .le 9, 3) rfl) (by decide) (fun hF => ?_) (fun hF => ?_)
    · exact r_sub hk [2, 1, 0] rfl (j56_7 hF)
    · refine r_aload_n hk 0 (dtX3_move_0 25 (50, .aload_n 3, 1) rfl) rfl ?_
      refine r_iconst (v := 2) hk (dtX3_move_0 26 (51, .iconst 2, 1) rfl) (by decide) ?_
      refine r_callIm hF (fun v21 m22 h H locs ls hH hS hl => run_V (y := yX2_refuse) hk (in_tn q4 hq4 q5 hq5 0 (by decide)) rfl rfl (c_X2_refuse (kl K) hk.2.2.2.2.2.2.2.2.2.2.2 X q4 hq4 q5 hq5 2 m3 v21 m22 h) lk_X3_63 me_X2_refuse yf_X2_refuse (by decide) (by decide) rfl (Nat.le_of_ble_eq_true rfl) rfl (dtX3_move_0 27 (52, .invokevirtual 63, 3) rfl) hH hS hl) (fun v21 m22 hF => ?_)
      cases Option.some.inj hF
      exact hR v21 rfl _ _ (dtX3_move_0 28 (55, .ireturn, 1) rfl)
set_option maxHeartbeats 4000000 in
set_option maxRecDepth 100000 in
theorem c_X3_limit (l : Launch) (hlf : l.stackTraces = false) (X : XW)  (p1 : Int32) (p2 : Int32) (p3 : Int32) (m0 : Mem) (rv : Int32 ⊕ Nat) (mE : Mem) (hF : F_X3_limit p1 p2 p3 m0 = some (rv, mE)) : MT X l yX3_limit cX3_limit 6 (some .int) 8 [.ref (xad X (0, 0, 0, 0)), .int p1, .int p2, .int p3] m0 rv mE (QTI X rv mE) := by
  refine startTI hlf (by decide +kernel) rfl [(0, .ref (xad X (0, 0, 0, 0))), (1, .int p1), (2, .int p2), (3, .int p3)] rfl (Nat.le_of_ble_eq_true rfl) (fun K hk hR hX => ?_)
  unfold F_X3_limit at hF
  refine r_iload_n hk 1 (dtX3_limit_0 0 (0, .iload_n 1, 1) rfl) rfl ?_
  refine r_callI hF (fun v1 h H locs ls hH hS hl => run_S hk (c_X3_isTenant (kl K) hk.2.2.2.2.2.2.2.2.2.2.2 X  p1 m0 v1 h) lk_X3_34 me_X3_isTenant yf_X3_isTenant (by decide) (by decide) rfl (Nat.le_of_ble_eq_true rfl) rfl (dtX3_limit_0 1 (1, .invokestatic 34, 3) rfl) hH hS hl) (fun v1 hF => ?_)
  have j31_3 : ∀ (v2 : Int32), (J_X3_limit_31 p1 p2 p3 m0) v2 = some (rv, mE) → G X K 31 [(0, .ref (xad X (0, 0, 0, 0))), (1, .int p1), (2, .int p2), (3, .int p3)] [.int v2] m0 := by
    intro v2 hF
    unfold J_X3_limit_31 at hF
    refine r_callVts hk hF (fun c h => by cases Option.some.inj h; exact hX c rfl) (fun R h hf H locs ls hH hS hl => runT_S hk (c_X3_require (kl K) hk.2.2.2.2.2.2.2.2.2.2.2 X  v2 m0 R h) lk_X3_41 me_X3_require yf_X3_require (by decide) (by decide) rfl (Nat.le_of_ble_eq_true rfl) rfl (dtX3_limit_0 15 (31, .invokestatic 41, 3) rfl) hf hH hS hl) (fun _ hF => ?_)
    refine r_aload_n hk 0 (dtX3_limit_0 16 (34, .aload_n 0, 1) rfl) rfl ?_
    refine r_callRm (fun q => xad X (1, q, 0, 0)) hF (fun q4 m5 h H locs ls hH hS hl => run_V (y := yX3_save) hk (in_main 0 (by decide)) rfl rfl (c_X3_save (kl K) hk.2.2.2.2.2.2.2.2.2.2.2 X   m0 q4 m5 h) lk_X3_45 me_X3_save yf_X3_save (by decide) (by decide) rfl (Nat.le_of_ble_eq_true rfl) rfl (dtX3_limit_0 17 (35, .invokevirtual 45, 3) rfl) hH hS hl) (fun q4 m5 _ hF => ?_)
    obtain ⟨hq4, hF⟩ := bp_some hF
    refine r_pop hk (dtX3_limit_0 18 (38, .pop, 1) rfl) rfl ?_
    refine r_aload_n hk 0 (dtX3_limit_0 19 (39, .aload_n 0, 1) rfl) rfl ?_
    refine r_getS hk fl_X3_30 hF (dtX3_limit_0 20 (40, .getfield 30, 3) rfl) (fun q6 hq6 hF => ?_)
    refine r_getR hk (k := 0) (fsX1 X q6) cbX1 (by decide) fl_X3_49 (in_st q6 hq6 0 (by decide)) (fun _ => rfl) (fun _ _ => rfl) (dtX3_limit_0 21 (43, .getfield 49, 3) rfl) ?_
    refine r_iload_n hk 1 (dtX3_limit_0 22 (46, .iload_n 1, 1) rfl) rfl ?_
    refine r_aldT hk hq6 hF (dtX3_limit_0 23 (47, .aaload, 1) rfl) (fun q7 hq7 hF => ?_)
    refine r_astore hk [(4, .ref (xad X (2, q6, q7, 0))), (0, .ref (xad X (0, 0, 0, 0))), (1, .int p1), (2, .int p2), (3, .int p3)] (dtX3_limit_0 24 (48, .astore 4, 2) rfl) (by decide) rfl ?_
    refine r_iload_n hk 3 (dtX3_limit_0 25 (50, .iload_n 2, 1) rfl) rfl ?_
    have j67_9 : ∀ (v8 : Int32), (J_X3_limit_67 p2 p3 m5 q6 q7) v8 = some (rv, mE) → G X K 67 [(2, .int p2), (3, .int p3), (4, .ref (xad X (2, q6, q7, 0)))] [.int v8] m5 := by
      intro v8 hF
      unfold J_X3_limit_67 at hF
      refine r_istore hk [(5, .int v8), (2, .int p2), (3, .int p3), (4, .ref (xad X (2, q6, q7, 0)))] (dtX3_limit_0 32 (67, .istore 5, 2) rfl) (by decide) rfl ?_
      refine r_iload_n hk 1 (dtX3_limit_0 33 (69, .iload_n 2, 1) rfl) rfl ?_
      have j88_11 : ∀ (m10 : Mem), (J_X3_limit_88 v8) m10 = some (rv, mE) → G X K 88 [(5, .int v8)] [] m10 := by
        intro m10 hF
        unfold J_X3_limit_88 at hF
        refine r_iload hk 0 (dtX3_limit_0 42 (88, .iload 5, 2) rfl) rfl ?_
        cases Option.some.inj hF
        exact hR v8 rfl _ _ (dtX3_limit_0 43 (90, .ireturn, 1) rfl)
      refine r_if_eq hk 82 hF (dtX3_limit_0 34 (70, .ifCond .eq 12, 3) rfl) (by decide) (fun hF => ?_) (fun hF => ?_)
      · refine r_aload hk 3 (dtX3_limit_0 39 (82, .aload 4, 2) rfl) rfl ?_
        refine r_iload_n hk 2 (dtX3_limit_0 40 (84, .iload_n 3, 1) rfl) rfl ?_
        refine r_putI hk (k := 3) (fsX2 X q6 q7) cbX2 (by decide) fl_X3_103 (in_tn q6 hq6 q7 hq7 0 (by decide)) (fun _ => rfl) rfl rfl (fun _ _ _ => rfl) (fun _ _ => (by decide : 3 < 10)) hF (dtX3_limit_0 41 (85, .putfield 103, 3) rfl) (fun m12 hF => ?_)
        exact r_sub hk [0] rfl (j88_11 m12 hF)
      · refine r_aload hk 3 (dtX3_limit_0 35 (73, .aload 4, 2) rfl) rfl ?_
        refine r_iload_n hk 2 (dtX3_limit_0 36 (75, .iload_n 3, 1) rfl) rfl ?_
        refine r_putI hk (k := 4) (fsX2 X q6 q7) cbX2 (by decide) fl_X3_59 (in_tn q6 hq6 q7 hq7 0 (by decide)) (fun _ => rfl) rfl rfl (fun _ _ _ => rfl) (fun _ _ => (by decide : 4 < 10)) hF (dtX3_limit_0 37 (76, .putfield 59, 3) rfl) (fun m13 hF => ?_)
        refine r_goto hk 88 (dtX3_limit_0 38 (79, .goto 9, 3) rfl) (by decide) ?_
        exact r_sub hk [0] rfl (j88_11 m13 hF)
    refine r_if_eq hk 62 hF (dtX3_limit_0 26 (51, .ifCond .eq 11, 3) rfl) (by decide) (fun hF => ?_) (fun hF => ?_)
    · refine r_aload hk 0 (dtX3_limit_0 30 (62, .aload 4, 2) rfl) rfl ?_
      refine r_getI hk (k := 3) (fsX2 X q6 q7) cbX2 (by decide) fl_X3_103 (in_tn q6 hq6 q7 hq7 0 (by decide)) (fun _ => rfl) (fun _ _ => rfl) hF (dtX3_limit_0 31 (64, .getfield 103, 3) rfl) (fun v14 hF => ?_)
      exact r_sub hk [3, 4, 0] rfl (j67_9 v14 hF)
    · refine r_aload hk 0 (dtX3_limit_0 27 (54, .aload 4, 2) rfl) rfl ?_
      refine r_getI hk (k := 4) (fsX2 X q6 q7) cbX2 (by decide) fl_X3_59 (in_tn q6 hq6 q7 hq7 0 (by decide)) (fun _ => rfl) (fun _ _ => rfl) hF (dtX3_limit_0 28 (56, .getfield 59, 3) rfl) (fun v15 hF => ?_)
      refine r_goto hk 67 (dtX3_limit_0 29 (59, .goto 8, 3) rfl) (by decide) ?_
      exact r_sub hk [3, 4, 0] rfl (j67_9 v15 hF)
  have j30_16 : (J_X3_limit_30 p1 p2 p3 m0) = some (rv, mE) → G X K 30 [(0, .ref (xad X (0, 0, 0, 0))), (1, .int p1), (2, .int p2), (3, .int p3)] [] m0 := by
    intro hF
    unfold J_X3_limit_30 at hF
    refine r_iconst (v := 0) hk (dtX3_limit_0 14 (30, .iconst 0, 1) rfl) (by decide) ?_
    exact r_sub hk [0, 1, 2, 3] rfl (j31_3 0 hF)
  refine r_if_eq hk 30 hF (dtX3_limit_0 2 (4, .ifCond .eq 26, 3) rfl) (by decide) (fun hF => ?_) (fun hF => ?_)
  · exact r_sub hk [0, 1, 2, 3] rfl (j30_16 hF)
  · refine r_iload_n hk 3 (dtX3_limit_0 3 (7, .iload_n 3, 1) rfl) rfl ?_
    refine r_if_lt hk 30 hF (dtX3_limit_0 4 (8, .ifCond .lt 22, 3) rfl) (by decide) (fun hF => ?_) (fun hF => ?_)
    · exact r_sub hk [0, 1, 2, 3] rfl (j30_16 hF)
    · refine r_iload_n hk 3 (dtX3_limit_0 5 (11, .iload_n 3, 1) rfl) rfl ?_
      refine r_iload_n hk 2 (dtX3_limit_0 6 (12, .iload_n 2, 1) rfl) rfl ?_
      have j23_18 : ∀ (v17 : Int32), (J_X3_limit_23 p1 p2 p3 m0) v17 = some (rv, mE) → G X K 23 [(0, .ref (xad X (0, 0, 0, 0))), (1, .int p1), (2, .int p2), (3, .int p3)] [.int v17, .int p3] m0 := by
        intro v17 hF
        unfold J_X3_limit_23 at hF
        refine r_icmp_gt hk 30 hF (dtX3_limit_0 11 (23, .if_icmp .gt 7, 3) rfl) (by decide) (fun hF => ?_) (fun hF => ?_)
        · exact r_sub hk [0, 1, 2, 3] rfl (j30_16 hF)
        · refine r_iconst (v := 1) hk (dtX3_limit_0 12 (26, .iconst 1, 1) rfl) (by decide) ?_
          refine r_goto hk 31 (dtX3_limit_0 13 (27, .goto 4, 3) rfl) (by decide) ?_
          exact r_sub hk [0, 1, 2, 3] rfl (j31_3 1 hF)
      refine r_if_eq hk 21 hF (dtX3_limit_0 7 (13, .ifCond .eq 8, 3) rfl) (by decide) (fun hF => ?_) (fun hF => ?_)
      · refine r_bipush (v := 40) hk (dtX3_limit_0 10 (21, .bipush 40, 2) rfl) (by decide) ?_
        exact r_sub hk [0, 1, 2, 3] rfl (j23_18 40 hF)
      · refine r_bipush (v := 8) hk (dtX3_limit_0 8 (16, .bipush 8, 2) rfl) (by decide) ?_
        refine r_goto hk 23 (dtX3_limit_0 9 (18, .goto 5, 3) rfl) (by decide) ?_
        exact r_sub hk [0, 1, 2, 3] rfl (j23_18 8 hF)
set_option maxHeartbeats 4000000 in
set_option maxRecDepth 100000 in
theorem c_X3_undo (l : Launch) (hlf : l.stackTraces = false) (X : XW)   (m0 : Mem) (rv : Int32 ⊕ Nat) (mE : Mem) (hF : F_X3_undo m0 = some (rv, mE)) : MT X l yX3_undo cX3_undo 2 (some .int) 7 [.ref (xad X (0, 0, 0, 0))] m0 rv mE (QTI X rv mE) := by
  refine startTI hlf (by decide +kernel) rfl [(0, .ref (xad X (0, 0, 0, 0)))] rfl (Nat.le_of_ble_eq_true rfl) (fun K hk hR hX => ?_)
  unfold F_X3_undo at hF
  refine r_aload_n hk 0 (dtX3_undo_0 0 (0, .aload_n 0, 1) rfl) rfl ?_
  refine r_getI hk (k := 5) (fsX3 X) cbX3 (by decide) fl_X3_179 (in_main 0 (by decide)) (fun _ => rfl) (fun _ _ => rfl) hF (dtX3_undo_0 1 (1, .getfield 179, 3) rfl) (fun v1 hF => ?_)
  refine r_if_gt hk 17 hF (dtX3_undo_0 2 (4, .ifCond .gt 13, 3) rfl) (by decide) (fun hF => ?_) (fun hF => ?_)
  · refine r_aload_n hk 0 (dtX3_undo_0 8 (17, .aload_n 0, 1) rfl) rfl ?_
    refine r_dup hk (dtX3_undo_0 9 (18, .dup, 1) rfl) rfl ?_
    refine r_getI hk (k := 5) (fsX3 X) cbX3 (by decide) fl_X3_179 (in_main 0 (by decide)) (fun _ => rfl) (fun _ _ => rfl) hF (dtX3_undo_0 10 (19, .getfield 179, 3) rfl) (fun v2 hF => ?_)
    refine r_iconst (v := 1) hk (dtX3_undo_0 11 (22, .iconst 1, 1) rfl) (by decide) ?_
    refine r_isub hk hF (dtX3_undo_0 12 (23, .isub, 1) rfl) (fun v3 hF => ?_)
    refine r_putI hk (k := 5) (fsX3 X) cbX3 (by decide) fl_X3_179 (in_main 0 (by decide)) (fun _ => rfl) rfl rfl (fun _ _ _ => rfl) (fun _ _ => (by decide : 5 < 7)) hF (dtX3_undo_0 13 (24, .putfield 179, 3) rfl) (fun m4 hF => ?_)
    refine r_aload_n hk 0 (dtX3_undo_0 14 (27, .aload_n 0, 1) rfl) rfl ?_
    refine r_getR hk (k := 0) (fsX3 X) cbX3 (by decide) fl_X3_11 (in_main 0 (by decide)) (fun _ => rfl) (fun _ _ => rfl) (dtX3_undo_0 15 (28, .getfield 11, 3) rfl) ?_
    refine r_aload_n hk 0 (dtX3_undo_0 16 (31, .aload_n 0, 1) rfl) rfl ?_
    refine r_getI hk (k := 5) (fsX3 X) cbX3 (by decide) fl_X3_179 (in_main 0 (by decide)) (fun _ => rfl) (fun _ _ => rfl) hF (dtX3_undo_0 17 (32, .getfield 179, 3) rfl) (fun v5 hF => ?_)
    refine r_aldS hk hF (dtX3_undo_0 18 (35, .aaload, 1) rfl) (fun q6 hq6 hF => ?_)
    refine r_astore_n hk [(1, .ref (xad X (1, q6, 0, 0))), (0, .ref (xad X (0, 0, 0, 0)))] (dtX3_undo_0 19 (36, .astore_n 1, 1) rfl) (by decide) rfl ?_
    refine r_aload_n hk 1 (dtX3_undo_0 20 (37, .aload_n 0, 1) rfl) rfl ?_
    refine r_getR hk (k := 0) (fsX3 X) cbX3 (by decide) fl_X3_11 (in_main 0 (by decide)) (fun _ => rfl) (fun _ _ => rfl) (dtX3_undo_0 21 (38, .getfield 11, 3) rfl) ?_
    refine r_aload_n hk 1 (dtX3_undo_0 22 (41, .aload_n 0, 1) rfl) rfl ?_
    refine r_getI hk (k := 5) (fsX3 X) cbX3 (by decide) fl_X3_179 (in_main 0 (by decide)) (fun _ => rfl) (fun _ _ => rfl) hF (dtX3_undo_0 23 (42, .getfield 179, 3) rfl) (fun v7 hF => ?_)
    refine r_aload_n hk 1 (dtX3_undo_0 24 (45, .aload_n 0, 1) rfl) rfl ?_
    refine r_getS hk fl_X3_30 hF (dtX3_undo_0 25 (46, .getfield 30, 3) rfl) (fun q8 hq8 hF => ?_)
    refine r_aastS hk hq8 hF (dtX3_undo_0 26 (49, .aastore, 1) rfl) (fun m9 hF => ?_)
    refine r_aload_n hk 1 (dtX3_undo_0 27 (50, .aload_n 0, 1) rfl) rfl ?_
    refine r_aload_n hk 0 (dtX3_undo_0 28 (51, .aload_n 1, 1) rfl) rfl ?_
    refine r_putS hk fl_X3_30 hF (dtX3_undo_0 29 (52, .putfield 30, 3) rfl) (fun m10 hF => ?_)
    refine r_aload_n hk 1 (dtX3_undo_0 30 (55, .aload_n 0, 1) rfl) rfl ?_
    refine r_getI hk (k := 5) (fsX3 X) cbX3 (by decide) fl_X3_179 (in_main 0 (by decide)) (fun _ => rfl) (fun _ _ => rfl) hF (dtX3_undo_0 31 (56, .getfield 179, 3) rfl) (fun v11 hF => ?_)
    cases Option.some.inj hF
    exact hR v11 rfl _ _ (dtX3_undo_0 32 (59, .ireturn, 1) rfl)
  · cases Option.some.inj hF
    exact (hX 1 rfl).2.2.1 _ _ _ _ _ _ _ th_X3_148_152 th_X3_148_152_g (hk.2.2.2.2.2.1.2.2.2.2.2.1) (by decide) (Nat.le_of_ble_eq_true rfl) (dtX3_undo_0 3 (7, .new 148, 3) rfl) (dtX3_undo_0 4 (10, .dup, 1) rfl) (dtX3_undo_0 5 (11, .ldc 182, 2) rfl) (dtX3_undo_0 6 (13, .invokespecial 152, 3) rfl) (dtX3_undo_0 7 (16, .athrow, 1) rfl)
