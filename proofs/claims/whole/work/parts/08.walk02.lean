/-! the walks (written by dec.py) -/
set_option maxHeartbeats 4000000 in
set_option maxRecDepth 100000 in
theorem c_X3_bestLetter (l : Launch) (hlf : l.stackTraces = false) (X : XW)  (p1 : Int32) (m0 : Mem) (rv : Int32) (hF : F_X3_bestLetter p1 m0 = some rv) : MX X l yX3_bestLetter cX3_bestLetter 9 (some .int) 3 [.ref (xad X (0, 0, 0, 0)), .int p1] m0 (QI X rv m0) := by
  refine startI hlf (by decide +kernel) rfl [(0, .ref (xad X (0, 0, 0, 0))), (1, .int p1)] rfl (Nat.le_of_ble_eq_true rfl) (fun K hk hR => ?_)
  unfold F_X3_bestLetter at hF
  refine r_aload_n hk 0 (dtX3_bestLetter_0 0 (0, .aload_n 0, 1) rfl) rfl ?_
  refine r_getS hk fl_X3_30 hF (dtX3_bestLetter_0 1 (1, .getfield 30, 3) rfl) (fun q1 hq1 hF => ?_)
  refine r_getR hk (k := 0) (fsX1 X q1) cbX1 (by decide) fl_X3_49 (in_st q1 hq1 0 (by decide)) (fun _ => rfl) (fun _ _ => rfl) (dtX3_bestLetter_0 2 (4, .getfield 49, 3) rfl) ?_
  refine r_iload_n hk 1 (dtX3_bestLetter_0 3 (7, .iload_n 1, 1) rfl) rfl ?_
  refine r_aldT hk hq1 hF (dtX3_bestLetter_0 4 (8, .aaload, 1) rfl) (fun q2 hq2 hF => ?_)
  refine r_astore_n hk [(2, .ref (xad X (2, q1, q2, 0))), (0, .ref (xad X (0, 0, 0, 0))), (1, .int p1)] (dtX3_bestLetter_0 5 (9, .astore_n 2, 1) rfl) (by decide) rfl ?_
  refine r_iconst (v := (-1)) hk (dtX3_bestLetter_0 6 (10, .iconst (-1), 1) rfl) (by decide) ?_
  refine r_istore_n hk [(3, .int (-1)), (2, .ref (xad X (2, q1, q2, 0))), (0, .ref (xad X (0, 0, 0, 0))), (1, .int p1)] (dtX3_bestLetter_0 7 (11, .istore_n 3, 1) rfl) (by decide) rfl ?_
  refine r_aload_n hk 2 (dtX3_bestLetter_0 8 (12, .aload_n 0, 1) rfl) rfl ?_
  refine r_iload_n hk 3 (dtX3_bestLetter_0 9 (13, .iload_n 1, 1) rfl) rfl ?_
  refine r_aload_n hk 1 (dtX3_bestLetter_0 10 (14, .aload_n 2, 1) rfl) rfl ?_
  refine r_getI hk (k := 5) (fsX2 X q1 q2) cbX2 (by decide) fl_X3_106 (in_tn q1 hq1 q2 hq2 0 (by decide)) (fun _ => rfl) (fun _ _ => rfl) hF (dtX3_bestLetter_0 11 (15, .getfield 106, 3) rfl) (fun v3 hF => ?_)
  refine r_iconst (v := (-1)) hk (dtX3_bestLetter_0 12 (18, .iconst (-1), 1) rfl) (by decide) ?_
  refine r_callI hF (fun v4 h H locs ls hH hS hl => run_V (y := yX3_rowsToLookAt) hk (in_main 0 (by decide)) rfl rfl (c_X3_rowsToLookAt (kl K) hk.2.2.2.2.2.2.2.2.2.2.2 X  p1 v3 (-1) m0 v4 h) lk_X3_172 me_X3_rowsToLookAt yf_X3_rowsToLookAt (by decide) (by decide) rfl (Nat.le_of_ble_eq_true rfl) rfl (dtX3_bestLetter_0 13 (19, .invokevirtual 172, 3) rfl) hH hS hl) (fun v4 hF => ?_)
  refine r_istore hk [(4, .int v4), (3, .int (-1)), (2, .ref (xad X (2, q1, q2, 0))), (0, .ref (xad X (0, 0, 0, 0))), (1, .int p1)] (dtX3_bestLetter_0 14 (22, .istore 4, 2) rfl) (by decide) rfl ?_
  refine r_iconst (v := 0) hk (dtX3_bestLetter_0 15 (24, .iconst 0, 1) rfl) (by decide) ?_
  refine r_istore hk [(5, .int 0), (4, .int v4), (3, .int (-1)), (2, .ref (xad X (2, q1, q2, 0))), (0, .ref (xad X (0, 0, 0, 0))), (1, .int p1)] (dtX3_bestLetter_0 16 (25, .istore 5, 2) rfl) (by decide) rfl ?_
  have e123_6 : ∀ (v5 : Int32), C_X3_bestLetter_123 v5 = some rv → G X K 123 [(3, .int v5)] [] m0 := by
    intro v5 hF
    unfold C_X3_bestLetter_123 at hF
    refine r_iload_n hk 0 (dtX3_bestLetter_0 63 (123, .iload_n 3, 1) rfl) rfl ?_
    cases Option.some.inj hF
    exact hR _ _ (dtX3_bestLetter_1 0 (124, .ireturn, 1) rfl)
  have l11 : ∀ (n11 : Nat) (v7 : Int32) (v8 : Int32) (v9 : Int32), L_X3_bestLetter_27 p1 m0 q1 q2 n11 v7 v8 v9 = some rv → G X K 27 [(0, .ref (xad X (0, 0, 0, 0))), (1, .int p1), (2, .ref (xad X (2, q1, q2, 0))), (3, .int v7), (4, .int v8), (5, .int v9)] [] m0 := by
    intro n11
    induction n11 with
    | zero => intro v7 v8 v9 hF; exact nomatch (show (none : Option Int32) = some rv from hF)
    | succ n11 ih11 =>
      intro v7 v8 v9 hF
      rw [L_X3_bestLetter_27] at hF
      refine r_iload hk 5 (dtX3_bestLetter_0 17 (27, .iload 5, 2) rfl) rfl ?_
      refine r_aload_n hk 0 (dtX3_bestLetter_0 18 (29, .aload_n 0, 1) rfl) rfl ?_
      refine r_getR hk (k := 2) (fsX3 X) cbX3 (by decide) fl_X3_22 (in_main 0 (by decide)) (fun _ => rfl) (fun _ _ => rfl) (dtX3_bestLetter_0 19 (30, .getfield 22, 3) rfl) ?_
      refine r_getI hk (k := 3) (fsX0 X) cbX0 (by decide) fl_X3_287 (in_main 3 (by decide)) (fun _ => rfl) (fun _ _ => rfl) hF (dtX3_bestLetter_0 20 (33, .getfield 287, 3) rfl) (fun v12 hF => ?_)
      refine r_icmp_ge hk 123 hF (dtX3_bestLetter_0 21 (36, .if_icmp .ge 87, 3) rfl) (by decide) (fun hF => ?_) (fun hF => ?_)
      · exact r_sub hk [3] rfl (e123_6 v7 hF)
      · refine r_aload_n hk 0 (dtX3_bestLetter_0 22 (39, .aload_n 0, 1) rfl) rfl ?_
        refine r_getR hk (k := 2) (fsX3 X) cbX3 (by decide) fl_X3_22 (in_main 0 (by decide)) (fun _ => rfl) (fun _ _ => rfl) (dtX3_bestLetter_0 23 (40, .getfield 22, 3) rfl) ?_
        refine r_getR hk (k := 0) (fsX0 X) cbX0 (by decide) fl_X3_290 (in_main 3 (by decide)) (fun _ => rfl) (fun _ _ => rfl) (dtX3_bestLetter_0 24 (43, .getfield 290, 3) rfl) ?_
        refine r_iload hk 5 (dtX3_bestLetter_0 25 (46, .iload 5, 2) rfl) rfl ?_
        refine r_iald hk (in_main 5 (by decide)) (fun _ => rfl) hF (dtX3_bestLetter_0 26 (48, .iaload, 1) rfl) (fun v13 hF => ?_)
        refine r_istore hk [(6, .int v13), (0, .ref (xad X (0, 0, 0, 0))), (1, .int p1), (2, .ref (xad X (2, q1, q2, 0))), (3, .int v7), (4, .int v8), (5, .int v9)] (dtX3_bestLetter_0 27 (49, .istore 6, 2) rfl) (by decide) rfl ?_
        refine r_aload_n hk 3 (dtX3_bestLetter_0 28 (51, .aload_n 2, 1) rfl) rfl ?_
        refine r_iload hk 0 (dtX3_bestLetter_0 29 (52, .iload 6, 2) rfl) rfl ?_
        refine r_callI hF (fun v14 h H locs ls hH hS hl => run_V (y := yX2_columnOf) hk (in_tn q1 hq1 q2 hq2 0 (by decide)) rfl rfl (c_X2_columnOf (kl K) hk.2.2.2.2.2.2.2.2.2.2.2 X q1 hq1 q2 hq2 v13 m0 v14 h) lk_X3_67 me_X2_columnOf yf_X2_columnOf (by decide) (by decide) rfl (Nat.le_of_ble_eq_true rfl) rfl (dtX3_bestLetter_0 30 (54, .invokevirtual 67, 3) rfl) hH hS hl) (fun v14 hF => ?_)
        refine r_istore hk [(7, .int v14), (6, .int v13), (0, .ref (xad X (0, 0, 0, 0))), (1, .int p1), (2, .ref (xad X (2, q1, q2, 0))), (3, .int v7), (4, .int v8), (5, .int v9)] (dtX3_bestLetter_0 31 (57, .istore 7, 2) rfl) (by decide) rfl ?_
        refine r_aload_n hk 2 (dtX3_bestLetter_0 32 (59, .aload_n 0, 1) rfl) rfl ?_
        refine r_getR hk (k := 2) (fsX3 X) cbX3 (by decide) fl_X3_22 (in_main 0 (by decide)) (fun _ => rfl) (fun _ _ => rfl) (dtX3_bestLetter_0 33 (60, .getfield 22, 3) rfl) ?_
        refine r_getR hk (k := 1) (fsX0 X) cbX0 (by decide) fl_X3_298 (in_main 3 (by decide)) (fun _ => rfl) (fun _ _ => rfl) (dtX3_bestLetter_0 34 (63, .getfield 298, 3) rfl) ?_
        refine r_iload hk 7 (dtX3_bestLetter_0 35 (66, .iload 5, 2) rfl) rfl ?_
        refine r_iald hk (in_main 6 (by decide)) (fun _ => rfl) hF (dtX3_bestLetter_0 36 (68, .iaload, 1) rfl) (fun v15 hF => ?_)
        refine r_bipush (v := 61) hk (dtX3_bestLetter_0 37 (69, .bipush 61, 2) rfl) (by decide) ?_
        have j117_18 : ∀ (v16 : Int32) (v17 : Int32), (J_X3_bestLetter_117 v9 (fun w0 w1 w2 => L_X3_bestLetter_27 p1 m0 q1 q2 n11 w0 w1 w2)) v16 v17 = some rv → G X K 117 [(0, .ref (xad X (0, 0, 0, 0))), (1, .int p1), (2, .ref (xad X (2, q1, q2, 0))), (3, .int v16), (4, .int v17), (5, .int v9)] [] m0 := by
          intro v16 v17 hF
          unfold J_X3_bestLetter_117 at hF
          refine r_iinc hk 1 5 (fun v19 => [(5, .int v19), (0, .ref (xad X (0, 0, 0, 0))), (1, .int p1), (2, .ref (xad X (2, q1, q2, 0))), (3, .int v16), (4, .int v17)]) hF (dtX3_bestLetter_0 61 (117, .iinc 5 1, 3) rfl) rfl (by decide) (by decide) (fun _ => rfl) (fun v19 hF => ?_)
          refine r_goto hk 27 (dtX3_bestLetter_0 62 (120, .goto (-93), 3) rfl) (by decide) ?_
          exact r_sub hk [1, 2, 3, 4, 5, 0] rfl (ih11 v16 v17 v19 hF)
        refine r_icmp_ne hk 117 hF (dtX3_bestLetter_0 38 (71, .if_icmp .ne 46, 3) rfl) (by decide) (fun hF => ?_) (fun hF => ?_)
        · exact r_sub hk [2, 3, 4, 5, 6, 7] rfl (j117_18 v7 v8 hF)
        · refine r_iload hk 0 (dtX3_bestLetter_0 39 (74, .iload 7, 2) rfl) rfl ?_
          refine r_iconst (v := (-1)) hk (dtX3_bestLetter_0 40 (76, .iconst (-1), 1) rfl) (by decide) ?_
          refine r_icmp_eq hk 117 hF (dtX3_bestLetter_0 41 (77, .if_icmp .eq 40, 3) rfl) (by decide) (fun hF => ?_) (fun hF => ?_)
          · exact r_sub hk [2, 3, 4, 5, 6, 7] rfl (j117_18 v7 v8 hF)
          · refine r_aload_n hk 4 (dtX3_bestLetter_0 42 (80, .aload_n 2, 1) rfl) rfl ?_
            refine r_getR hk (k := 2) (fsX2 X q1 q2) cbX2 (by decide) fl_X3_92 (in_tn q1 hq1 q2 hq2 0 (by decide)) (fun _ => rfl) (fun _ _ => rfl) (dtX3_bestLetter_0 43 (81, .getfield 92, 3) rfl) ?_
            refine r_iload hk 0 (dtX3_bestLetter_0 44 (84, .iload 7, 2) rfl) rfl ?_
            refine r_zald hk (in_tn q1 hq1 q2 hq2 3 (by decide)) (fun _ => rfl) hF (dtX3_bestLetter_0 45 (86, .baload, 1) rfl) (fun v20 hF => ?_)
            refine r_if_ne hk 117 hF (dtX3_bestLetter_0 46 (87, .ifCond .ne 30, 3) rfl) (by decide) (fun hF => ?_) (fun hF => ?_)
            · exact r_sub hk [2, 3, 4, 5, 6, 7] rfl (j117_18 v7 v8 hF)
            · refine r_aload_n hk 2 (dtX3_bestLetter_0 47 (90, .aload_n 0, 1) rfl) rfl ?_
              refine r_iload_n hk 3 (dtX3_bestLetter_0 48 (91, .iload_n 1, 1) rfl) rfl ?_
              refine r_aload_n hk 4 (dtX3_bestLetter_0 49 (92, .aload_n 2, 1) rfl) rfl ?_
              refine r_getI hk (k := 5) (fsX2 X q1 q2) cbX2 (by decide) fl_X3_106 (in_tn q1 hq1 q2 hq2 0 (by decide)) (fun _ => rfl) (fun _ _ => rfl) hF (dtX3_bestLetter_0 50 (93, .getfield 106, 3) rfl) (fun v21 hF => ?_)
              refine r_iload hk 1 (dtX3_bestLetter_0 51 (96, .iload 6, 2) rfl) rfl ?_
              refine r_callI hF (fun v22 h H locs ls hH hS hl => run_V (y := yX3_rowsToLookAt) hk (in_main 0 (by decide)) rfl rfl (c_X3_rowsToLookAt (kl K) hk.2.2.2.2.2.2.2.2.2.2.2 X  p1 v21 v13 m0 v22 h) lk_X3_172 me_X3_rowsToLookAt yf_X3_rowsToLookAt (by decide) (by decide) rfl (Nat.le_of_ble_eq_true rfl) rfl (dtX3_bestLetter_0 52 (98, .invokevirtual 172, 3) rfl) hH hS hl) (fun v22 hF => ?_)
              refine r_istore hk [(8, .int v22), (7, .int v14), (6, .int v13), (0, .ref (xad X (0, 0, 0, 0))), (1, .int p1), (2, .ref (xad X (2, q1, q2, 0))), (3, .int v7), (4, .int v8), (5, .int v9)] (dtX3_bestLetter_0 53 (101, .istore 8, 2) rfl) (by decide) rfl ?_
              refine r_iload hk 0 (dtX3_bestLetter_0 54 (103, .iload 8, 2) rfl) rfl ?_
              refine r_iload hk 7 (dtX3_bestLetter_0 55 (105, .iload 4, 2) rfl) rfl ?_
              refine r_icmp_ge hk 117 hF (dtX3_bestLetter_0 56 (107, .if_icmp .ge 10, 3) rfl) (by decide) (fun hF => ?_) (fun hF => ?_)
              · exact r_sub hk [3, 4, 5, 6, 7, 8] rfl (j117_18 v7 v8 hF)
              · refine r_iload hk 0 (dtX3_bestLetter_0 57 (110, .iload 8, 2) rfl) rfl ?_
                refine r_istore hk [(4, .int v22), (8, .int v22), (7, .int v14), (6, .int v13), (0, .ref (xad X (0, 0, 0, 0))), (1, .int p1), (2, .ref (xad X (2, q1, q2, 0))), (3, .int v7), (5, .int v9)] (dtX3_bestLetter_0 58 (112, .istore 4, 2) rfl) (by decide) rfl ?_
                refine r_iload hk 3 (dtX3_bestLetter_0 59 (114, .iload 6, 2) rfl) rfl ?_
                refine r_istore_n hk [(3, .int v13), (4, .int v22), (8, .int v22), (7, .int v14), (6, .int v13), (0, .ref (xad X (0, 0, 0, 0))), (1, .int p1), (2, .ref (xad X (2, q1, q2, 0))), (5, .int v9)] (dtX3_bestLetter_0 60 (116, .istore_n 3, 1) rfl) (by decide) rfl ?_
                exact r_sub hk [5, 6, 7, 0, 1, 8] rfl (j117_18 v13 v22 hF)
  exact r_sub hk [4, 5, 3, 2, 1, 0] rfl (l11 fu (-1) v4 0 hF)
set_option maxHeartbeats 4000000 in
set_option maxRecDepth 100000 in
theorem c_X3_mixAnswers (l : Launch) (hlf : l.stackTraces = false) (X : XW)  (p1 : Int64) (p2 : Int32) (p3 : Int32) (m0 : Mem) (rv : Int64) (mE : Mem) (hF : F_X3_mixAnswers p1 p2 p3 m0 = some (rv, mE)) : MX X l yX3_mixAnswers cX3_mixAnswers 10 (some .long) 4 [.ref (xad X (0, 0, 0, 0)), .long p1, .int p2, .int p3] m0 (QL X rv mE) := by
  refine startL hlf (by decide +kernel) rfl [(0, .ref (xad X (0, 0, 0, 0))), (1, .long p1), (3, .int p2), (4, .int p3)] rfl (Nat.le_of_ble_eq_true rfl) (fun K hk hR => ?_)
  unfold F_X3_mixAnswers at hF
  refine r_lload_n hk 1 (dtX3_mixAnswers_0 0 (0, .lload_n 1, 1) rfl) rfl ?_
  refine r_lstore hk [(5, .long p1), (0, .ref (xad X (0, 0, 0, 0))), (1, .long p1), (3, .int p2), (4, .int p3)] (dtX3_mixAnswers_0 1 (1, .lstore 5, 2) rfl) (by decide) rfl ?_
  refine r_aload_n hk 1 (dtX3_mixAnswers_0 2 (3, .aload_n 0, 1) rfl) rfl ?_
  refine r_getS hk fl_X3_30 hF (dtX3_mixAnswers_0 3 (4, .getfield 30, 3) rfl) (fun q1 hq1 hF => ?_)
  refine r_getR hk (k := 0) (fsX1 X q1) cbX1 (by decide) fl_X3_49 (in_st q1 hq1 0 (by decide)) (fun _ => rfl) (fun _ _ => rfl) (dtX3_mixAnswers_0 4 (7, .getfield 49, 3) rfl) ?_
  refine r_iload_n hk 3 (dtX3_mixAnswers_0 5 (10, .iload_n 3, 1) rfl) rfl ?_
  refine r_aldT hk hq1 hF (dtX3_mixAnswers_0 6 (11, .aaload, 1) rfl) (fun q2 hq2 hF => ?_)
  refine r_astore hk [(7, .ref (xad X (2, q1, q2, 0))), (5, .long p1), (0, .ref (xad X (0, 0, 0, 0))), (1, .long p1), (3, .int p2), (4, .int p3)] (dtX3_mixAnswers_0 7 (12, .astore 7, 2) rfl) (by decide) rfl ?_
  refine r_iload hk 5 (dtX3_mixAnswers_0 8 (14, .iload 4, 2) rfl) rfl ?_
  have j28_5 : ∀ (v3 : Int32) (m4 : Mem), (J_X3_mixAnswers_28 p1 p2 p3 q1 q2) v3 m4 = some (rv, mE) → G X K 28 [(0, .ref (xad X (0, 0, 0, 0))), (3, .int p2), (4, .int p3), (5, .long p1), (7, .ref (xad X (2, q1, q2, 0)))] [.int v3] m4 := by
    intro v3 m4 hF
    unfold J_X3_mixAnswers_28 at hF
    refine r_istore hk [(8, .int v3), (0, .ref (xad X (0, 0, 0, 0))), (3, .int p2), (4, .int p3), (5, .long p1), (7, .ref (xad X (2, q1, q2, 0)))] (dtX3_mixAnswers_0 15 (28, .istore 8, 2) rfl) (by decide) rfl ?_
    refine r_iconst (v := 0) hk (dtX3_mixAnswers_0 16 (30, .iconst 0, 1) rfl) (by decide) ?_
    refine r_istore hk [(9, .int 0), (8, .int v3), (0, .ref (xad X (0, 0, 0, 0))), (3, .int p2), (4, .int p3), (5, .long p1), (7, .ref (xad X (2, q1, q2, 0)))] (dtX3_mixAnswers_0 17 (31, .istore 9, 2) rfl) (by decide) rfl ?_
    have e62_7 : ∀ (v6 : Int64), (C_X3_mixAnswers_62 p2 p3 q1 q2 v3 m4) v6 = some (rv, mE) → G X K 62 [(0, .ref (xad X (0, 0, 0, 0))), (3, .int p2), (4, .int p3), (5, .long v6), (7, .ref (xad X (2, q1, q2, 0))), (8, .int v3)] [] m4 := by
      intro v6 hF
      unfold C_X3_mixAnswers_62 at hF
      refine r_aload_n hk 0 (dtX3_mixAnswers_0 31 (62, .aload_n 0, 1) rfl) rfl ?_
      refine r_iload hk 5 (dtX3_mixAnswers_0 32 (63, .iload 8, 2) rfl) rfl ?_
      refine r_aload hk 4 (dtX3_mixAnswers_0 33 (65, .aload 7, 2) rfl) rfl ?_
      refine r_iconst (v := 0) hk (dtX3_mixAnswers_0 34 (67, .iconst 0, 1) rfl) (by decide) ?_
      refine r_callI hF (fun v8 h H locs ls hH hS hl => run_V (y := yX2_columnOf) hk (in_tn q1 hq1 q2 hq2 0 (by decide)) rfl rfl (c_X2_columnOf (kl K) hk.2.2.2.2.2.2.2.2.2.2.2 X q1 hq1 q2 hq2 0 m4 v8 h) lk_X3_67 me_X2_columnOf yf_X2_columnOf (by decide) (by decide) rfl (Nat.le_of_ble_eq_true rfl) rfl (dtX3_mixAnswers_0 35 (68, .invokevirtual 67, 3) rfl) hH hS hl) (fun v8 hF => ?_)
      refine r_callVm hF (fun w m9 h H locs ls hH hS hl => run_V (y := yX3_sortAnswers) hk (in_main 0 (by decide)) rfl rfl (c_X3_sortAnswers (kl K) hk.2.2.2.2.2.2.2.2.2.2.2 X  v3 v8 m4 w m9 h) lk_X3_197 me_X3_sortAnswers yf_X3_sortAnswers (by decide) (by decide) rfl (Nat.le_of_ble_eq_true rfl) rfl (dtX3_mixAnswers_0 36 (71, .invokevirtual 197, 3) rfl) hH hS hl) (fun _ m9 hF => ?_)
      refine r_iconst (v := 0) hk (dtX3_mixAnswers_0 37 (74, .iconst 0, 1) rfl) (by decide) ?_
      refine r_istore hk [(9, .int 0), (0, .ref (xad X (0, 0, 0, 0))), (3, .int p2), (4, .int p3), (5, .long v6), (7, .ref (xad X (2, q1, q2, 0))), (8, .int v3)] (dtX3_mixAnswers_0 38 (75, .istore 9, 2) rfl) (by decide) rfl ?_
      have e105_11 : ∀ (v10 : Int64), (C_X3_mixAnswers_105 p2 p3 q1 q2 m9) v10 = some (rv, mE) → G X K 105 [(0, .ref (xad X (0, 0, 0, 0))), (3, .int p2), (4, .int p3), (5, .long v10), (7, .ref (xad X (2, q1, q2, 0)))] [] m9 := by
        intro v10 hF
        unfold C_X3_mixAnswers_105 at hF
        refine r_lload hk 3 (dtX3_mixAnswers_0 52 (105, .lload 5, 2) rfl) rfl ?_
        refine r_iload hk 2 (dtX3_mixAnswers_0 53 (107, .iload 4, 2) rfl) rfl ?_
        have j130_13 : ∀ (v12 : Int64), (J_X3_mixAnswers_130 p2 p3 m9 v10) v12 = some (rv, mE) → G X K 130 [(0, .ref (xad X (0, 0, 0, 0))), (3, .int p2), (4, .int p3)] [.long v12, .long v10] m9 := by
          intro v12 hF
          unfold J_X3_mixAnswers_130 at hF
          refine r_callL hF (fun v14 h H locs ls hH hS hl => run_S hk (c_X3_mix (kl K) hk.2.2.2.2.2.2.2.2.2.2.2 X  v10 v12 m9 v14 h) lk_X3_227 me_X3_mix yf_X3_mix (by decide) (by decide) rfl (Nat.le_of_ble_eq_true rfl) rfl (dtX3_mixAnswers_1 0 (130, .invokestatic 227, 3) rfl) hH hS hl) (fun v14 hF => ?_)
          refine r_lstore hk [(5, .long v14), (0, .ref (xad X (0, 0, 0, 0))), (3, .int p2), (4, .int p3)] (dtX3_mixAnswers_1 1 (133, .lstore 5, 2) rfl) (by decide) rfl ?_
          refine r_lload hk 0 (dtX3_mixAnswers_1 2 (135, .lload 5, 2) rfl) rfl ?_
          refine r_iload hk 3 (dtX3_mixAnswers_1 3 (137, .iload 4, 2) rfl) rfl ?_
          have j156_16 : ∀ (v15 : Int64), (J_X3_mixAnswers_156 p2 p3 m9 v14) v15 = some (rv, mE) → G X K 156 [(0, .ref (xad X (0, 0, 0, 0))), (3, .int p2), (4, .int p3)] [.long v15, .long v14] m9 := by
            intro v15 hF
            unfold J_X3_mixAnswers_156 at hF
            refine r_callL hF (fun v17 h H locs ls hH hS hl => run_S hk (c_X3_mix (kl K) hk.2.2.2.2.2.2.2.2.2.2.2 X  v14 v15 m9 v17 h) lk_X3_227 me_X3_mix yf_X3_mix (by decide) (by decide) rfl (Nat.le_of_ble_eq_true rfl) rfl (dtX3_mixAnswers_1 13 (156, .invokestatic 227, 3) rfl) hH hS hl) (fun v17 hF => ?_)
            refine r_lstore hk [(5, .long v17), (0, .ref (xad X (0, 0, 0, 0))), (3, .int p2), (4, .int p3)] (dtX3_mixAnswers_1 14 (159, .lstore 5, 2) rfl) (by decide) rfl ?_
            refine r_lload hk 0 (dtX3_mixAnswers_1 15 (161, .lload 5, 2) rfl) rfl ?_
            refine r_iload hk 3 (dtX3_mixAnswers_1 16 (163, .iload 4, 2) rfl) rfl ?_
            have j180_19 : ∀ (v18 : Int64), (J_X3_mixAnswers_180 m9 v17) v18 = some (rv, mE) → G X K 180 [] [.long v18, .long v17] m9 := by
              intro v18 hF
              unfold J_X3_mixAnswers_180 at hF
              refine r_callL hF (fun v20 h H locs ls hH hS hl => run_S hk (c_X3_mix (kl K) hk.2.2.2.2.2.2.2.2.2.2.2 X  v17 v18 m9 v20 h) lk_X3_227 me_X3_mix yf_X3_mix (by decide) (by decide) rfl (Nat.le_of_ble_eq_true rfl) rfl (dtX3_mixAnswers_1 24 (180, .invokestatic 227, 3) rfl) hH hS hl) (fun v20 hF => ?_)
              cases Option.some.inj hF
              exact hR _ _ (dtX3_mixAnswers_1 25 (183, .lreturn, 1) rfl)
            refine r_if_eq hk 177 hF (dtX3_mixAnswers_1 17 (165, .ifCond .eq 12, 3) rfl) (by decide) (fun hF => ?_) (fun hF => ?_)
            · refine r_ldc2 hk cn_X3_259 (dtX3_mixAnswers_1 23 (177, .ldc2_w 259, 3) rfl) ?_
              exact r_sub hk [] rfl (j180_19 (-1) hF)
            · refine r_aload_n hk 1 (dtX3_mixAnswers_1 18 (168, .aload_n 0, 1) rfl) rfl ?_
              refine r_iload_n hk 2 (dtX3_mixAnswers_1 19 (169, .iload_n 3, 1) rfl) rfl ?_
              refine r_callI hF (fun v21 h H locs ls hH hS hl => run_V (y := yX3_bestLetter) hk (in_main 0 (by decide)) rfl rfl (c_X3_bestLetter (kl K) hk.2.2.2.2.2.2.2.2.2.2.2 X  p2 m9 v21 h) lk_X3_219 me_X3_bestLetter yf_X3_bestLetter (by decide) (by decide) rfl (Nat.le_of_ble_eq_true rfl) rfl (dtX3_mixAnswers_1 20 (170, .invokevirtual 219, 3) rfl) hH hS hl) (fun v21 hF => ?_)
              refine r_i2l hk hF (dtX3_mixAnswers_1 21 (173, .i2l, 1) rfl) (fun v22 hF => ?_)
              refine r_goto hk 180 (dtX3_mixAnswers_1 22 (174, .goto 6, 3) rfl) (by decide) ?_
              exact r_sub hk [] rfl (j180_19 v22 hF)
          refine r_if_eq hk 153 hF (dtX3_mixAnswers_1 4 (139, .ifCond .eq 14, 3) rfl) (by decide) (fun hF => ?_) (fun hF => ?_)
          · refine r_ldc2 hk cn_X3_259 (dtX3_mixAnswers_1 12 (153, .ldc2_w 259, 3) rfl) ?_
            exact r_sub hk [1, 2, 3] rfl (j156_16 (-1) hF)
          · refine r_aload_n hk 1 (dtX3_mixAnswers_1 5 (142, .aload_n 0, 1) rfl) rfl ?_
            refine r_iload_n hk 2 (dtX3_mixAnswers_1 6 (143, .iload_n 3, 1) rfl) rfl ?_
            refine r_iconst (v := 1) hk (dtX3_mixAnswers_1 7 (144, .iconst 1, 1) rfl) (by decide) ?_
            refine r_iconst (v := (-1)) hk (dtX3_mixAnswers_1 8 (145, .iconst (-1), 1) rfl) (by decide) ?_
            refine r_callI hF (fun v23 h H locs ls hH hS hl => run_V (y := yX3_rowsToLookAt) hk (in_main 0 (by decide)) rfl rfl (c_X3_rowsToLookAt (kl K) hk.2.2.2.2.2.2.2.2.2.2.2 X  p2 1 (-1) m9 v23 h) lk_X3_172 me_X3_rowsToLookAt yf_X3_rowsToLookAt (by decide) (by decide) rfl (Nat.le_of_ble_eq_true rfl) rfl (dtX3_mixAnswers_1 9 (146, .invokevirtual 172, 3) rfl) hH hS hl) (fun v23 hF => ?_)
            refine r_i2l hk hF (dtX3_mixAnswers_1 10 (149, .i2l, 1) rfl) (fun v24 hF => ?_)
            refine r_goto hk 156 (dtX3_mixAnswers_1 11 (150, .goto 6, 3) rfl) (by decide) ?_
            exact r_sub hk [1, 2, 3] rfl (j156_16 v24 hF)
        refine r_if_eq hk 127 hF (dtX3_mixAnswers_0 54 (109, .ifCond .eq 18, 3) rfl) (by decide) (fun hF => ?_) (fun hF => ?_)
        · refine r_ldc2 hk cn_X3_259 (dtX3_mixAnswers_0 63 (127, .ldc2_w 259, 3) rfl) ?_
          exact r_sub hk [0, 1, 2] rfl (j130_13 (-1) hF)
        · refine r_aload_n hk 0 (dtX3_mixAnswers_0 55 (112, .aload_n 0, 1) rfl) rfl ?_
          refine r_iload_n hk 1 (dtX3_mixAnswers_0 56 (113, .iload_n 3, 1) rfl) rfl ?_
          refine r_aload hk 4 (dtX3_mixAnswers_0 57 (114, .aload 7, 2) rfl) rfl ?_
          refine r_getI hk (k := 5) (fsX2 X q1 q2) cbX2 (by decide) fl_X3_106 (in_tn q1 hq1 q2 hq2 0 (by decide)) (fun _ => rfl) (fun _ _ => rfl) hF (dtX3_mixAnswers_0 58 (116, .getfield 106, 3) rfl) (fun v25 hF => ?_)
          refine r_iconst (v := (-1)) hk (dtX3_mixAnswers_0 59 (119, .iconst (-1), 1) rfl) (by decide) ?_
          refine r_callI hF (fun v26 h H locs ls hH hS hl => run_V (y := yX3_rowsToLookAt) hk (in_main 0 (by decide)) rfl rfl (c_X3_rowsToLookAt (kl K) hk.2.2.2.2.2.2.2.2.2.2.2 X  p2 v25 (-1) m9 v26 h) lk_X3_172 me_X3_rowsToLookAt yf_X3_rowsToLookAt (by decide) (by decide) rfl (Nat.le_of_ble_eq_true rfl) rfl (dtX3_mixAnswers_0 60 (120, .invokevirtual 172, 3) rfl) hH hS hl) (fun v26 hF => ?_)
          refine r_i2l hk hF (dtX3_mixAnswers_0 61 (123, .i2l, 1) rfl) (fun v27 hF => ?_)
          refine r_goto hk 130 (dtX3_mixAnswers_0 62 (124, .goto 6, 3) rfl) (by decide) ?_
          exact r_sub hk [0, 1, 2] rfl (j130_13 v27 hF)
      have l31 : ∀ (n31 : Nat) (v28 : Int64) (v29 : Int32), L_X3_mixAnswers_77 p2 p3 q1 q2 v3 m9 n31 v28 v29 = some (rv, mE) → G X K 77 [(0, .ref (xad X (0, 0, 0, 0))), (3, .int p2), (4, .int p3), (5, .long v28), (7, .ref (xad X (2, q1, q2, 0))), (8, .int v3), (9, .int v29)] [] m9 := by
        intro n31
        induction n31 with
        | zero => intro v28 v29 hF; exact nomatch (show (none : Option (Int64 × Mem)) = some (rv, mE) from hF)
        | succ n31 ih31 =>
          intro v28 v29 hF
          rw [L_X3_mixAnswers_77] at hF
          refine r_iload hk 6 (dtX3_mixAnswers_0 39 (77, .iload 9, 2) rfl) rfl ?_
          refine r_iconst (v := 2) hk (dtX3_mixAnswers_0 40 (79, .iconst 2, 1) rfl) (by decide) ?_
          refine r_icmp_gt hk 105 hF (dtX3_mixAnswers_0 41 (80, .if_icmp .gt 25, 3) rfl) (by decide) (fun hF => ?_) (fun hF => ?_)
          · exact r_sub hk [0, 1, 2, 3, 4] rfl (e105_11 v28 hF)
          · refine r_lload hk 3 (dtX3_mixAnswers_0 42 (83, .lload 5, 2) rfl) rfl ?_
            refine r_aload_n hk 0 (dtX3_mixAnswers_0 43 (85, .aload_n 0, 1) rfl) rfl ?_
            refine r_iload hk 6 (dtX3_mixAnswers_0 44 (86, .iload 9, 2) rfl) rfl ?_
            refine r_iload hk 5 (dtX3_mixAnswers_0 45 (88, .iload 8, 2) rfl) rfl ?_
            refine r_callI hF (fun v32 h H locs ls hH hS hl => run_V (y := yX3_answerAt) hk (in_main 0 (by decide)) rfl rfl (c_X3_answerAt (kl K) hk.2.2.2.2.2.2.2.2.2.2.2 X  v29 v3 m9 v32 h) lk_X3_201 me_X3_answerAt yf_X3_answerAt (by decide) (by decide) rfl (Nat.le_of_ble_eq_true rfl) rfl (dtX3_mixAnswers_0 46 (90, .invokevirtual 201, 3) rfl) hH hS hl) (fun v32 hF => ?_)
            refine r_i2l hk hF (dtX3_mixAnswers_0 47 (93, .i2l, 1) rfl) (fun v33 hF => ?_)
            refine r_callL hF (fun v34 h H locs ls hH hS hl => run_S hk (c_X3_mix (kl K) hk.2.2.2.2.2.2.2.2.2.2.2 X  v28 v33 m9 v34 h) lk_X3_227 me_X3_mix yf_X3_mix (by decide) (by decide) rfl (Nat.le_of_ble_eq_true rfl) rfl (dtX3_mixAnswers_0 48 (94, .invokestatic 227, 3) rfl) hH hS hl) (fun v34 hF => ?_)
            refine r_lstore hk [(5, .long v34), (0, .ref (xad X (0, 0, 0, 0))), (3, .int p2), (4, .int p3), (7, .ref (xad X (2, q1, q2, 0))), (8, .int v3), (9, .int v29)] (dtX3_mixAnswers_0 49 (97, .lstore 5, 2) rfl) (by decide) rfl ?_
            refine r_iinc hk 1 6 (fun v35 => [(9, .int v35), (5, .long v34), (0, .ref (xad X (0, 0, 0, 0))), (3, .int p2), (4, .int p3), (7, .ref (xad X (2, q1, q2, 0))), (8, .int v3)]) hF (dtX3_mixAnswers_0 50 (99, .iinc 9 1, 3) rfl) rfl (by decide) (by decide) (fun _ => rfl) (fun v35 hF => ?_)
            refine r_goto hk 77 (dtX3_mixAnswers_0 51 (102, .goto (-25), 3) rfl) (by decide) ?_
            exact r_sub hk [2, 3, 4, 1, 5, 6, 0] rfl (ih31 v34 v35 hF)
      exact r_sub hk [1, 2, 3, 4, 5, 6, 0] rfl (l31 fu v6 0 hF)
    have l39 : ∀ (n39 : Nat) (v36 : Int64) (v37 : Int32), L_X3_mixAnswers_33 p2 p3 q1 q2 v3 m4 n39 v36 v37 = some (rv, mE) → G X K 33 [(0, .ref (xad X (0, 0, 0, 0))), (3, .int p2), (4, .int p3), (5, .long v36), (7, .ref (xad X (2, q1, q2, 0))), (8, .int v3), (9, .int v37)] [] m4 := by
      intro n39
      induction n39 with
      | zero => intro v36 v37 hF; exact nomatch (show (none : Option (Int64 × Mem)) = some (rv, mE) from hF)
      | succ n39 ih39 =>
        intro v36 v37 hF
        rw [L_X3_mixAnswers_33] at hF
        refine r_iload hk 6 (dtX3_mixAnswers_0 18 (33, .iload 9, 2) rfl) rfl ?_
        refine r_iload hk 5 (dtX3_mixAnswers_0 19 (35, .iload 8, 2) rfl) rfl ?_
        refine r_icmp_ge hk 62 hF (dtX3_mixAnswers_0 20 (37, .if_icmp .ge 25, 3) rfl) (by decide) (fun hF => ?_) (fun hF => ?_)
        · exact r_sub hk [0, 1, 2, 3, 4, 5] rfl (e62_7 v36 hF)
        · refine r_lload hk 3 (dtX3_mixAnswers_0 21 (40, .lload 5, 2) rfl) rfl ?_
          refine r_aload_n hk 0 (dtX3_mixAnswers_0 22 (42, .aload_n 0, 1) rfl) rfl ?_
          refine r_iload hk 6 (dtX3_mixAnswers_0 23 (43, .iload 9, 2) rfl) rfl ?_
          refine r_iload hk 5 (dtX3_mixAnswers_0 24 (45, .iload 8, 2) rfl) rfl ?_
          refine r_callI hF (fun v40 h H locs ls hH hS hl => run_V (y := yX3_answerAt) hk (in_main 0 (by decide)) rfl rfl (c_X3_answerAt (kl K) hk.2.2.2.2.2.2.2.2.2.2.2 X  v37 v3 m4 v40 h) lk_X3_201 me_X3_answerAt yf_X3_answerAt (by decide) (by decide) rfl (Nat.le_of_ble_eq_true rfl) rfl (dtX3_mixAnswers_0 25 (47, .invokevirtual 201, 3) rfl) hH hS hl) (fun v40 hF => ?_)
          refine r_i2l hk hF (dtX3_mixAnswers_0 26 (50, .i2l, 1) rfl) (fun v41 hF => ?_)
          refine r_callL hF (fun v42 h H locs ls hH hS hl => run_S hk (c_X3_mix (kl K) hk.2.2.2.2.2.2.2.2.2.2.2 X  v36 v41 m4 v42 h) lk_X3_227 me_X3_mix yf_X3_mix (by decide) (by decide) rfl (Nat.le_of_ble_eq_true rfl) rfl (dtX3_mixAnswers_0 27 (51, .invokestatic 227, 3) rfl) hH hS hl) (fun v42 hF => ?_)
          refine r_lstore hk [(5, .long v42), (0, .ref (xad X (0, 0, 0, 0))), (3, .int p2), (4, .int p3), (7, .ref (xad X (2, q1, q2, 0))), (8, .int v3), (9, .int v37)] (dtX3_mixAnswers_0 28 (54, .lstore 5, 2) rfl) (by decide) rfl ?_
          refine r_iinc hk 1 6 (fun v43 => [(9, .int v43), (5, .long v42), (0, .ref (xad X (0, 0, 0, 0))), (3, .int p2), (4, .int p3), (7, .ref (xad X (2, q1, q2, 0))), (8, .int v3)]) hF (dtX3_mixAnswers_0 29 (56, .iinc 9 1, 3) rfl) rfl (by decide) (by decide) (fun _ => rfl) (fun v43 hF => ?_)
          refine r_goto hk 33 (dtX3_mixAnswers_0 30 (59, .goto (-26), 3) rfl) (by decide) ?_
          exact r_sub hk [2, 3, 4, 1, 5, 6, 0] rfl (ih39 v42 v43 hF)
    exact r_sub hk [2, 3, 4, 5, 6, 1, 0] rfl (l39 fu p1 0 hF)
  refine r_if_eq hk 27 hF (dtX3_mixAnswers_0 9 (16, .ifCond .eq 11, 3) rfl) (by decide) (fun hF => ?_) (fun hF => ?_)
  · refine r_iconst (v := 0) hk (dtX3_mixAnswers_0 14 (27, .iconst 0, 1) rfl) (by decide) ?_
    exact r_sub hk [2, 4, 5, 1, 0] rfl (j28_5 0 m0 hF)
  · refine r_aload_n hk 2 (dtX3_mixAnswers_0 10 (19, .aload_n 0, 1) rfl) rfl ?_
    refine r_iload_n hk 4 (dtX3_mixAnswers_0 11 (20, .iload_n 3, 1) rfl) rfl ?_
    refine r_callIm hF (fun v44 m45 h H locs ls hH hS hl => run_V (y := yX3_collectAnswers) hk (in_main 0 (by decide)) rfl rfl (c_X3_collectAnswers (kl K) hk.2.2.2.2.2.2.2.2.2.2.2 X  p2 m0 v44 m45 h) lk_X3_163 me_X3_collectAnswers yf_X3_collectAnswers (by decide) (by decide) rfl (Nat.le_of_ble_eq_true rfl) rfl (dtX3_mixAnswers_0 12 (21, .invokevirtual 163, 3) rfl) hH hS hl) (fun v44 m45 hF => ?_)
    refine r_goto hk 28 (dtX3_mixAnswers_0 13 (24, .goto 4, 3) rfl) (by decide) ?_
    exact r_sub hk [2, 4, 5, 1, 0] rfl (j28_5 v44 m45 hF)
set_option maxHeartbeats 4000000 in
set_option maxRecDepth 100000 in
theorem c_X3_bitsOf (l : Launch) (hlf : l.stackTraces = false) (X : XW)  (p1 : UInt64) (m0 : Mem) (rv : Int64) (hF : F_X3_bitsOf p1 m0 = some rv) : MX X l yX3_bitsOf cX3_bitsOf 8 (some .long) 0 [.double p1] m0 (QL X rv m0) := by
  refine startL hlf (by decide +kernel) rfl [(0, .double p1)] rfl (Nat.le_of_ble_eq_true rfl) (fun K hk hR => ?_)
  unfold F_X3_bitsOf at hF
  refine r_dload_n hk 0 (dtX3_bitsOf_0 0 (0, .dload_n 0, 1) rfl) rfl ?_
  refine r_dconst0 hk (dtX3_bitsOf_0 1 (1, .dconst 0, 1) rfl) ?_
  refine r_dcmp hk hF (dtX3_bitsOf_0 2 (2, .dcmp .l, 1) rfl) (fun v1 hF => ?_)
  refine r_if_gt hk 8 hF (dtX3_bitsOf_0 3 (3, .ifCond .gt 5, 3) rfl) (by decide) (fun hF => ?_) (fun hF => ?_)
  · refine r_dload_n hk 0 (dtX3_bitsOf_0 6 (8, .dload_n 0, 1) rfl) rfl ?_
    refine r_dstore_n hk [(2, .double p1), (0, .double p1)] (dtX3_bitsOf_0 7 (9, .dstore_n 2, 1) rfl) (by decide) rfl ?_
    refine r_ldc2 hk cn_X3_261 (dtX3_bitsOf_0 8 (10, .ldc2_w 261, 3) rfl) ?_
    refine r_lstore hk [(4, .long 1023), (2, .double p1), (0, .double p1)] (dtX3_bitsOf_0 9 (13, .lstore 4, 2) rfl) (by decide) rfl ?_
    have e43_4 : ∀ (v2 : UInt64) (v3 : Int64), C_X3_bitsOf_43 v2 v3 = some rv → G X K 43 [(2, .double v2), (4, .long v3)] [] m0 := by
      intro v2 v3 hF
      unfold C_X3_bitsOf_43 at hF
      refine r_dload_n hk 0 (dtX3_bitsOf_0 27 (43, .dload_n 2, 1) rfl) rfl ?_
      refine r_dconst1 hk (dtX3_bitsOf_0 28 (44, .dconst 1, 1) rfl) ?_
      refine r_dsub hk hF (dtX3_bitsOf_0 29 (45, .dsub, 1) rfl) (fun v5 hF => ?_)
      refine r_ldc2d hk cn_X3_265 (dtX3_bitsOf_0 30 (46, .ldc2_w 265, 3) rfl) ?_
      refine r_dmul hk hF (dtX3_bitsOf_0 31 (49, .dmul, 1) rfl) (fun v6 hF => ?_)
      refine r_d2l hk hF (dtX3_bitsOf_0 32 (50, .d2l, 1) rfl) (fun v7 hF => ?_)
      refine r_lstore hk [(6, .long v7), (2, .double v2), (4, .long v3)] (dtX3_bitsOf_0 33 (51, .lstore 6, 2) rfl) (by decide) rfl ?_
      refine r_lload hk 2 (dtX3_bitsOf_0 34 (53, .lload 4, 2) rfl) rfl ?_
      refine r_bipush (v := 52) hk (dtX3_bitsOf_0 35 (55, .bipush 52, 2) rfl) (by decide) ?_
      refine r_lshl hk hF (dtX3_bitsOf_0 36 (57, .lshl, 1) rfl) (fun v8 hF => ?_)
      refine r_lload hk 0 (dtX3_bitsOf_0 37 (58, .lload 6, 2) rfl) rfl ?_
      refine r_lor hk hF (dtX3_bitsOf_0 38 (60, .lor, 1) rfl) (fun v9 hF => ?_)
      cases Option.some.inj hF
      exact hR _ _ (dtX3_bitsOf_0 39 (61, .lreturn, 1) rfl)
    have l13 : ∀ (n13 : Nat) (v10 : UInt64) (v11 : Int64), L_X3_bitsOf_15 n13 v10 v11 = some rv → G X K 15 [(2, .double v10), (4, .long v11)] [] m0 := by
      intro n13
      induction n13 with
      | zero => intro v10 v11 hF; exact nomatch (show (none : Option Int64) = some rv from hF)
      | succ n13 ih13 =>
        intro v10 v11 hF
        rw [L_X3_bitsOf_15] at hF
        refine r_dload_n hk 0 (dtX3_bitsOf_0 10 (15, .dload_n 2, 1) rfl) rfl ?_
        refine r_dconst1 hk (dtX3_bitsOf_0 11 (16, .dconst 1, 1) rfl) ?_
        refine r_dcmp hk hF (dtX3_bitsOf_0 12 (17, .dcmp .g, 1) rfl) (fun v14 hF => ?_)
        refine r_if_ge hk 43 hF (dtX3_bitsOf_0 13 (18, .ifCond .ge 25, 3) rfl) (by decide) (fun hF => ?_) (fun hF => ?_)
        · exact r_sub hk [0, 1] rfl (e43_4 v10 v11 hF)
        · refine r_lload hk 1 (dtX3_bitsOf_0 14 (21, .lload 4, 2) rfl) rfl ?_
          refine r_lconst (v := 1) hk (dtX3_bitsOf_0 15 (23, .lconst 1, 1) rfl) (by decide) ?_
          refine r_lcmp hk hF (dtX3_bitsOf_0 16 (24, .lcmp, 1) rfl) (fun v15 hF => ?_)
          refine r_if_le hk 43 hF (dtX3_bitsOf_0 17 (25, .ifCond .le 18, 3) rfl) (by decide) (fun hF => ?_) (fun hF => ?_)
          · exact r_sub hk [0, 1] rfl (e43_4 v10 v11 hF)
          · refine r_dload_n hk 0 (dtX3_bitsOf_0 18 (28, .dload_n 2, 1) rfl) rfl ?_
            refine r_ldc2d hk cn_X3_263 (dtX3_bitsOf_0 19 (29, .ldc2_w 263, 3) rfl) ?_
            refine r_dmul hk hF (dtX3_bitsOf_0 20 (32, .dmul, 1) rfl) (fun v16 hF => ?_)
            refine r_dstore_n hk [(2, .double v16), (4, .long v11)] (dtX3_bitsOf_0 21 (33, .dstore_n 2, 1) rfl) (by decide) rfl ?_
            refine r_lload hk 1 (dtX3_bitsOf_0 22 (34, .lload 4, 2) rfl) rfl ?_
            refine r_lconst (v := 1) hk (dtX3_bitsOf_0 23 (36, .lconst 1, 1) rfl) (by decide) ?_
            refine r_lsub hk hF (dtX3_bitsOf_0 24 (37, .lsub, 1) rfl) (fun v17 hF => ?_)
            refine r_lstore hk [(4, .long v17), (2, .double v16)] (dtX3_bitsOf_0 25 (38, .lstore 4, 2) rfl) (by decide) rfl ?_
            refine r_goto hk 15 (dtX3_bitsOf_0 26 (40, .goto (-25), 3) rfl) (by decide) ?_
            exact r_sub hk [1, 0] rfl (ih13 v16 v17 hF)
    exact r_sub hk [1, 0] rfl (l13 fu p1 1023 hF)
  · refine r_lconst (v := 0) hk (dtX3_bitsOf_0 4 (6, .lconst 0, 1) rfl) (by decide) ?_
    cases Option.some.inj hF
    exact hR _ _ (dtX3_bitsOf_0 5 (7, .lreturn, 1) rfl)
set_option maxHeartbeats 4000000 in
set_option maxRecDepth 100000 in
theorem c_X3_digest (l : Launch) (hlf : l.stackTraces = false) (X : XW)   (m0 : Mem) (rv : Int64) (mE : Mem) (hF : F_X3_digest m0 = some (rv, mE)) : MX X l yX3_digest cX3_digest 5 (some .long) 10 [.ref (xad X (0, 0, 0, 0))] m0 (QL X rv mE) := by
  refine startL hlf (by decide +kernel) rfl [(0, .ref (xad X (0, 0, 0, 0)))] rfl (Nat.le_of_ble_eq_true rfl) (fun K hk hR => ?_)
  unfold F_X3_digest at hF
  refine r_ldc2 hk cn_X3_222 (dtX3_digest_0 0 (0, .ldc2_w 222, 3) rfl) ?_
  refine r_lstore_n hk [(1, .long 3049), (0, .ref (xad X (0, 0, 0, 0)))] (dtX3_digest_0 1 (3, .lstore_n 1, 1) rfl) (by decide) rfl ?_
  refine r_iconst (v := 0) hk (dtX3_digest_0 2 (4, .iconst 0, 1) rfl) (by decide) ?_
  refine r_istore_n hk [(3, .int 0), (1, .long 3049), (0, .ref (xad X (0, 0, 0, 0)))] (dtX3_digest_0 3 (5, .istore_n 3, 1) rfl) (by decide) rfl ?_
  have e29_2 : ∀ (v1 : Int64), (C_X3_digest_29 m0) v1 = some (rv, mE) → G X K 29 [(0, .ref (xad X (0, 0, 0, 0))), (1, .long v1)] [] m0 := by
    intro v1 hF
    unfold C_X3_digest_29 at hF
    refine r_iconst (v := 0) hk (dtX3_digest_0 16 (29, .iconst 0, 1) rfl) (by decide) ?_
    refine r_istore_n hk [(3, .int 0), (0, .ref (xad X (0, 0, 0, 0))), (1, .long v1)] (dtX3_digest_0 17 (30, .istore_n 3, 1) rfl) (by decide) rfl ?_
    have e77_4 : ∀ (v3 : Int64), (C_X3_digest_77 m0) v3 = some (rv, mE) → G X K 77 [(0, .ref (xad X (0, 0, 0, 0))), (1, .long v3)] [] m0 := by
      intro v3 hF
      unfold C_X3_digest_77 at hF
      refine r_aload_n hk 0 (dtX3_digest_0 40 (77, .aload_n 0, 1) rfl) rfl ?_
      refine r_callIm hF (fun v5 m6 h H locs ls hH hS hl => run_V (y := yX3_readQuestion) hk (in_main 0 (by decide)) rfl rfl (c_X3_readQuestion (kl K) hk.2.2.2.2.2.2.2.2.2.2.2 X   m0 v5 m6 h) lk_X3_159 me_X3_readQuestion yf_X3_readQuestion (by decide) (by decide) rfl (Nat.le_of_ble_eq_true rfl) rfl (dtX3_digest_0 41 (78, .invokevirtual 159, 3) rfl) hH hS hl) (fun v5 m6 hF => ?_)
      refine r_istore_n hk [(3, .int v5), (0, .ref (xad X (0, 0, 0, 0))), (1, .long v3)] (dtX3_digest_0 42 (81, .istore_n 3, 1) rfl) (by decide) rfl ?_
      refine r_iconst (v := 0) hk (dtX3_digest_0 43 (82, .iconst 0, 1) rfl) (by decide) ?_
      refine r_istore hk [(4, .int 0), (3, .int v5), (0, .ref (xad X (0, 0, 0, 0))), (1, .long v3)] (dtX3_digest_0 44 (83, .istore 4, 2) rfl) (by decide) rfl ?_
      have e114_9 : ∀ (v7 : Int64) (m8 : Mem), C_X3_digest_114 v7 m8 = some (rv, mE) → G X K 114 [(0, .ref (xad X (0, 0, 0, 0))), (1, .long v7)] [] m8 := by
        intro v7 m8 hF
        unfold C_X3_digest_114 at hF
        refine r_lload_n hk 1 (dtX3_digest_0 61 (114, .lload_n 1, 1) rfl) rfl ?_
        refine r_aload_n hk 0 (dtX3_digest_0 62 (115, .aload_n 0, 1) rfl) rfl ?_
        refine r_callD hF (fun v10 h H locs ls hH hS hl => run_V (y := yX3_fullness) hk (in_main 0 (by decide)) rfl rfl (c_X3_fullness (kl K) hk.2.2.2.2.2.2.2.2.2.2.2 X   m8 v10 h) lk_X3_242 me_X3_fullness yf_X3_fullness (by decide) (by decide) rfl (Nat.le_of_ble_eq_true rfl) rfl (dtX3_digest_0 63 (116, .invokevirtual 242, 3) rfl) hH hS hl) (fun v10 hF => ?_)
        refine r_callL hF (fun v11 h H locs ls hH hS hl => run_S hk (c_X3_bitsOf (kl K) hk.2.2.2.2.2.2.2.2.2.2.2 X  v10 m8 v11 h) lk_X3_246 me_X3_bitsOf yf_X3_bitsOf (by decide) (by decide) rfl (Nat.le_of_ble_eq_true rfl) rfl (dtX3_digest_1 0 (119, .invokestatic 246, 3) rfl) hH hS hl) (fun v11 hF => ?_)
        refine r_callL hF (fun v12 h H locs ls hH hS hl => run_S hk (c_X3_mix (kl K) hk.2.2.2.2.2.2.2.2.2.2.2 X  v7 v11 m8 v12 h) lk_X3_227 me_X3_mix yf_X3_mix (by decide) (by decide) rfl (Nat.le_of_ble_eq_true rfl) rfl (dtX3_digest_1 1 (122, .invokestatic 227, 3) rfl) hH hS hl) (fun v12 hF => ?_)
        refine r_lstore_n hk [(1, .long v12), (0, .ref (xad X (0, 0, 0, 0)))] (dtX3_digest_1 2 (125, .lstore_n 1, 1) rfl) (by decide) rfl ?_
        refine r_lload_n hk 0 (dtX3_digest_1 3 (126, .lload_n 1, 1) rfl) rfl ?_
        refine r_aload_n hk 1 (dtX3_digest_1 4 (127, .aload_n 0, 1) rfl) rfl ?_
        refine r_getI hk (k := 6) (fsX3 X) cbX3 (by decide) fl_X3_145 (in_main 0 (by decide)) (fun _ => rfl) (fun _ _ => rfl) hF (dtX3_digest_1 5 (128, .getfield 145, 3) rfl) (fun v13 hF => ?_)
        refine r_i2l hk hF (dtX3_digest_1 6 (131, .i2l, 1) rfl) (fun v14 hF => ?_)
        refine r_callL hF (fun v15 h H locs ls hH hS hl => run_S hk (c_X3_mix (kl K) hk.2.2.2.2.2.2.2.2.2.2.2 X  v12 v14 m8 v15 h) lk_X3_227 me_X3_mix yf_X3_mix (by decide) (by decide) rfl (Nat.le_of_ble_eq_true rfl) rfl (dtX3_digest_1 7 (132, .invokestatic 227, 3) rfl) hH hS hl) (fun v15 hF => ?_)
        refine r_lstore_n hk [(1, .long v15), (0, .ref (xad X (0, 0, 0, 0)))] (dtX3_digest_1 8 (135, .lstore_n 1, 1) rfl) (by decide) rfl ?_
        refine r_iconst (v := 0) hk (dtX3_digest_1 9 (136, .iconst 0, 1) rfl) (by decide) ?_
        refine r_istore hk [(4, .int 0), (1, .long v15), (0, .ref (xad X (0, 0, 0, 0)))] (dtX3_digest_1 10 (137, .istore 4, 2) rfl) (by decide) rfl ?_
        have e174_17 : ∀ (v16 : Int64), (C_X3_digest_174 m8) v16 = some (rv, mE) → G X K 174 [(1, .long v16)] [] m8 := by
          intro v16 hF
          unfold C_X3_digest_174 at hF
          refine r_lload_n hk 0 (dtX3_digest_1 28 (174, .lload_n 1, 1) rfl) rfl ?_
          cases Option.some.inj hF
          exact hR _ _ (dtX3_digest_1 29 (175, .lreturn, 1) rfl)
        have l21 : ∀ (n21 : Nat) (v18 : Int64) (v19 : Int32), L_X3_digest_139 m8 n21 v18 v19 = some (rv, mE) → G X K 139 [(0, .ref (xad X (0, 0, 0, 0))), (1, .long v18), (4, .int v19)] [] m8 := by
          intro n21
          induction n21 with
          | zero => intro v18 v19 hF; exact nomatch (show (none : Option (Int64 × Mem)) = some (rv, mE) from hF)
          | succ n21 ih21 =>
            intro v18 v19 hF
            rw [L_X3_digest_139] at hF
            refine r_iload hk 2 (dtX3_digest_1 11 (139, .iload 4, 2) rfl) rfl ?_
            refine r_aload_n hk 0 (dtX3_digest_1 12 (141, .aload_n 0, 1) rfl) rfl ?_
            refine r_getI hk (k := 6) (fsX3 X) cbX3 (by decide) fl_X3_145 (in_main 0 (by decide)) (fun _ => rfl) (fun _ _ => rfl) hF (dtX3_digest_1 13 (142, .getfield 145, 3) rfl) (fun v22 hF => ?_)
            refine r_icmp_ge hk 174 hF (dtX3_digest_1 14 (145, .if_icmp .ge 29, 3) rfl) (by decide) (fun hF => ?_) (fun hF => ?_)
            · exact r_sub hk [1] rfl (e174_17 v18 hF)
            · refine r_iload hk 2 (dtX3_digest_1 15 (148, .iload 4, 2) rfl) rfl ?_
              refine r_bipush (v := 40) hk (dtX3_digest_1 16 (150, .bipush 40, 2) rfl) (by decide) ?_
              refine r_icmp_ge hk 174 hF (dtX3_digest_1 17 (152, .if_icmp .ge 22, 3) rfl) (by decide) (fun hF => ?_) (fun hF => ?_)
              · exact r_sub hk [1] rfl (e174_17 v18 hF)
              · refine r_lload_n hk 1 (dtX3_digest_1 18 (155, .lload_n 1, 1) rfl) rfl ?_
                refine r_aload_n hk 0 (dtX3_digest_1 19 (156, .aload_n 0, 1) rfl) rfl ?_
                refine r_getR hk (k := 1) (fsX3 X) cbX3 (by decide) fl_X3_15 (in_main 0 (by decide)) (fun _ => rfl) (fun _ _ => rfl) (dtX3_digest_1 20 (157, .getfield 15, 3) rfl) ?_
                refine r_iload hk 2 (dtX3_digest_1 21 (160, .iload 4, 2) rfl) rfl ?_
                refine r_iald hk (in_main 2 (by decide)) (fun _ => rfl) hF (dtX3_digest_1 22 (162, .iaload, 1) rfl) (fun v23 hF => ?_)
                refine r_i2l hk hF (dtX3_digest_1 23 (163, .i2l, 1) rfl) (fun v24 hF => ?_)
                refine r_callL hF (fun v25 h H locs ls hH hS hl => run_S hk (c_X3_mix (kl K) hk.2.2.2.2.2.2.2.2.2.2.2 X  v18 v24 m8 v25 h) lk_X3_227 me_X3_mix yf_X3_mix (by decide) (by decide) rfl (Nat.le_of_ble_eq_true rfl) rfl (dtX3_digest_1 24 (164, .invokestatic 227, 3) rfl) hH hS hl) (fun v25 hF => ?_)
                refine r_lstore_n hk [(1, .long v25), (0, .ref (xad X (0, 0, 0, 0))), (4, .int v19)] (dtX3_digest_1 25 (167, .lstore_n 1, 1) rfl) (by decide) rfl ?_
                refine r_iinc hk 1 2 (fun v26 => [(4, .int v26), (1, .long v25), (0, .ref (xad X (0, 0, 0, 0)))]) hF (dtX3_digest_1 26 (168, .iinc 4 1, 3) rfl) rfl (by decide) (by decide) (fun _ => rfl) (fun v26 hF => ?_)
                refine r_goto hk 139 (dtX3_digest_1 27 (171, .goto (-32), 3) rfl) (by decide) ?_
                exact r_sub hk [2, 1, 0] rfl (ih21 v25 v26 hF)
        exact r_sub hk [2, 1, 0] rfl (l21 fu v15 0 hF)
      have l31 : ∀ (n31 : Nat) (v27 : Int64) (v28 : Int32) (m29 : Mem), L_X3_digest_85 v5 n31 v27 v28 m29 = some (rv, mE) → G X K 85 [(0, .ref (xad X (0, 0, 0, 0))), (1, .long v27), (3, .int v5), (4, .int v28)] [] m29 := by
        intro n31
        induction n31 with
        | zero => intro v27 v28 m29 hF; exact nomatch (show (none : Option (Int64 × Mem)) = some (rv, mE) from hF)
        | succ n31 ih31 =>
          intro v27 v28 m29 hF
          rw [L_X3_digest_85] at hF
          refine r_iload hk 3 (dtX3_digest_0 45 (85, .iload 4, 2) rfl) rfl ?_
          refine r_iconst (v := 3) hk (dtX3_digest_0 46 (87, .iconst 3, 1) rfl) (by decide) ?_
          refine r_icmp_ge hk 114 hF (dtX3_digest_0 47 (88, .if_icmp .ge 26, 3) rfl) (by decide) (fun hF => ?_) (fun hF => ?_)
          · exact r_sub hk [0, 1] rfl (e114_9 v27 m29 hF)
          · refine r_aload_n hk 0 (dtX3_digest_0 48 (91, .aload_n 0, 1) rfl) rfl ?_
            refine r_lload_n hk 1 (dtX3_digest_0 49 (92, .lload_n 1, 1) rfl) rfl ?_
            refine r_iload hk 3 (dtX3_digest_0 50 (93, .iload 4, 2) rfl) rfl ?_
            refine r_callL hF (fun v32 h H locs ls hH hS hl => run_V (y := yX3_mixTenant) hk (in_main 0 (by decide)) rfl rfl (c_X3_mixTenant (kl K) hk.2.2.2.2.2.2.2.2.2.2.2 X  v27 v28 m29 v32 h) lk_X3_234 me_X3_mixTenant yf_X3_mixTenant (by decide) (by decide) rfl (Nat.le_of_ble_eq_true rfl) rfl (dtX3_digest_0 51 (95, .invokevirtual 234, 3) rfl) hH hS hl) (fun v32 hF => ?_)
            refine r_lstore_n hk [(1, .long v32), (0, .ref (xad X (0, 0, 0, 0))), (3, .int v5), (4, .int v28)] (dtX3_digest_0 52 (98, .lstore_n 1, 1) rfl) (by decide) rfl ?_
            refine r_aload_n hk 1 (dtX3_digest_0 53 (99, .aload_n 0, 1) rfl) rfl ?_
            refine r_lload_n hk 0 (dtX3_digest_0 54 (100, .lload_n 1, 1) rfl) rfl ?_
            refine r_iload hk 3 (dtX3_digest_0 55 (101, .iload 4, 2) rfl) rfl ?_
            refine r_iload_n hk 2 (dtX3_digest_0 56 (103, .iload_n 3, 1) rfl) rfl ?_
            refine r_callLm hF (fun v33 m34 h H locs ls hH hS hl => run_V (y := yX3_mixAnswers) hk (in_main 0 (by decide)) rfl rfl (c_X3_mixAnswers (kl K) hk.2.2.2.2.2.2.2.2.2.2.2 X  v32 v28 v5 m29 v33 m34 h) lk_X3_238 me_X3_mixAnswers yf_X3_mixAnswers (by decide) (by decide) rfl (Nat.le_of_ble_eq_true rfl) rfl (dtX3_digest_0 57 (104, .invokevirtual 238, 3) rfl) hH hS hl) (fun v33 m34 hF => ?_)
            refine r_lstore_n hk [(1, .long v33), (0, .ref (xad X (0, 0, 0, 0))), (3, .int v5), (4, .int v28)] (dtX3_digest_0 58 (107, .lstore_n 1, 1) rfl) (by decide) rfl ?_
            refine r_iinc hk 1 3 (fun v35 => [(4, .int v35), (1, .long v33), (0, .ref (xad X (0, 0, 0, 0))), (3, .int v5)]) hF (dtX3_digest_0 59 (108, .iinc 4 1, 3) rfl) rfl (by decide) (by decide) (fun _ => rfl) (fun v35 hF => ?_)
            refine r_goto hk 85 (dtX3_digest_0 60 (111, .goto (-26), 3) rfl) (by decide) ?_
            exact r_sub hk [2, 1, 3, 0] rfl (ih31 v33 v35 m34 hF)
      exact r_sub hk [2, 3, 1, 0] rfl (l31 fu v3 0 m6 hF)
    have l39 : ∀ (n39 : Nat) (v36 : Int64) (v37 : Int32), L_X3_digest_31 m0 n39 v36 v37 = some (rv, mE) → G X K 31 [(0, .ref (xad X (0, 0, 0, 0))), (1, .long v36), (3, .int v37)] [] m0 := by
      intro n39
      induction n39 with
      | zero => intro v36 v37 hF; exact nomatch (show (none : Option (Int64 × Mem)) = some (rv, mE) from hF)
      | succ n39 ih39 =>
        intro v36 v37 hF
        rw [L_X3_digest_31] at hF
        refine r_iload_n hk 2 (dtX3_digest_0 18 (31, .iload_n 3, 1) rfl) rfl ?_
        refine r_aload_n hk 0 (dtX3_digest_0 19 (32, .aload_n 0, 1) rfl) rfl ?_
        refine r_getS hk fl_X3_30 hF (dtX3_digest_0 20 (33, .getfield 30, 3) rfl) (fun q40 hq40 hF => ?_)
        refine r_getI hk (k := 3) (fsX1 X q40) cbX1 (by decide) fl_X3_204 (in_st q40 hq40 0 (by decide)) (fun _ => rfl) (fun _ _ => rfl) hF (dtX3_digest_0 21 (36, .getfield 204, 3) rfl) (fun v41 hF => ?_)
        refine r_icmp_ge hk 77 hF (dtX3_digest_0 22 (39, .if_icmp .ge 38, 3) rfl) (by decide) (fun hF => ?_) (fun hF => ?_)
        · exact r_sub hk [0, 1] rfl (e77_4 v36 hF)
        · refine r_iconst (v := 0) hk (dtX3_digest_0 23 (42, .iconst 0, 1) rfl) (by decide) ?_
          refine r_istore hk [(4, .int 0), (0, .ref (xad X (0, 0, 0, 0))), (1, .long v36), (3, .int v37)] (dtX3_digest_0 24 (43, .istore 4, 2) rfl) (by decide) rfl ?_
          have e71_43 : ∀ (v42 : Int64), (C_X3_digest_71 v37 (fun w0 w1 => L_X3_digest_31 m0 n39 w0 w1)) v42 = some (rv, mE) → G X K 71 [(0, .ref (xad X (0, 0, 0, 0))), (1, .long v42), (3, .int v37)] [] m0 := by
            intro v42 hF
            unfold C_X3_digest_71 at hF
            refine r_iinc hk 1 2 (fun v44 => [(3, .int v44), (0, .ref (xad X (0, 0, 0, 0))), (1, .long v42)]) hF (dtX3_digest_0 38 (71, .iinc 3 1, 3) rfl) rfl (by decide) (by decide) (fun _ => rfl) (fun v44 hF => ?_)
            refine r_goto hk 31 (dtX3_digest_0 39 (74, .goto (-43), 3) rfl) (by decide) ?_
            exact r_sub hk [1, 2, 0] rfl (ih39 v42 v44 hF)
          have l48 : ∀ (n48 : Nat) (v45 : Int64) (v46 : Int32), L_X3_digest_45 m0 v37 (fun w0 w1 => L_X3_digest_31 m0 n39 w0 w1) n48 v45 v46 = some (rv, mE) → G X K 45 [(0, .ref (xad X (0, 0, 0, 0))), (1, .long v45), (3, .int v37), (4, .int v46)] [] m0 := by
            intro n48
            induction n48 with
            | zero => intro v45 v46 hF; exact nomatch (show (none : Option (Int64 × Mem)) = some (rv, mE) from hF)
            | succ n48 ih48 =>
              intro v45 v46 hF
              rw [L_X3_digest_45] at hF
              refine r_iload hk 3 (dtX3_digest_0 25 (45, .iload 4, 2) rfl) rfl ?_
              refine r_bipush (v := 9) hk (dtX3_digest_0 26 (47, .bipush 9, 2) rfl) (by decide) ?_
              refine r_icmp_gt hk 71 hF (dtX3_digest_0 27 (49, .if_icmp .gt 22, 3) rfl) (by decide) (fun hF => ?_) (fun hF => ?_)
              · exact r_sub hk [0, 1, 2] rfl (e71_43 v45 hF)
              · refine r_lload_n hk 1 (dtX3_digest_0 28 (52, .lload_n 1, 1) rfl) rfl ?_
                refine r_aload_n hk 0 (dtX3_digest_0 29 (53, .aload_n 0, 1) rfl) rfl ?_
                refine r_iload_n hk 2 (dtX3_digest_0 30 (54, .iload_n 3, 1) rfl) rfl ?_
                refine r_iload hk 3 (dtX3_digest_0 31 (55, .iload 4, 2) rfl) rfl ?_
                refine r_callIts hk hF (fun c h => nomatch h) (fun R h hf H locs ls hH hS hl => runT_V (y := yX3_rowOf) hk (in_main 0 (by decide)) rfl rfl (c_X3_rowOf (kl K) hk.2.2.2.2.2.2.2.2.2.2.2 X  v37 v46 m0 R h) lk_X3_231 me_X3_rowOf yf_X3_rowOf (by decide) (by decide) rfl (Nat.le_of_ble_eq_true rfl) rfl (dtX3_digest_0 32 (57, .invokevirtual 231, 3) rfl) hf hH hS hl) (fun v49 hF => ?_)
                refine r_i2l hk hF (dtX3_digest_0 33 (60, .i2l, 1) rfl) (fun v50 hF => ?_)
                refine r_callL hF (fun v51 h H locs ls hH hS hl => run_S hk (c_X3_mix (kl K) hk.2.2.2.2.2.2.2.2.2.2.2 X  v45 v50 m0 v51 h) lk_X3_227 me_X3_mix yf_X3_mix (by decide) (by decide) rfl (Nat.le_of_ble_eq_true rfl) rfl (dtX3_digest_0 34 (61, .invokestatic 227, 3) rfl) hH hS hl) (fun v51 hF => ?_)
                refine r_lstore_n hk [(1, .long v51), (0, .ref (xad X (0, 0, 0, 0))), (3, .int v37), (4, .int v46)] (dtX3_digest_0 35 (64, .lstore_n 1, 1) rfl) (by decide) rfl ?_
                refine r_iinc hk 1 3 (fun v52 => [(4, .int v52), (1, .long v51), (0, .ref (xad X (0, 0, 0, 0))), (3, .int v37)]) hF (dtX3_digest_0 36 (65, .iinc 4 1, 3) rfl) rfl (by decide) (by decide) (fun _ => rfl) (fun v52 hF => ?_)
                refine r_goto hk 45 (dtX3_digest_0 37 (68, .goto (-23), 3) rfl) (by decide) ?_
                exact r_sub hk [2, 1, 3, 0] rfl (ih48 v51 v52 hF)
          exact r_sub hk [1, 2, 3, 0] rfl (l48 fu v36 0 hF)
    exact r_sub hk [1, 2, 0] rfl (l39 fu v1 0 hF)
  have l56 : ∀ (n56 : Nat) (v53 : Int64) (v54 : Int32), L_X3_digest_6 m0 n56 v53 v54 = some (rv, mE) → G X K 6 [(0, .ref (xad X (0, 0, 0, 0))), (1, .long v53), (3, .int v54)] [] m0 := by
    intro n56
    induction n56 with
    | zero => intro v53 v54 hF; exact nomatch (show (none : Option (Int64 × Mem)) = some (rv, mE) from hF)
    | succ n56 ih56 =>
      intro v53 v54 hF
      rw [L_X3_digest_6] at hF
      refine r_iload_n hk 2 (dtX3_digest_0 4 (6, .iload_n 3, 1) rfl) rfl ?_
      refine r_bipush (v := 7) hk (dtX3_digest_0 5 (7, .bipush 7, 2) rfl) (by decide) ?_
      refine r_icmp_gt hk 29 hF (dtX3_digest_0 6 (9, .if_icmp .gt 20, 3) rfl) (by decide) (fun hF => ?_) (fun hF => ?_)
      · exact r_sub hk [0, 1] rfl (e29_2 v53 hF)
      · refine r_lload_n hk 1 (dtX3_digest_0 7 (12, .lload_n 1, 1) rfl) rfl ?_
        refine r_aload_n hk 0 (dtX3_digest_0 8 (13, .aload_n 0, 1) rfl) rfl ?_
        refine r_iload_n hk 2 (dtX3_digest_0 9 (14, .iload_n 3, 1) rfl) rfl ?_
        refine r_callIts hk hF (fun c h => nomatch h) (fun R h hf H locs ls hH hS hl => runT_V (y := yX3_count) hk (in_main 0 (by decide)) rfl rfl (c_X3_count (kl K) hk.2.2.2.2.2.2.2.2.2.2.2 X  v54 m0 R h) lk_X3_224 me_X3_count yf_X3_count (by decide) (by decide) rfl (Nat.le_of_ble_eq_true rfl) rfl (dtX3_digest_0 10 (15, .invokevirtual 224, 3) rfl) hf hH hS hl) (fun v57 hF => ?_)
        refine r_i2l hk hF (dtX3_digest_0 11 (18, .i2l, 1) rfl) (fun v58 hF => ?_)
        refine r_callL hF (fun v59 h H locs ls hH hS hl => run_S hk (c_X3_mix (kl K) hk.2.2.2.2.2.2.2.2.2.2.2 X  v53 v58 m0 v59 h) lk_X3_227 me_X3_mix yf_X3_mix (by decide) (by decide) rfl (Nat.le_of_ble_eq_true rfl) rfl (dtX3_digest_0 12 (19, .invokestatic 227, 3) rfl) hH hS hl) (fun v59 hF => ?_)
        refine r_lstore_n hk [(1, .long v59), (0, .ref (xad X (0, 0, 0, 0))), (3, .int v54)] (dtX3_digest_0 13 (22, .lstore_n 1, 1) rfl) (by decide) rfl ?_
        refine r_iinc hk 1 2 (fun v60 => [(3, .int v60), (1, .long v59), (0, .ref (xad X (0, 0, 0, 0)))]) hF (dtX3_digest_0 14 (23, .iinc 3 1, 3) rfl) rfl (by decide) (by decide) (fun _ => rfl) (fun v60 hF => ?_)
        refine r_goto hk 6 (dtX3_digest_0 15 (26, .goto (-20), 3) rfl) (by decide) ?_
        exact r_sub hk [2, 1, 0] rfl (ih56 v59 v60 hF)
  exact r_sub hk [2, 1, 0] rfl (l56 fu 3049 0 hF)
set_option maxHeartbeats 4000000 in
set_option maxRecDepth 100000 in
theorem c_X3_isLetter (l : Launch) (hlf : l.stackTraces = false) (X : XW)  (p1 : Int32) (m0 : Mem) (rv : Int32) (hF : F_X3_isLetter p1 m0 = some rv) : MX X l yX3_isLetter cX3_isLetter 1 (some .boolean) 0 [.int p1] m0 (QI X rv m0) := by
  refine startZ hlf (by decide +kernel) rfl [(0, .int p1)] rfl (Nat.le_of_ble_eq_true rfl) (fun K hk hR => ?_)
  unfold F_X3_isLetter at hF
  refine r_iload_n hk 0 (dtX3_isLetter_0 0 (0, .iload_n 0, 1) rfl) rfl ?_
  have j15_2 : ∀ (v1 : Int32), J_X3_isLetter_15 v1 = some rv → G X K 15 [] [.int v1] m0 := by
    intro v1 hF
    unfold J_X3_isLetter_15 at hF
    obtain ⟨hz, hF⟩ := ck_some hF
    cases Option.some.inj hF
    exact hR _ _ hz (dtX3_isLetter_0 8 (15, .ireturn, 1) rfl)
  have j14_3 : J_X3_isLetter_14 = some rv → G X K 14 [] [] m0 := by
    intro hF
    unfold J_X3_isLetter_14 at hF
    refine r_iconst (v := 0) hk (dtX3_isLetter_0 7 (14, .iconst 0, 1) rfl) (by decide) ?_
    exact r_sub hk [] rfl (j15_2 0 hF)
  refine r_if_lt hk 14 hF (dtX3_isLetter_0 1 (1, .ifCond .lt 13, 3) rfl) (by decide) (fun hF => ?_) (fun hF => ?_)
  · exact r_sub hk [] rfl (j14_3 hF)
  · refine r_iload_n hk 0 (dtX3_isLetter_0 2 (4, .iload_n 0, 1) rfl) rfl ?_
    refine r_bipush (v := 8) hk (dtX3_isLetter_0 3 (5, .bipush 8, 2) rfl) (by decide) ?_
    refine r_icmp_ge hk 14 hF (dtX3_isLetter_0 4 (7, .if_icmp .ge 7, 3) rfl) (by decide) (fun hF => ?_) (fun hF => ?_)
    · exact r_sub hk [] rfl (j14_3 hF)
    · refine r_iconst (v := 1) hk (dtX3_isLetter_0 5 (10, .iconst 1, 1) rfl) (by decide) ?_
      refine r_goto hk 15 (dtX3_isLetter_0 6 (11, .goto 4, 3) rfl) (by decide) ?_
      exact r_sub hk [] rfl (j15_2 1 hF)
set_option maxHeartbeats 4000000 in
set_option maxRecDepth 100000 in
theorem c_X2_define (l : Launch) (hlf : l.stackTraces = false) (X : XW) (i0 : Nat) (hi0 : i0 < 7) (j0 : Nat) (hj0 : j0 < 3) (p1 : Int32) (p2 : Int32) (p3 : Int32) (p4 : Int32) (m0 : Mem) (rv : Unit) (mE : Mem) (hF : F_X2_define i0 j0 p1 p2 p3 p4 m0 = some (rv, mE)) : MX X l yX2_define cX2_define 5 none 0 [.ref (xad X (2, i0, j0, 0)), .int p1, .int p2, .int p3, .int p4] m0 (QV X mE) := by
  refine startV hlf (by decide +kernel) rfl [(0, .ref (xad X (2, i0, j0, 0))), (1, .int p1), (2, .int p2), (3, .int p3), (4, .int p4)] rfl (Nat.le_of_ble_eq_true rfl) (fun K hk hR => ?_)
  unfold F_X2_define at hF
  refine r_iload_n hk 1 (dtX2_define_0 0 (0, .iload_n 1, 1) rfl) rfl ?_
  have j32_2 : ∀ (m1 : Mem), J_X2_define_32 m1 = some (rv, mE) → G X K 32 [] [] m1 := by
    intro m1 hF
    unfold J_X2_define_32 at hF
    cases Option.some.inj hF
    exact hR _ _ (dtX2_define_0 20 (32, .return_, 1) rfl)
  refine r_if_lt hk 32 hF (dtX2_define_0 1 (1, .ifCond .lt 31, 3) rfl) (by decide) (fun hF => ?_) (fun hF => ?_)
  · exact r_sub hk [] rfl (j32_2 m0 hF)
  · refine r_iload_n hk 1 (dtX2_define_0 2 (4, .iload_n 1, 1) rfl) rfl ?_
    refine r_bipush (v := 8) hk (dtX2_define_0 3 (5, .bipush 8, 2) rfl) (by decide) ?_
    refine r_icmp_ge hk 32 hF (dtX2_define_0 4 (7, .if_icmp .ge 25, 3) rfl) (by decide) (fun hF => ?_) (fun hF => ?_)
    · exact r_sub hk [] rfl (j32_2 m0 hF)
    · refine r_aload_n hk 0 (dtX2_define_0 5 (10, .aload_n 0, 1) rfl) rfl ?_
      refine r_getR hk (k := 0) (fsX2 X i0 j0) cbX2 (by decide) fl_X2_9 (in_tn i0 hi0 j0 hj0 0 (by decide)) (fun _ => rfl) (fun _ _ => rfl) (dtX2_define_0 6 (11, .getfield 9, 3) rfl) ?_
      refine r_iload_n hk 1 (dtX2_define_0 7 (14, .iload_n 1, 1) rfl) rfl ?_
      refine r_iload_n hk 2 (dtX2_define_0 8 (15, .iload_n 2, 1) rfl) rfl ?_
      refine r_iast hk (in_tn i0 hi0 j0 hj0 1 (by decide)) (fun _ => rfl) hF (dtX2_define_0 9 (16, .iastore, 1) rfl) (fun m3 hF => ?_)
      refine r_aload_n hk 0 (dtX2_define_0 10 (17, .aload_n 0, 1) rfl) rfl ?_
      refine r_getR hk (k := 1) (fsX2 X i0 j0) cbX2 (by decide) fl_X2_15 (in_tn i0 hi0 j0 hj0 0 (by decide)) (fun _ => rfl) (fun _ _ => rfl) (dtX2_define_0 11 (18, .getfield 15, 3) rfl) ?_
      refine r_iload_n hk 1 (dtX2_define_0 12 (21, .iload_n 1, 1) rfl) rfl ?_
      refine r_iload_n hk 3 (dtX2_define_0 13 (22, .iload_n 3, 1) rfl) rfl ?_
      refine r_iast hk (in_tn i0 hi0 j0 hj0 2 (by decide)) (fun _ => rfl) hF (dtX2_define_0 14 (23, .iastore, 1) rfl) (fun m4 hF => ?_)
      refine r_aload_n hk 0 (dtX2_define_0 15 (24, .aload_n 0, 1) rfl) rfl ?_
      refine r_getR hk (k := 2) (fsX2 X i0 j0) cbX2 (by decide) fl_X2_18 (in_tn i0 hi0 j0 hj0 0 (by decide)) (fun _ => rfl) (fun _ _ => rfl) (dtX2_define_0 16 (25, .getfield 18, 3) rfl) ?_
      refine r_iload_n hk 1 (dtX2_define_0 17 (28, .iload_n 1, 1) rfl) rfl ?_
      refine r_iload hk 4 (dtX2_define_0 18 (29, .iload 4, 2) rfl) rfl ?_
      refine r_zast hk (in_tn i0 hi0 j0 hj0 3 (by decide)) (fun _ => rfl) hF (dtX2_define_0 19 (31, .bastore, 1) rfl) (fun m5 hF => ?_)
      exact r_sub hk [] rfl (j32_2 m5 hF)
set_option maxHeartbeats 4000000 in
set_option maxRecDepth 100000 in
theorem c_X2_copyFrom (l : Launch) (hlf : l.stackTraces = false) (X : XW) (i0 : Nat) (hi0 : i0 < 7) (j0 : Nat) (hj0 : j0 < 3) (i1 : Nat) (hi1 : i1 < 7) (j1 : Nat) (hj1 : j1 < 3)  (m0 : Mem) (rv : Unit) (mE : Mem) (hF : F_X2_copyFrom i0 j0 i1 j1 m0 = some (rv, mE)) : MX X l yX2_copyFrom cX2_copyFrom 3 none 1 [.ref (xad X (2, i0, j0, 0)), .ref (xad X (2, i1, j1, 0))] m0 (QV X mE) := by
  refine startV hlf (by decide +kernel) rfl [(0, .ref (xad X (2, i0, j0, 0))), (1, .ref (xad X (2, i1, j1, 0)))] rfl (Nat.le_of_ble_eq_true rfl) (fun K hk hR => ?_)
  unfold F_X2_copyFrom at hF
  refine r_iconst (v := 0) hk (dtX2_copyFrom_0 0 (0, .iconst 0, 1) rfl) (by decide) ?_
  refine r_istore_n hk [(2, .int 0), (0, .ref (xad X (2, i0, j0, 0))), (1, .ref (xad X (2, i1, j1, 0)))] (dtX2_copyFrom_0 1 (1, .istore_n 2, 1) rfl) (by decide) rfl ?_
  have e37_2 : ∀ (m1 : Mem), (C_X2_copyFrom_37 i0 j0 i1 j1) m1 = some (rv, mE) → G X K 37 [(0, .ref (xad X (2, i0, j0, 0))), (1, .ref (xad X (2, i1, j1, 0)))] [] m1 := by
    intro m1 hF
    unfold C_X2_copyFrom_37 at hF
    refine r_aload_n hk 0 (dtX2_copyFrom_0 22 (37, .aload_n 0, 1) rfl) rfl ?_
    refine r_aload_n hk 1 (dtX2_copyFrom_0 23 (38, .aload_n 1, 1) rfl) rfl ?_
    refine r_getI hk (k := 3) (fsX2 X i1 j1) cbX2 (by decide) fl_X2_22 (in_tn i1 hi1 j1 hj1 0 (by decide)) (fun _ => rfl) (fun _ _ => rfl) hF (dtX2_copyFrom_0 24 (39, .getfield 22, 3) rfl) (fun v3 hF => ?_)
    refine r_putI hk (k := 3) (fsX2 X i0 j0) cbX2 (by decide) fl_X2_22 (in_tn i0 hi0 j0 hj0 0 (by decide)) (fun _ => rfl) rfl rfl (fun _ _ _ => rfl) (fun _ _ => (by decide : 3 < 10)) hF (dtX2_copyFrom_0 25 (42, .putfield 22, 3) rfl) (fun m4 hF => ?_)
    refine r_aload_n hk 0 (dtX2_copyFrom_0 26 (45, .aload_n 0, 1) rfl) rfl ?_
    refine r_aload_n hk 1 (dtX2_copyFrom_0 27 (46, .aload_n 1, 1) rfl) rfl ?_
    refine r_getI hk (k := 4) (fsX2 X i1 j1) cbX2 (by decide) fl_X2_26 (in_tn i1 hi1 j1 hj1 0 (by decide)) (fun _ => rfl) (fun _ _ => rfl) hF (dtX2_copyFrom_0 28 (47, .getfield 26, 3) rfl) (fun v5 hF => ?_)
    refine r_putI hk (k := 4) (fsX2 X i0 j0) cbX2 (by decide) fl_X2_26 (in_tn i0 hi0 j0 hj0 0 (by decide)) (fun _ => rfl) rfl rfl (fun _ _ _ => rfl) (fun _ _ => (by decide : 4 < 10)) hF (dtX2_copyFrom_0 29 (50, .putfield 26, 3) rfl) (fun m6 hF => ?_)
    refine r_aload_n hk 0 (dtX2_copyFrom_0 30 (53, .aload_n 0, 1) rfl) rfl ?_
    refine r_aload_n hk 1 (dtX2_copyFrom_0 31 (54, .aload_n 1, 1) rfl) rfl ?_
    refine r_getI hk (k := 5) (fsX2 X i1 j1) cbX2 (by decide) fl_X2_33 (in_tn i1 hi1 j1 hj1 0 (by decide)) (fun _ => rfl) (fun _ _ => rfl) hF (dtX2_copyFrom_0 32 (55, .getfield 33, 3) rfl) (fun v7 hF => ?_)
    refine r_putZ hk (k := 5) (fsX2 X i0 j0) cbX2 (by decide) fl_X2_33 (in_tn i0 hi0 j0 hj0 0 (by decide)) (fun _ => rfl) rfl rfl (fun _ _ _ => rfl) (fun _ _ => (by decide : 5 < 10)) hF (dtX2_copyFrom_0 33 (58, .putfield 33, 3) rfl) (fun m8 hF => ?_)
    refine r_aload_n hk 0 (dtX2_copyFrom_0 34 (61, .aload_n 0, 1) rfl) rfl ?_
    refine r_aload_n hk 1 (dtX2_copyFrom_0 35 (62, .aload_n 1, 1) rfl) rfl ?_
    refine r_getI hk (k := 6) (fsX2 X i1 j1) cbX2 (by decide) fl_X2_37 (in_tn i1 hi1 j1 hj1 0 (by decide)) (fun _ => rfl) (fun _ _ => rfl) hF (dtX2_copyFrom_0 36 (63, .getfield 37, 3) rfl) (fun v9 hF => ?_)
    refine r_putI hk (k := 6) (fsX2 X i0 j0) cbX2 (by decide) fl_X2_37 (in_tn i0 hi0 j0 hj0 0 (by decide)) (fun _ => rfl) rfl rfl (fun _ _ _ => rfl) (fun _ _ => (by decide : 6 < 10)) hF (dtX2_copyFrom_0 37 (66, .putfield 37, 3) rfl) (fun m10 hF => ?_)
    refine r_aload_n hk 0 (dtX2_copyFrom_0 38 (69, .aload_n 0, 1) rfl) rfl ?_
    refine r_aload_n hk 1 (dtX2_copyFrom_0 39 (70, .aload_n 1, 1) rfl) rfl ?_
    refine r_getI hk (k := 7) (fsX2 X i1 j1) cbX2 (by decide) fl_X2_40 (in_tn i1 hi1 j1 hj1 0 (by decide)) (fun _ => rfl) (fun _ _ => rfl) hF (dtX2_copyFrom_0 40 (71, .getfield 40, 3) rfl) (fun v11 hF => ?_)
    refine r_putI hk (k := 7) (fsX2 X i0 j0) cbX2 (by decide) fl_X2_40 (in_tn i0 hi0 j0 hj0 0 (by decide)) (fun _ => rfl) rfl rfl (fun _ _ _ => rfl) (fun _ _ => (by decide : 7 < 10)) hF (dtX2_copyFrom_0 41 (74, .putfield 40, 3) rfl) (fun m12 hF => ?_)
    refine r_aload_n hk 0 (dtX2_copyFrom_0 42 (77, .aload_n 0, 1) rfl) rfl ?_
    refine r_aload_n hk 1 (dtX2_copyFrom_0 43 (78, .aload_n 1, 1) rfl) rfl ?_
    refine r_getI hk (k := 8) (fsX2 X i1 j1) cbX2 (by decide) fl_X2_43 (in_tn i1 hi1 j1 hj1 0 (by decide)) (fun _ => rfl) (fun _ _ => rfl) hF (dtX2_copyFrom_0 44 (79, .getfield 43, 3) rfl) (fun v13 hF => ?_)
    refine r_putI hk (k := 8) (fsX2 X i0 j0) cbX2 (by decide) fl_X2_43 (in_tn i0 hi0 j0 hj0 0 (by decide)) (fun _ => rfl) rfl rfl (fun _ _ _ => rfl) (fun _ _ => (by decide : 8 < 10)) hF (dtX2_copyFrom_0 45 (82, .putfield 43, 3) rfl) (fun m14 hF => ?_)
    refine r_aload_n hk 0 (dtX2_copyFrom_0 46 (85, .aload_n 0, 1) rfl) rfl ?_
    refine r_aload_n hk 1 (dtX2_copyFrom_0 47 (86, .aload_n 1, 1) rfl) rfl ?_
    refine r_getI hk (k := 9) (fsX2 X i1 j1) cbX2 (by decide) fl_X2_46 (in_tn i1 hi1 j1 hj1 0 (by decide)) (fun _ => rfl) (fun _ _ => rfl) hF (dtX2_copyFrom_0 48 (87, .getfield 46, 3) rfl) (fun v15 hF => ?_)
    refine r_putI hk (k := 9) (fsX2 X i0 j0) cbX2 (by decide) fl_X2_46 (in_tn i0 hi0 j0 hj0 0 (by decide)) (fun _ => rfl) rfl rfl (fun _ _ _ => rfl) (fun _ _ => (by decide : 9 < 10)) hF (dtX2_copyFrom_0 49 (90, .putfield 46, 3) rfl) (fun m16 hF => ?_)
    cases Option.some.inj hF
    exact hR _ _ (dtX2_copyFrom_0 50 (93, .return_, 1) rfl)
  have l20 : ∀ (n20 : Nat) (v17 : Int32) (m18 : Mem), L_X2_copyFrom_2 i0 j0 i1 j1 n20 v17 m18 = some (rv, mE) → G X K 2 [(0, .ref (xad X (2, i0, j0, 0))), (1, .ref (xad X (2, i1, j1, 0))), (2, .int v17)] [] m18 := by
    intro n20
    induction n20 with
    | zero => intro v17 m18 hF; exact nomatch (show (none : Option (Unit × Mem)) = some (rv, mE) from hF)
    | succ n20 ih20 =>
      intro v17 m18 hF
      rw [L_X2_copyFrom_2] at hF
      refine r_iload_n hk 2 (dtX2_copyFrom_0 2 (2, .iload_n 2, 1) rfl) rfl ?_
      refine r_bipush (v := 8) hk (dtX2_copyFrom_0 3 (3, .bipush 8, 2) rfl) (by decide) ?_
      refine r_icmp_ge hk 37 hF (dtX2_copyFrom_0 4 (5, .if_icmp .ge 32, 3) rfl) (by decide) (fun hF => ?_) (fun hF => ?_)
      · exact r_sub hk [0, 1] rfl (e37_2 m18 hF)
      · refine r_aload_n hk 0 (dtX2_copyFrom_0 5 (8, .aload_n 0, 1) rfl) rfl ?_
        refine r_iload_n hk 2 (dtX2_copyFrom_0 6 (9, .iload_n 2, 1) rfl) rfl ?_
        refine r_aload_n hk 1 (dtX2_copyFrom_0 7 (10, .aload_n 1, 1) rfl) rfl ?_
        refine r_getR hk (k := 0) (fsX2 X i1 j1) cbX2 (by decide) fl_X2_9 (in_tn i1 hi1 j1 hj1 0 (by decide)) (fun _ => rfl) (fun _ _ => rfl) (dtX2_copyFrom_0 8 (11, .getfield 9, 3) rfl) ?_
        refine r_iload_n hk 2 (dtX2_copyFrom_0 9 (14, .iload_n 2, 1) rfl) rfl ?_
        refine r_iald hk (in_tn i1 hi1 j1 hj1 1 (by decide)) (fun _ => rfl) hF (dtX2_copyFrom_0 10 (15, .iaload, 1) rfl) (fun v21 hF => ?_)
        refine r_aload_n hk 1 (dtX2_copyFrom_0 11 (16, .aload_n 1, 1) rfl) rfl ?_
        refine r_getR hk (k := 1) (fsX2 X i1 j1) cbX2 (by decide) fl_X2_15 (in_tn i1 hi1 j1 hj1 0 (by decide)) (fun _ => rfl) (fun _ _ => rfl) (dtX2_copyFrom_0 12 (17, .getfield 15, 3) rfl) ?_
        refine r_iload_n hk 2 (dtX2_copyFrom_0 13 (20, .iload_n 2, 1) rfl) rfl ?_
        refine r_iald hk (in_tn i1 hi1 j1 hj1 2 (by decide)) (fun _ => rfl) hF (dtX2_copyFrom_0 14 (21, .iaload, 1) rfl) (fun v22 hF => ?_)
        refine r_aload_n hk 1 (dtX2_copyFrom_0 15 (22, .aload_n 1, 1) rfl) rfl ?_
        refine r_getR hk (k := 2) (fsX2 X i1 j1) cbX2 (by decide) fl_X2_18 (in_tn i1 hi1 j1 hj1 0 (by decide)) (fun _ => rfl) (fun _ _ => rfl) (dtX2_copyFrom_0 16 (23, .getfield 18, 3) rfl) ?_
        refine r_iload_n hk 2 (dtX2_copyFrom_0 17 (26, .iload_n 2, 1) rfl) rfl ?_
        refine r_zald hk (in_tn i1 hi1 j1 hj1 3 (by decide)) (fun _ => rfl) hF (dtX2_copyFrom_0 18 (27, .baload, 1) rfl) (fun v23 hF => ?_)
        refine r_callVm hF (fun w m24 h H locs ls hH hS hl => run_V (y := yX2_define) hk (in_tn i0 hi0 j0 hj0 0 (by decide)) rfl rfl (c_X2_define (kl K) hk.2.2.2.2.2.2.2.2.2.2.2 X i0 hi0 j0 hj0 v17 v21 v22 v23 m18 w m24 h) lk_X2_29 me_X2_define yf_X2_define (by decide) (by decide) rfl (Nat.le_of_ble_eq_true rfl) rfl (dtX2_copyFrom_0 19 (28, .invokevirtual 29, 3) rfl) hH hS hl) (fun _ m24 hF => ?_)
        refine r_iinc hk 1 2 (fun v25 => [(2, .int v25), (0, .ref (xad X (2, i0, j0, 0))), (1, .ref (xad X (2, i1, j1, 0)))]) hF (dtX2_copyFrom_0 20 (31, .iinc 2 1, 3) rfl) rfl (by decide) (by decide) (fun _ => rfl) (fun v25 hF => ?_)
        refine r_goto hk 2 (dtX2_copyFrom_0 21 (34, .goto (-32), 3) rfl) (by decide) ?_
        exact r_sub hk [1, 2, 0] rfl (ih20 v25 m24 hF)
  exact r_sub hk [1, 2, 0] rfl (l20 fu 0 m0 hF)
set_option maxHeartbeats 4000000 in
set_option maxRecDepth 100000 in
theorem c_X1_copyFrom (l : Launch) (hlf : l.stackTraces = false) (X : XW) (i0 : Nat) (hi0 : i0 < 7) (i1 : Nat) (hi1 : i1 < 7)  (m0 : Mem) (rv : Unit) (mE : Mem) (hF : F_X1_copyFrom i0 i1 m0 = some (rv, mE)) : MX X l yX1_copyFrom cX1_copyFrom 3 none 2 [.ref (xad X (1, i0, 0, 0)), .ref (xad X (1, i1, 0, 0))] m0 (QV X mE) := by
  refine startV hlf (by decide +kernel) rfl [(0, .ref (xad X (1, i0, 0, 0))), (1, .ref (xad X (1, i1, 0, 0)))] rfl (Nat.le_of_ble_eq_true rfl) (fun K hk hR => ?_)
  unfold F_X1_copyFrom at hF
  refine r_iconst (v := 0) hk (dtX1_copyFrom_0 0 (0, .iconst 0, 1) rfl) (by decide) ?_
  refine r_istore_n hk [(2, .int 0), (0, .ref (xad X (1, i0, 0, 0))), (1, .ref (xad X (1, i1, 0, 0)))] (dtX1_copyFrom_0 1 (1, .istore_n 2, 1) rfl) (by decide) rfl ?_
  have e28_2 : ∀ (m1 : Mem), (C_X1_copyFrom_28 i0 i1) m1 = some (rv, mE) → G X K 28 [(0, .ref (xad X (1, i0, 0, 0))), (1, .ref (xad X (1, i1, 0, 0)))] [] m1 := by
    intro m1 hF
    unfold C_X1_copyFrom_28 at hF
    refine r_aload_n hk 0 (dtX1_copyFrom_0 16 (28, .aload_n 0, 1) rfl) rfl ?_
    refine r_aload_n hk 1 (dtX1_copyFrom_0 17 (29, .aload_n 1, 1) rfl) rfl ?_
    refine r_getI hk (k := 3) (fsX1 X i1) cbX1 (by decide) fl_X1_29 (in_st i1 hi1 0 (by decide)) (fun _ => rfl) (fun _ _ => rfl) hF (dtX1_copyFrom_0 18 (30, .getfield 29, 3) rfl) (fun v3 hF => ?_)
    refine r_putI hk (k := 3) (fsX1 X i0) cbX1 (by decide) fl_X1_29 (in_st i0 hi0 0 (by decide)) (fun _ => rfl) rfl rfl (fun _ _ _ => rfl) (fun _ _ => (by decide : 3 < 4)) hF (dtX1_copyFrom_0 19 (33, .putfield 29, 3) rfl) (fun m4 hF => ?_)
    refine r_aload_n hk 1 (dtX1_copyFrom_0 20 (36, .aload_n 1, 1) rfl) rfl ?_
    refine r_getR hk (k := 1) (fsX1 X i1) cbX1 (by decide) fl_X1_17 (in_st i1 hi1 0 (by decide)) (fun _ => rfl) (fun _ _ => rfl) (dtX1_copyFrom_0 21 (37, .getfield 17, 3) rfl) ?_
    refine r_iconst (v := 0) hk (dtX1_copyFrom_0 22 (40, .iconst 0, 1) rfl) (by decide) ?_
    refine r_aload_n hk 0 (dtX1_copyFrom_0 23 (41, .aload_n 0, 1) rfl) rfl ?_
    refine r_getR hk (k := 1) (fsX1 X i0) cbX1 (by decide) fl_X1_17 (in_st i0 hi0 0 (by decide)) (fun _ => rfl) (fun _ _ => rfl) (dtX1_copyFrom_0 24 (42, .getfield 17, 3) rfl) ?_
    refine r_iconst (v := 0) hk (dtX1_copyFrom_0 25 (45, .iconst 0, 1) rfl) (by decide) ?_
    refine r_aload_n hk 0 (dtX1_copyFrom_0 26 (46, .aload_n 0, 1) rfl) rfl ?_
    refine r_getI hk (k := 3) (fsX1 X i0) cbX1 (by decide) fl_X1_29 (in_st i0 hi0 0 (by decide)) (fun _ => rfl) (fun _ _ => rfl) hF (dtX1_copyFrom_0 27 (47, .getfield 29, 3) rfl) (fun v5 hF => ?_)
    refine r_copyi hk (in_st i1 hi1 2 (by decide)) (fun _ => rfl) (in_st i0 hi0 2 (by decide)) (fun _ => rfl) lk_X1_33 hF (by decide) (Nat.le_of_ble_eq_true rfl) (dtX1_copyFrom_0 28 (50, .invokestatic 33, 3) rfl) (fun m6 hF => ?_)
    refine r_aload_n hk 1 (dtX1_copyFrom_0 29 (53, .aload_n 1, 1) rfl) rfl ?_
    refine r_getR hk (k := 2) (fsX1 X i1) cbX1 (by decide) fl_X1_21 (in_st i1 hi1 0 (by decide)) (fun _ => rfl) (fun _ _ => rfl) (dtX1_copyFrom_0 30 (54, .getfield 21, 3) rfl) ?_
    refine r_iconst (v := 0) hk (dtX1_copyFrom_0 31 (57, .iconst 0, 1) rfl) (by decide) ?_
    refine r_aload_n hk 0 (dtX1_copyFrom_0 32 (58, .aload_n 0, 1) rfl) rfl ?_
    refine r_getR hk (k := 2) (fsX1 X i0) cbX1 (by decide) fl_X1_21 (in_st i0 hi0 0 (by decide)) (fun _ => rfl) (fun _ _ => rfl) (dtX1_copyFrom_0 33 (59, .getfield 21, 3) rfl) ?_
    refine r_iconst (v := 0) hk (dtX1_copyFrom_0 34 (62, .iconst 0, 1) rfl) (by decide) ?_
    refine r_aload_n hk 0 (dtX1_copyFrom_0 35 (63, .aload_n 0, 1) rfl) rfl ?_
    refine r_getI hk (k := 3) (fsX1 X i0) cbX1 (by decide) fl_X1_29 (in_st i0 hi0 0 (by decide)) (fun _ => rfl) (fun _ _ => rfl) hF (dtX1_copyFrom_0 36 (64, .getfield 29, 3) rfl) (fun v7 hF => ?_)
    refine r_bipush (v := 8) hk (dtX1_copyFrom_0 37 (67, .bipush 8, 2) rfl) (by decide) ?_
    refine r_imul hk hF (dtX1_copyFrom_0 38 (69, .imul, 1) rfl) (fun v8 hF => ?_)
    refine r_copyi hk (in_st i1 hi1 3 (by decide)) (fun _ => rfl) (in_st i0 hi0 3 (by decide)) (fun _ => rfl) lk_X1_33 hF (by decide) (Nat.le_of_ble_eq_true rfl) (dtX1_copyFrom_0 39 (70, .invokestatic 33, 3) rfl) (fun m9 hF => ?_)
    cases Option.some.inj hF
    exact hR _ _ (dtX1_copyFrom_0 40 (73, .return_, 1) rfl)
  have l13 : ∀ (n13 : Nat) (v10 : Int32) (m11 : Mem), L_X1_copyFrom_2 i0 i1 n13 v10 m11 = some (rv, mE) → G X K 2 [(0, .ref (xad X (1, i0, 0, 0))), (1, .ref (xad X (1, i1, 0, 0))), (2, .int v10)] [] m11 := by
    intro n13
    induction n13 with
    | zero => intro v10 m11 hF; exact nomatch (show (none : Option (Unit × Mem)) = some (rv, mE) from hF)
    | succ n13 ih13 =>
      intro v10 m11 hF
      rw [L_X1_copyFrom_2] at hF
      refine r_iload_n hk 2 (dtX1_copyFrom_0 2 (2, .iload_n 2, 1) rfl) rfl ?_
      refine r_iconst (v := 3) hk (dtX1_copyFrom_0 3 (3, .iconst 3, 1) rfl) (by decide) ?_
      refine r_icmp_ge hk 28 hF (dtX1_copyFrom_0 4 (4, .if_icmp .ge 24, 3) rfl) (by decide) (fun hF => ?_) (fun hF => ?_)
      · exact r_sub hk [0, 1] rfl (e28_2 m11 hF)
      · refine r_aload_n hk 0 (dtX1_copyFrom_0 5 (7, .aload_n 0, 1) rfl) rfl ?_
        refine r_getR hk (k := 0) (fsX1 X i0) cbX1 (by decide) fl_X1_11 (in_st i0 hi0 0 (by decide)) (fun _ => rfl) (fun _ _ => rfl) (dtX1_copyFrom_0 6 (8, .getfield 11, 3) rfl) ?_
        refine r_iload_n hk 2 (dtX1_copyFrom_0 7 (11, .iload_n 2, 1) rfl) rfl ?_
        refine r_aldT hk hi0 hF (dtX1_copyFrom_0 8 (12, .aaload, 1) rfl) (fun q14 hq14 hF => ?_)
        refine r_aload_n hk 1 (dtX1_copyFrom_0 9 (13, .aload_n 1, 1) rfl) rfl ?_
        refine r_getR hk (k := 0) (fsX1 X i1) cbX1 (by decide) fl_X1_11 (in_st i1 hi1 0 (by decide)) (fun _ => rfl) (fun _ _ => rfl) (dtX1_copyFrom_0 10 (14, .getfield 11, 3) rfl) ?_
        refine r_iload_n hk 2 (dtX1_copyFrom_0 11 (17, .iload_n 2, 1) rfl) rfl ?_
        refine r_aldT hk hi1 hF (dtX1_copyFrom_0 12 (18, .aaload, 1) rfl) (fun q15 hq15 hF => ?_)
        refine r_callVm hF (fun w m16 h H locs ls hH hS hl => run_V (y := yX2_copyFrom) hk (in_tn i0 hi0 q14 hq14 0 (by decide)) rfl rfl (c_X2_copyFrom (kl K) hk.2.2.2.2.2.2.2.2.2.2.2 X i0 hi0 q14 hq14 i1 hi1 q15 hq15  m11 w m16 h) lk_X1_25 me_X2_copyFrom yf_X2_copyFrom (by decide) (by decide) rfl (Nat.le_of_ble_eq_true rfl) rfl (dtX1_copyFrom_0 13 (19, .invokevirtual 25, 3) rfl) hH hS hl) (fun _ m16 hF => ?_)
        refine r_iinc hk 1 2 (fun v17 => [(2, .int v17), (0, .ref (xad X (1, i0, 0, 0))), (1, .ref (xad X (1, i1, 0, 0)))]) hF (dtX1_copyFrom_0 14 (22, .iinc 2 1, 3) rfl) rfl (by decide) (by decide) (fun _ => rfl) (fun v17 hF => ?_)
        refine r_goto hk 2 (dtX1_copyFrom_0 15 (25, .goto (-23), 3) rfl) (by decide) ?_
        exact r_sub hk [1, 2, 0] rfl (ih13 v17 m16 hF)
  exact r_sub hk [1, 2, 0] rfl (l13 fu 0 m0 hF)
set_option maxHeartbeats 4000000 in
set_option maxRecDepth 100000 in
theorem c_X3_save (l : Launch) (hlf : l.stackTraces = false) (X : XW)   (m0 : Mem) (rv : Nat) (mE : Mem) (hF : F_X3_save m0 = some (rv, mE)) : MX X l yX3_save cX3_save 3 (some (.object RX1)) 3 [.ref (xad X (0, 0, 0, 0))] m0 (QR X (xad X (1, rv, 0, 0)) mE) := by
  refine startR hlf (by decide +kernel) rfl [(0, .ref (xad X (0, 0, 0, 0)))] rfl (Nat.le_of_ble_eq_true rfl) (fun K hk hR => ?_)
  unfold F_X3_save at hF
  refine r_aload_n hk 0 (dtX3_save_0 0 (0, .aload_n 0, 1) rfl) rfl ?_
  refine r_getI hk (k := 5) (fsX3 X) cbX3 (by decide) fl_X3_179 (in_main 0 (by decide)) (fun _ => rfl) (fun _ _ => rfl) hF (dtX3_save_0 1 (1, .getfield 179, 3) rfl) (fun v1 hF => ?_)
  refine r_bipush (v := 6) hk (dtX3_save_0 2 (4, .bipush 6, 2) rfl) (by decide) ?_
  have j56_3 : ∀ (m2 : Mem), J_X3_save_56 m2 = some (rv, mE) → G X K 56 [(0, .ref (xad X (0, 0, 0, 0)))] [] m2 := by
    intro m2 hF
    unfold J_X3_save_56 at hF
    refine r_aload_n hk 0 (dtX3_save_0 34 (56, .aload_n 0, 1) rfl) rfl ?_
    refine r_getR hk (k := 0) (fsX3 X) cbX3 (by decide) fl_X3_11 (in_main 0 (by decide)) (fun _ => rfl) (fun _ _ => rfl) (dtX3_save_0 35 (57, .getfield 11, 3) rfl) ?_
    refine r_aload_n hk 0 (dtX3_save_0 36 (60, .aload_n 0, 1) rfl) rfl ?_
    refine r_getI hk (k := 5) (fsX3 X) cbX3 (by decide) fl_X3_179 (in_main 0 (by decide)) (fun _ => rfl) (fun _ _ => rfl) hF (dtX3_save_0 37 (61, .getfield 179, 3) rfl) (fun v4 hF => ?_)
    refine r_aldS hk hF (dtX3_save_0 38 (64, .aaload, 1) rfl) (fun q5 hq5 hF => ?_)
    refine r_astore_n hk [(1, .ref (xad X (1, q5, 0, 0))), (0, .ref (xad X (0, 0, 0, 0)))] (dtX3_save_0 39 (65, .astore_n 1, 1) rfl) (by decide) rfl ?_
    refine r_aload_n hk 0 (dtX3_save_0 40 (66, .aload_n 1, 1) rfl) rfl ?_
    refine r_aload_n hk 1 (dtX3_save_0 41 (67, .aload_n 0, 1) rfl) rfl ?_
    refine r_getS hk fl_X3_30 hF (dtX3_save_0 42 (68, .getfield 30, 3) rfl) (fun q6 hq6 hF => ?_)
    refine r_callVm hF (fun w m7 h H locs ls hH hS hl => run_V (y := yX1_copyFrom) hk (in_st q5 hq5 0 (by decide)) rfl rfl (c_X1_copyFrom (kl K) hk.2.2.2.2.2.2.2.2.2.2.2 X q5 hq5 q6 hq6  m2 w m7 h) lk_X3_277 me_X1_copyFrom yf_X1_copyFrom (by decide) (by decide) rfl (Nat.le_of_ble_eq_true rfl) rfl (dtX3_save_0 43 (71, .invokevirtual 277, 3) rfl) hH hS hl) (fun _ m7 hF => ?_)
    refine r_aload_n hk 1 (dtX3_save_0 44 (74, .aload_n 0, 1) rfl) rfl ?_
    refine r_dup hk (dtX3_save_0 45 (75, .dup, 1) rfl) rfl ?_
    refine r_getI hk (k := 5) (fsX3 X) cbX3 (by decide) fl_X3_179 (in_main 0 (by decide)) (fun _ => rfl) (fun _ _ => rfl) hF (dtX3_save_0 46 (76, .getfield 179, 3) rfl) (fun v8 hF => ?_)
    refine r_iconst (v := 1) hk (dtX3_save_0 47 (79, .iconst 1, 1) rfl) (by decide) ?_
    refine r_iadd hk hF (dtX3_save_0 48 (80, .iadd, 1) rfl) (fun v9 hF => ?_)
    refine r_putI hk (k := 5) (fsX3 X) cbX3 (by decide) fl_X3_179 (in_main 0 (by decide)) (fun _ => rfl) rfl rfl (fun _ _ _ => rfl) (fun _ _ => (by decide : 5 < 7)) hF (dtX3_save_0 49 (81, .putfield 179, 3) rfl) (fun m10 hF => ?_)
    refine r_aload_n hk 0 (dtX3_save_0 50 (84, .aload_n 1, 1) rfl) rfl ?_
    cases Option.some.inj hF
    exact hR _ _ (dtX3_save_0 51 (85, .areturn, 1) rfl)
  refine r_icmp_lt hk 56 hF (dtX3_save_0 3 (6, .if_icmp .lt 50, 3) rfl) (by decide) (fun hF => ?_) (fun hF => ?_)
  · exact r_sub hk [0] rfl (j56_3 m0 hF)
  · refine r_aload_n hk 0 (dtX3_save_0 4 (9, .aload_n 0, 1) rfl) rfl ?_
    refine r_getR hk (k := 0) (fsX3 X) cbX3 (by decide) fl_X3_11 (in_main 0 (by decide)) (fun _ => rfl) (fun _ _ => rfl) (dtX3_save_0 5 (10, .getfield 11, 3) rfl) ?_
    refine r_iconst (v := 0) hk (dtX3_save_0 6 (13, .iconst 0, 1) rfl) (by decide) ?_
    refine r_aldS hk hF (dtX3_save_0 7 (14, .aaload, 1) rfl) (fun q11 hq11 hF => ?_)
    refine r_astore_n hk [(1, .ref (xad X (1, q11, 0, 0))), (0, .ref (xad X (0, 0, 0, 0)))] (dtX3_save_0 8 (15, .astore_n 1, 1) rfl) (by decide) rfl ?_
    refine r_iconst (v := 1) hk (dtX3_save_0 9 (16, .iconst 1, 1) rfl) (by decide) ?_
    refine r_istore_n hk [(2, .int 1), (1, .ref (xad X (1, q11, 0, 0))), (0, .ref (xad X (0, 0, 0, 0)))] (dtX3_save_0 10 (17, .istore_n 2, 1) rfl) (by decide) rfl ?_
    have e44_13 : ∀ (m12 : Mem), (C_X3_save_44 q11) m12 = some (rv, mE) → G X K 44 [(0, .ref (xad X (0, 0, 0, 0))), (1, .ref (xad X (1, q11, 0, 0)))] [] m12 := by
      intro m12 hF
      unfold C_X3_save_44 at hF
      refine r_aload_n hk 0 (dtX3_save_0 26 (44, .aload_n 0, 1) rfl) rfl ?_
      refine r_getR hk (k := 0) (fsX3 X) cbX3 (by decide) fl_X3_11 (in_main 0 (by decide)) (fun _ => rfl) (fun _ _ => rfl) (dtX3_save_0 27 (45, .getfield 11, 3) rfl) ?_
      refine r_iconst (v := 5) hk (dtX3_save_0 28 (48, .iconst 5, 1) rfl) (by decide) ?_
      refine r_aload_n hk 1 (dtX3_save_0 29 (49, .aload_n 1, 1) rfl) rfl ?_
      refine r_aastS hk hq11 hF (dtX3_save_0 30 (50, .aastore, 1) rfl) (fun m14 hF => ?_)
      refine r_aload_n hk 0 (dtX3_save_0 31 (51, .aload_n 0, 1) rfl) rfl ?_
      refine r_iconst (v := 5) hk (dtX3_save_0 32 (52, .iconst 5, 1) rfl) (by decide) ?_
      refine r_putI hk (k := 5) (fsX3 X) cbX3 (by decide) fl_X3_179 (in_main 0 (by decide)) (fun _ => rfl) rfl rfl (fun _ _ _ => rfl) (fun _ _ => (by decide : 5 < 7)) hF (dtX3_save_0 33 (53, .putfield 179, 3) rfl) (fun m15 hF => ?_)
      exact r_sub hk [0] rfl (j56_3 m15 hF)
    have l19 : ∀ (n19 : Nat) (v16 : Int32) (m17 : Mem), L_X3_save_18 q11 n19 v16 m17 = some (rv, mE) → G X K 18 [(0, .ref (xad X (0, 0, 0, 0))), (1, .ref (xad X (1, q11, 0, 0))), (2, .int v16)] [] m17 := by
      intro n19
      induction n19 with
      | zero => intro v16 m17 hF; exact nomatch (show (none : Option (Nat × Mem)) = some (rv, mE) from hF)
      | succ n19 ih19 =>
        intro v16 m17 hF
        rw [L_X3_save_18] at hF
        refine r_iload_n hk 2 (dtX3_save_0 11 (18, .iload_n 2, 1) rfl) rfl ?_
        refine r_bipush (v := 6) hk (dtX3_save_0 12 (19, .bipush 6, 2) rfl) (by decide) ?_
        refine r_icmp_ge hk 44 hF (dtX3_save_0 13 (21, .if_icmp .ge 23, 3) rfl) (by decide) (fun hF => ?_) (fun hF => ?_)
        · exact r_sub hk [0, 1] rfl (e44_13 m17 hF)
        · refine r_aload_n hk 0 (dtX3_save_0 14 (24, .aload_n 0, 1) rfl) rfl ?_
          refine r_getR hk (k := 0) (fsX3 X) cbX3 (by decide) fl_X3_11 (in_main 0 (by decide)) (fun _ => rfl) (fun _ _ => rfl) (dtX3_save_0 15 (25, .getfield 11, 3) rfl) ?_
          refine r_iload_n hk 2 (dtX3_save_0 16 (28, .iload_n 2, 1) rfl) rfl ?_
          refine r_iconst (v := 1) hk (dtX3_save_0 17 (29, .iconst 1, 1) rfl) (by decide) ?_
          refine r_isub hk hF (dtX3_save_0 18 (30, .isub, 1) rfl) (fun v20 hF => ?_)
          refine r_aload_n hk 0 (dtX3_save_0 19 (31, .aload_n 0, 1) rfl) rfl ?_
          refine r_getR hk (k := 0) (fsX3 X) cbX3 (by decide) fl_X3_11 (in_main 0 (by decide)) (fun _ => rfl) (fun _ _ => rfl) (dtX3_save_0 20 (32, .getfield 11, 3) rfl) ?_
          refine r_iload_n hk 2 (dtX3_save_0 21 (35, .iload_n 2, 1) rfl) rfl ?_
          refine r_aldS hk hF (dtX3_save_0 22 (36, .aaload, 1) rfl) (fun q21 hq21 hF => ?_)
          refine r_aastS hk hq21 hF (dtX3_save_0 23 (37, .aastore, 1) rfl) (fun m22 hF => ?_)
          refine r_iinc hk 1 2 (fun v23 => [(2, .int v23), (0, .ref (xad X (0, 0, 0, 0))), (1, .ref (xad X (1, q11, 0, 0)))]) hF (dtX3_save_0 24 (38, .iinc 2 1, 3) rfl) rfl (by decide) (by decide) (fun _ => rfl) (fun v23 hF => ?_)
          refine r_goto hk 18 (dtX3_save_0 25 (41, .goto (-23), 3) rfl) (by decide) ?_
          exact r_sub hk [1, 2, 0] rfl (ih19 v23 m22 hF)
    exact r_sub hk [2, 1, 0] rfl (l19 fu 1 m0 hF)
set_option maxHeartbeats 4000000 in
set_option maxRecDepth 100000 in
theorem c_X2_refuse (l : Launch) (hlf : l.stackTraces = false) (X : XW) (i0 : Nat) (hi0 : i0 < 7) (j0 : Nat) (hj0 : j0 < 3) (p1 : Int32) (m0 : Mem) (rv : Int32) (mE : Mem) (hF : F_X2_refuse i0 j0 p1 m0 = some (rv, mE)) : MX X l yX2_refuse cX2_refuse 2 (some .int) 0 [.ref (xad X (2, i0, j0, 0)), .int p1] m0 (QI X rv mE) := by
  refine startI hlf (by decide +kernel) rfl [(0, .ref (xad X (2, i0, j0, 0))), (1, .int p1)] rfl (Nat.le_of_ble_eq_true rfl) (fun K hk hR => ?_)
  unfold F_X2_refuse at hF
  refine r_aload_n hk 0 (dtX2_refuse_0 0 (0, .aload_n 0, 1) rfl) rfl ?_
  refine r_dup hk (dtX2_refuse_0 1 (1, .dup, 1) rfl) rfl ?_
  refine r_getI hk (k := 9) (fsX2 X i0 j0) cbX2 (by decide) fl_X2_46 (in_tn i0 hi0 j0 hj0 0 (by decide)) (fun _ => rfl) (fun _ _ => rfl) hF (dtX2_refuse_0 2 (2, .getfield 46, 3) rfl) (fun v1 hF => ?_)
  refine r_iconst (v := 1) hk (dtX2_refuse_0 3 (5, .iconst 1, 1) rfl) (by decide) ?_
  refine r_iadd hk hF (dtX2_refuse_0 4 (6, .iadd, 1) rfl) (fun v2 hF => ?_)
  refine r_putI hk (k := 9) (fsX2 X i0 j0) cbX2 (by decide) fl_X2_46 (in_tn i0 hi0 j0 hj0 0 (by decide)) (fun _ => rfl) rfl rfl (fun _ _ _ => rfl) (fun _ _ => (by decide : 9 < 10)) hF (dtX2_refuse_0 5 (7, .putfield 46, 3) rfl) (fun m3 hF => ?_)
  refine r_iload_n hk 1 (dtX2_refuse_0 6 (10, .iload_n 1, 1) rfl) rfl ?_
  refine r_ineg hk hF (dtX2_refuse_0 7 (11, .ineg, 1) rfl) (fun v4 hF => ?_)
  refine r_iconst (v := 1) hk (dtX2_refuse_0 8 (12, .iconst 1, 1) rfl) (by decide) ?_
  refine r_isub hk hF (dtX2_refuse_0 9 (13, .isub, 1) rfl) (fun v5 hF => ?_)
  cases Option.some.inj hF
  exact hR _ _ (dtX2_refuse_0 10 (14, .ireturn, 1) rfl)
set_option maxHeartbeats 4000000 in
set_option maxRecDepth 100000 in
theorem c_X3_mean (l : Launch) (hlf : l.stackTraces = false) (X : XW)  (p1 : Int32) (p2 : Int32) (p3 : Int32) (m0 : Mem) (rv : Int32 ⊕ Nat) (mE : Mem) (hF : F_X3_mean p1 p2 p3 m0 = some (rv, mE)) : MT X l yX3_mean cX3_mean 6 (some .int) 8 [.ref (xad X (0, 0, 0, 0)), .int p1, .int p2, .int p3] m0 rv mE (QTI X rv mE) := by
  refine startTI hlf (by decide +kernel) rfl [(0, .ref (xad X (0, 0, 0, 0))), (1, .int p1), (2, .int p2), (3, .int p3)] rfl (Nat.le_of_ble_eq_true rfl) (fun K hk hR hX => ?_)
  unfold F_X3_mean at hF
  refine r_iload_n hk 1 (dtX3_mean_0 0 (0, .iload_n 1, 1) rfl) rfl ?_
  refine r_callI hF (fun v1 h H locs ls hH hS hl => run_S hk (c_X3_isTenant (kl K) hk.2.2.2.2.2.2.2.2.2.2.2 X  p1 m0 v1 h) lk_X3_34 me_X3_isTenant yf_X3_isTenant (by decide) (by decide) rfl (Nat.le_of_ble_eq_true rfl) rfl (dtX3_mean_0 1 (1, .invokestatic 34, 3) rfl) hH hS hl) (fun v1 hF => ?_)
  have j28_3 : ∀ (v2 : Int32), (J_X3_mean_28 p1 p2 p3 m0) v2 = some (rv, mE) → G X K 28 [(0, .ref (xad X (0, 0, 0, 0))), (1, .int p1), (2, .int p2), (3, .int p3)] [.int v2] m0 := by
    intro v2 hF
    unfold J_X3_mean_28 at hF
    refine r_callVts hk hF (fun c h => by cases Option.some.inj h; exact hX c rfl) (fun R h hf H locs ls hH hS hl => runT_S hk (c_X3_require (kl K) hk.2.2.2.2.2.2.2.2.2.2.2 X  v2 m0 R h) lk_X3_41 me_X3_require yf_X3_require (by decide) (by decide) rfl (Nat.le_of_ble_eq_true rfl) rfl (dtX3_mean_0 14 (28, .invokestatic 41, 3) rfl) hf hH hS hl) (fun _ hF => ?_)
    refine r_aload_n hk 0 (dtX3_mean_0 15 (31, .aload_n 0, 1) rfl) rfl ?_
    refine r_callRm (fun q => xad X (1, q, 0, 0)) hF (fun q4 m5 h H locs ls hH hS hl => run_V (y := yX3_save) hk (in_main 0 (by decide)) rfl rfl (c_X3_save (kl K) hk.2.2.2.2.2.2.2.2.2.2.2 X   m0 q4 m5 h) lk_X3_45 me_X3_save yf_X3_save (by decide) (by decide) rfl (Nat.le_of_ble_eq_true rfl) rfl (dtX3_mean_0 16 (32, .invokevirtual 45, 3) rfl) hH hS hl) (fun q4 m5 _ hF => ?_)
    obtain ⟨hq4, hF⟩ := bp_some hF
    refine r_pop hk (dtX3_mean_0 17 (35, .pop, 1) rfl) rfl ?_
    refine r_aload_n hk 0 (dtX3_mean_0 18 (36, .aload_n 0, 1) rfl) rfl ?_
    refine r_getS hk fl_X3_30 hF (dtX3_mean_0 19 (37, .getfield 30, 3) rfl) (fun q6 hq6 hF => ?_)
    refine r_getR hk (k := 0) (fsX1 X q6) cbX1 (by decide) fl_X3_49 (in_st q6 hq6 0 (by decide)) (fun _ => rfl) (fun _ _ => rfl) (dtX3_mean_0 20 (40, .getfield 49, 3) rfl) ?_
    refine r_iload_n hk 1 (dtX3_mean_0 21 (43, .iload_n 1, 1) rfl) rfl ?_
    refine r_aldT hk hq6 hF (dtX3_mean_0 22 (44, .aaload, 1) rfl) (fun q7 hq7 hF => ?_)
    refine r_astore hk [(4, .ref (xad X (2, q6, q7, 0))), (0, .ref (xad X (0, 0, 0, 0))), (1, .int p1), (2, .int p2), (3, .int p3)] (dtX3_mean_0 23 (45, .astore 4, 2) rfl) (by decide) rfl ?_
    refine r_aload hk 0 (dtX3_mean_0 24 (47, .aload 4, 2) rfl) rfl ?_
    refine r_callI hF (fun v8 h H locs ls hH hS hl => run_V (y := yX2_meanings) hk (in_tn q6 hq6 q7 hq7 0 (by decide)) rfl rfl (c_X2_meanings (kl K) hk.2.2.2.2.2.2.2.2.2.2.2 X q6 hq6 q7 hq7  m5 v8 h) lk_X3_53 me_X2_meanings yf_X2_meanings (by decide) (by decide) rfl (Nat.le_of_ble_eq_true rfl) rfl (dtX3_mean_0 25 (49, .invokevirtual 53, 3) rfl) hH hS hl) (fun v8 hF => ?_)
    refine r_aload hk 0 (dtX3_mean_0 26 (52, .aload 4, 2) rfl) rfl ?_
    refine r_getI hk (k := 4) (fsX2 X q6 q7) cbX2 (by decide) fl_X3_59 (in_tn q6 hq6 q7 hq7 0 (by decide)) (fun _ => rfl) (fun _ _ => rfl) hF (dtX3_mean_0 27 (54, .getfield 59, 3) rfl) (fun v9 hF => ?_)
    refine r_icmp_lt hk 67 hF (dtX3_mean_0 28 (57, .if_icmp .lt 10, 3) rfl) (by decide) (fun hF => ?_) (fun hF => ?_)
    · refine r_aload hk 0 (dtX3_mean_0 33 (67, .aload 4, 2) rfl) rfl ?_
      refine r_iload_n hk 3 (dtX3_mean_0 34 (69, .iload_n 2, 1) rfl) rfl ?_
      refine r_callI hF (fun v10 h H locs ls hH hS hl => run_V (y := yX2_columnOf) hk (in_tn q6 hq6 q7 hq7 0 (by decide)) rfl rfl (c_X2_columnOf (kl K) hk.2.2.2.2.2.2.2.2.2.2.2 X q6 hq6 q7 hq7 p2 m5 v10 h) lk_X3_67 me_X2_columnOf yf_X2_columnOf (by decide) (by decide) rfl (Nat.le_of_ble_eq_true rfl) rfl (dtX3_mean_0 35 (70, .invokevirtual 67, 3) rfl) hH hS hl) (fun v10 hF => ?_)
      refine r_iconst (v := (-1)) hk (dtX3_mean_0 36 (73, .iconst (-1), 1) rfl) (by decide) ?_
      refine r_icmp_eq hk 84 hF (dtX3_mean_0 37 (74, .if_icmp .eq 10, 3) rfl) (by decide) (fun hF => ?_) (fun hF => ?_)
      · refine r_aload hk 0 (dtX3_mean_0 42 (84, .aload 4, 2) rfl) rfl ?_
        refine r_iconst (v := (-1)) hk (dtX3_mean_0 43 (86, .iconst (-1), 1) rfl) (by decide) ?_
        refine r_callI hF (fun v11 h H locs ls hH hS hl => run_V (y := yX2_columnOf) hk (in_tn q6 hq6 q7 hq7 0 (by decide)) rfl rfl (c_X2_columnOf (kl K) hk.2.2.2.2.2.2.2.2.2.2.2 X q6 hq6 q7 hq7 (-1) m5 v11 h) lk_X3_67 me_X2_columnOf yf_X2_columnOf (by decide) (by decide) rfl (Nat.le_of_ble_eq_true rfl) rfl (dtX3_mean_0 44 (87, .invokevirtual 67, 3) rfl) hH hS hl) (fun v11 hF => ?_)
        refine r_istore hk [(5, .int v11), (4, .ref (xad X (2, q6, q7, 0))), (0, .ref (xad X (0, 0, 0, 0))), (1, .int p1), (2, .int p2), (3, .int p3)] (dtX3_mean_0 45 (90, .istore 5, 2) rfl) (by decide) rfl ?_
        refine r_iload hk 0 (dtX3_mean_0 46 (92, .iload 5, 2) rfl) rfl ?_
        refine r_iconst (v := (-1)) hk (dtX3_mean_0 47 (94, .iconst (-1), 1) rfl) (by decide) ?_
        refine r_icmp_ne hk 105 hF (dtX3_mean_0 48 (95, .if_icmp .ne 10, 3) rfl) (by decide) (fun hF => ?_) (fun hF => ?_)
        · refine r_aload hk 1 (dtX3_mean_0 53 (105, .aload 4, 2) rfl) rfl ?_
          refine r_iload hk 0 (dtX3_mean_0 54 (107, .iload 5, 2) rfl) rfl ?_
          refine r_iload_n hk 4 (dtX3_mean_0 55 (109, .iload_n 2, 1) rfl) rfl ?_
          refine r_iload_n hk 5 (dtX3_mean_0 56 (110, .iload_n 3, 1) rfl) rfl ?_
          refine r_iconst (v := 0) hk (dtX3_mean_0 57 (111, .iconst 0, 1) rfl) (by decide) ?_
          refine r_callVm hF (fun w m12 h H locs ls hH hS hl => run_V (y := yX2_define) hk (in_tn q6 hq6 q7 hq7 0 (by decide)) rfl rfl (c_X2_define (kl K) hk.2.2.2.2.2.2.2.2.2.2.2 X q6 hq6 q7 hq7 v11 p2 p3 0 m5 w m12 h) lk_X3_70 me_X2_define yf_X2_define (by decide) (by decide) rfl (Nat.le_of_ble_eq_true rfl) rfl (dtX3_mean_0 58 (112, .invokevirtual 70, 3) rfl) hH hS hl) (fun _ m12 hF => ?_)
          refine r_iload hk 0 (dtX3_mean_0 59 (115, .iload 5, 2) rfl) rfl ?_
          cases Option.some.inj hF
          exact hR v11 rfl _ _ (dtX3_mean_0 60 (117, .ireturn, 1) rfl)
        · refine r_aload hk 1 (dtX3_mean_0 49 (98, .aload 4, 2) rfl) rfl ?_
          refine r_iconst (v := 4) hk (dtX3_mean_0 50 (100, .iconst 4, 1) rfl) (by decide) ?_
          refine r_callIm hF (fun v13 m14 h H locs ls hH hS hl => run_V (y := yX2_refuse) hk (in_tn q6 hq6 q7 hq7 0 (by decide)) rfl rfl (c_X2_refuse (kl K) hk.2.2.2.2.2.2.2.2.2.2.2 X q6 hq6 q7 hq7 4 m5 v13 m14 h) lk_X3_63 me_X2_refuse yf_X2_refuse (by decide) (by decide) rfl (Nat.le_of_ble_eq_true rfl) rfl (dtX3_mean_0 51 (101, .invokevirtual 63, 3) rfl) hH hS hl) (fun v13 m14 hF => ?_)
          cases Option.some.inj hF
          exact hR v13 rfl _ _ (dtX3_mean_0 52 (104, .ireturn, 1) rfl)
      · refine r_aload hk 0 (dtX3_mean_0 38 (77, .aload 4, 2) rfl) rfl ?_
        refine r_iconst (v := 3) hk (dtX3_mean_0 39 (79, .iconst 3, 1) rfl) (by decide) ?_
        refine r_callIm hF (fun v15 m16 h H locs ls hH hS hl => run_V (y := yX2_refuse) hk (in_tn q6 hq6 q7 hq7 0 (by decide)) rfl rfl (c_X2_refuse (kl K) hk.2.2.2.2.2.2.2.2.2.2.2 X q6 hq6 q7 hq7 3 m5 v15 m16 h) lk_X3_63 me_X2_refuse yf_X2_refuse (by decide) (by decide) rfl (Nat.le_of_ble_eq_true rfl) rfl (dtX3_mean_0 40 (80, .invokevirtual 63, 3) rfl) hH hS hl) (fun v15 m16 hF => ?_)
        cases Option.some.inj hF
        exact hR v15 rfl _ _ (dtX3_mean_0 41 (83, .ireturn, 1) rfl)
    · refine r_aload hk 0 (dtX3_mean_0 29 (60, .aload 4, 2) rfl) rfl ?_
      refine r_iconst (v := 1) hk (dtX3_mean_0 30 (62, .iconst 1, 1) rfl) (by decide) ?_
      refine r_callIm hF (fun v17 m18 h H locs ls hH hS hl => run_V (y := yX2_refuse) hk (in_tn q6 hq6 q7 hq7 0 (by decide)) rfl rfl (c_X2_refuse (kl K) hk.2.2.2.2.2.2.2.2.2.2.2 X q6 hq6 q7 hq7 1 m5 v17 m18 h) lk_X3_63 me_X2_refuse yf_X2_refuse (by decide) (by decide) rfl (Nat.le_of_ble_eq_true rfl) rfl (dtX3_mean_0 31 (63, .invokevirtual 63, 3) rfl) hH hS hl) (fun v17 m18 hF => ?_)
      cases Option.some.inj hF
      exact hR v17 rfl _ _ (dtX3_mean_0 32 (66, .ireturn, 1) rfl)
  have j27_19 : (J_X3_mean_27 p1 p2 p3 m0) = some (rv, mE) → G X K 27 [(0, .ref (xad X (0, 0, 0, 0))), (1, .int p1), (2, .int p2), (3, .int p3)] [] m0 := by
    intro hF
    unfold J_X3_mean_27 at hF
    refine r_iconst (v := 0) hk (dtX3_mean_0 13 (27, .iconst 0, 1) rfl) (by decide) ?_
    exact r_sub hk [0, 1, 2, 3] rfl (j28_3 0 hF)
  refine r_if_eq hk 27 hF (dtX3_mean_0 2 (4, .ifCond .eq 23, 3) rfl) (by decide) (fun hF => ?_) (fun hF => ?_)
  · exact r_sub hk [0, 1, 2, 3] rfl (j27_19 hF)
  · refine r_iload_n hk 2 (dtX3_mean_0 3 (7, .iload_n 2, 1) rfl) rfl ?_
    refine r_callI hF (fun v20 h H locs ls hH hS hl => run_S hk (c_X3_isLetter (kl K) hk.2.2.2.2.2.2.2.2.2.2.2 X  p2 m0 v20 h) lk_X3_38 me_X3_isLetter yf_X3_isLetter (by decide) (by decide) rfl (Nat.le_of_ble_eq_true rfl) rfl (dtX3_mean_0 4 (8, .invokestatic 38, 3) rfl) hH hS hl) (fun v20 hF => ?_)
    refine r_if_eq hk 27 hF (dtX3_mean_0 5 (11, .ifCond .eq 16, 3) rfl) (by decide) (fun hF => ?_) (fun hF => ?_)
    · exact r_sub hk [0, 1, 2, 3] rfl (j27_19 hF)
    · refine r_iload_n hk 3 (dtX3_mean_0 6 (14, .iload_n 3, 1) rfl) rfl ?_
      refine r_if_lt hk 27 hF (dtX3_mean_0 7 (15, .ifCond .lt 12, 3) rfl) (by decide) (fun hF => ?_) (fun hF => ?_)
      · exact r_sub hk [0, 1, 2, 3] rfl (j27_19 hF)
      · refine r_iload_n hk 3 (dtX3_mean_0 8 (18, .iload_n 3, 1) rfl) rfl ?_
        refine r_iconst (v := 2) hk (dtX3_mean_0 9 (19, .iconst 2, 1) rfl) (by decide) ?_
        refine r_icmp_gt hk 27 hF (dtX3_mean_0 10 (20, .if_icmp .gt 7, 3) rfl) (by decide) (fun hF => ?_) (fun hF => ?_)
        · exact r_sub hk [0, 1, 2, 3] rfl (j27_19 hF)
        · refine r_iconst (v := 1) hk (dtX3_mean_0 11 (23, .iconst 1, 1) rfl) (by decide) ?_
          refine r_goto hk 28 (dtX3_mean_0 12 (24, .goto 4, 3) rfl) (by decide) ?_
          exact r_sub hk [0, 1, 2, 3] rfl (j28_3 1 hF)
set_option maxHeartbeats 4000000 in
set_option maxRecDepth 100000 in
theorem c_X1_setValue (l : Launch) (hlf : l.stackTraces = false) (X : XW) (i0 : Nat) (hi0 : i0 < 7) (p1 : Int32) (p2 : Int32) (p3 : Int32) (m0 : Mem) (rv : Unit) (mE : Mem) (hF : F_X1_setValue i0 p1 p2 p3 m0 = some (rv, mE)) : MX X l yX1_setValue cX1_setValue 4 none 0 [.ref (xad X (1, i0, 0, 0)), .int p1, .int p2, .int p3] m0 (QV X mE) := by
  refine startV hlf (by decide +kernel) rfl [(0, .ref (xad X (1, i0, 0, 0))), (1, .int p1), (2, .int p2), (3, .int p3)] rfl (Nat.le_of_ble_eq_true rfl) (fun K hk hR => ?_)
  unfold F_X1_setValue at hF
  refine r_iload_n hk 1 (dtX1_setValue_0 0 (0, .iload_n 1, 1) rfl) rfl ?_
  have j34_2 : ∀ (m1 : Mem), J_X1_setValue_34 m1 = some (rv, mE) → G X K 34 [] [] m1 := by
    intro m1 hF
    unfold J_X1_setValue_34 at hF
    cases Option.some.inj hF
    exact hR _ _ (dtX1_setValue_0 20 (34, .return_, 1) rfl)
  refine r_if_lt hk 34 hF (dtX1_setValue_0 1 (1, .ifCond .lt 33, 3) rfl) (by decide) (fun hF => ?_) (fun hF => ?_)
  · exact r_sub hk [] rfl (j34_2 m0 hF)
  · refine r_iload_n hk 1 (dtX1_setValue_0 2 (4, .iload_n 1, 1) rfl) rfl ?_
    refine r_aload_n hk 0 (dtX1_setValue_0 3 (5, .aload_n 0, 1) rfl) rfl ?_
    refine r_getI hk (k := 3) (fsX1 X i0) cbX1 (by decide) fl_X1_29 (in_st i0 hi0 0 (by decide)) (fun _ => rfl) (fun _ _ => rfl) hF (dtX1_setValue_0 4 (6, .getfield 29, 3) rfl) (fun v3 hF => ?_)
    refine r_icmp_ge hk 34 hF (dtX1_setValue_0 5 (9, .if_icmp .ge 25, 3) rfl) (by decide) (fun hF => ?_) (fun hF => ?_)
    · exact r_sub hk [] rfl (j34_2 m0 hF)
    · refine r_iload_n hk 2 (dtX1_setValue_0 6 (12, .iload_n 2, 1) rfl) rfl ?_
      refine r_if_lt hk 34 hF (dtX1_setValue_0 7 (13, .ifCond .lt 21, 3) rfl) (by decide) (fun hF => ?_) (fun hF => ?_)
      · exact r_sub hk [] rfl (j34_2 m0 hF)
      · refine r_iload_n hk 2 (dtX1_setValue_0 8 (16, .iload_n 2, 1) rfl) rfl ?_
        refine r_bipush (v := 8) hk (dtX1_setValue_0 9 (17, .bipush 8, 2) rfl) (by decide) ?_
        refine r_icmp_ge hk 34 hF (dtX1_setValue_0 10 (19, .if_icmp .ge 15, 3) rfl) (by decide) (fun hF => ?_) (fun hF => ?_)
        · exact r_sub hk [] rfl (j34_2 m0 hF)
        · refine r_aload_n hk 0 (dtX1_setValue_0 11 (22, .aload_n 0, 1) rfl) rfl ?_
          refine r_getR hk (k := 2) (fsX1 X i0) cbX1 (by decide) fl_X1_21 (in_st i0 hi0 0 (by decide)) (fun _ => rfl) (fun _ _ => rfl) (dtX1_setValue_0 12 (23, .getfield 21, 3) rfl) ?_
          refine r_iload_n hk 1 (dtX1_setValue_0 13 (26, .iload_n 1, 1) rfl) rfl ?_
          refine r_bipush (v := 8) hk (dtX1_setValue_0 14 (27, .bipush 8, 2) rfl) (by decide) ?_
          refine r_imul hk hF (dtX1_setValue_0 15 (29, .imul, 1) rfl) (fun v4 hF => ?_)
          refine r_iload_n hk 2 (dtX1_setValue_0 16 (30, .iload_n 2, 1) rfl) rfl ?_
          refine r_iadd hk hF (dtX1_setValue_0 17 (31, .iadd, 1) rfl) (fun v5 hF => ?_)
          refine r_iload_n hk 3 (dtX1_setValue_0 18 (32, .iload_n 3, 1) rfl) rfl ?_
          refine r_iast hk (in_st i0 hi0 3 (by decide)) (fun _ => rfl) hF (dtX1_setValue_0 19 (33, .iastore, 1) rfl) (fun m6 hF => ?_)
          exact r_sub hk [] rfl (j34_2 m6 hF)
set_option maxHeartbeats 4000000 in
set_option maxRecDepth 100000 in
theorem c_X1_shiftValues (l : Launch) (hlf : l.stackTraces = false) (X : XW) (i0 : Nat) (hi0 : i0 < 7) (p1 : Int32) (p2 : Int32) (p3 : Int32) (m0 : Mem) (rv : Unit) (mE : Mem) (hF : F_X1_shiftValues i0 p1 p2 p3 m0 = some (rv, mE)) : MX X l yX1_shiftValues cX1_shiftValues 5 none 1 [.ref (xad X (1, i0, 0, 0)), .int p1, .int p2, .int p3] m0 (QV X mE) := by
  refine startV hlf (by decide +kernel) rfl [(0, .ref (xad X (1, i0, 0, 0))), (1, .int p1), (2, .int p2), (3, .int p3)] rfl (Nat.le_of_ble_eq_true rfl) (fun K hk hR => ?_)
  unfold F_X1_shiftValues at hF
  refine r_iconst (v := 0) hk (dtX1_shiftValues_0 0 (0, .iconst 0, 1) rfl) (by decide) ?_
  refine r_istore hk [(4, .int 0), (0, .ref (xad X (1, i0, 0, 0))), (1, .int p1), (2, .int p2), (3, .int p3)] (dtX1_shiftValues_0 1 (1, .istore 4, 2) rfl) (by decide) rfl ?_
  have e52_2 : ∀ (m1 : Mem), C_X1_shiftValues_52 m1 = some (rv, mE) → G X K 52 [] [] m1 := by
    intro m1 hF
    unfold C_X1_shiftValues_52 at hF
    cases Option.some.inj hF
    exact hR _ _ (dtX1_shiftValues_0 27 (52, .return_, 1) rfl)
  have l6 : ∀ (n6 : Nat) (v3 : Int32) (m4 : Mem), L_X1_shiftValues_3 i0 p1 p2 p3 n6 v3 m4 = some (rv, mE) → G X K 3 [(0, .ref (xad X (1, i0, 0, 0))), (1, .int p1), (2, .int p2), (3, .int p3), (4, .int v3)] [] m4 := by
    intro n6
    induction n6 with
    | zero => intro v3 m4 hF; exact nomatch (show (none : Option (Unit × Mem)) = some (rv, mE) from hF)
    | succ n6 ih6 =>
      intro v3 m4 hF
      rw [L_X1_shiftValues_3] at hF
      refine r_iload hk 4 (dtX1_shiftValues_0 2 (3, .iload 4, 2) rfl) rfl ?_
      refine r_aload_n hk 0 (dtX1_shiftValues_0 3 (5, .aload_n 0, 1) rfl) rfl ?_
      refine r_getI hk (k := 3) (fsX1 X i0) cbX1 (by decide) fl_X1_29 (in_st i0 hi0 0 (by decide)) (fun _ => rfl) (fun _ _ => rfl) hF (dtX1_shiftValues_0 4 (6, .getfield 29, 3) rfl) (fun v7 hF => ?_)
      refine r_icmp_ge hk 52 hF (dtX1_shiftValues_0 5 (9, .if_icmp .ge 43, 3) rfl) (by decide) (fun hF => ?_) (fun hF => ?_)
      · exact r_sub hk [] rfl (e52_2 m4 hF)
      · refine r_aload_n hk 0 (dtX1_shiftValues_0 6 (12, .aload_n 0, 1) rfl) rfl ?_
        refine r_getR hk (k := 1) (fsX1 X i0) cbX1 (by decide) fl_X1_17 (in_st i0 hi0 0 (by decide)) (fun _ => rfl) (fun _ _ => rfl) (dtX1_shiftValues_0 7 (13, .getfield 17, 3) rfl) ?_
        refine r_iload hk 4 (dtX1_shiftValues_0 8 (16, .iload 4, 2) rfl) rfl ?_
        refine r_iald hk (in_st i0 hi0 2 (by decide)) (fun _ => rfl) hF (dtX1_shiftValues_0 9 (18, .iaload, 1) rfl) (fun v8 hF => ?_)
        refine r_iload_n hk 1 (dtX1_shiftValues_0 10 (19, .iload_n 1, 1) rfl) rfl ?_
        have j46_10 : ∀ (m9 : Mem), (J_X1_shiftValues_46 v3 (fun w0 w1 => L_X1_shiftValues_3 i0 p1 p2 p3 n6 w0 w1)) m9 = some (rv, mE) → G X K 46 [(0, .ref (xad X (1, i0, 0, 0))), (1, .int p1), (2, .int p2), (3, .int p3), (4, .int v3)] [] m9 := by
          intro m9 hF
          unfold J_X1_shiftValues_46 at hF
          refine r_iinc hk 1 4 (fun v11 => [(4, .int v11), (0, .ref (xad X (1, i0, 0, 0))), (1, .int p1), (2, .int p2), (3, .int p3)]) hF (dtX1_shiftValues_0 25 (46, .iinc 4 1, 3) rfl) rfl (by decide) (by decide) (fun _ => rfl) (fun v11 hF => ?_)
          refine r_goto hk 3 (dtX1_shiftValues_0 26 (49, .goto (-46), 3) rfl) (by decide) ?_
          exact r_sub hk [1, 2, 3, 4, 0] rfl (ih6 v11 m9 hF)
        refine r_icmp_ne hk 46 hF (dtX1_shiftValues_0 11 (20, .if_icmp .ne 26, 3) rfl) (by decide) (fun hF => ?_) (fun hF => ?_)
        · exact r_sub hk [0, 1, 2, 3, 4] rfl (j46_10 m4 hF)
        · refine r_aload_n hk 0 (dtX1_shiftValues_0 12 (23, .aload_n 0, 1) rfl) rfl ?_
          refine r_iload hk 4 (dtX1_shiftValues_0 13 (24, .iload 4, 2) rfl) rfl ?_
          refine r_iload_n hk 3 (dtX1_shiftValues_0 14 (26, .iload_n 3, 1) rfl) rfl ?_
          refine r_aload_n hk 0 (dtX1_shiftValues_0 15 (27, .aload_n 0, 1) rfl) rfl ?_
          refine r_iload hk 4 (dtX1_shiftValues_0 16 (28, .iload 4, 2) rfl) rfl ?_
          refine r_iload_n hk 2 (dtX1_shiftValues_0 17 (30, .iload_n 2, 1) rfl) rfl ?_
          refine r_callI hF (fun v12 h H locs ls hH hS hl => run_V (y := yX1_valueAt) hk (in_st i0 hi0 0 (by decide)) rfl rfl (c_X1_valueAt (kl K) hk.2.2.2.2.2.2.2.2.2.2.2 X i0 hi0 v3 p2 m4 v12 h) lk_X1_40 me_X1_valueAt yf_X1_valueAt (by decide) (by decide) rfl (Nat.le_of_ble_eq_true rfl) rfl (dtX1_shiftValues_0 18 (31, .invokevirtual 40, 3) rfl) hH hS hl) (fun v12 hF => ?_)
          refine r_callVm hF (fun w m13 h H locs ls hH hS hl => run_V (y := yX1_setValue) hk (in_st i0 hi0 0 (by decide)) rfl rfl (c_X1_setValue (kl K) hk.2.2.2.2.2.2.2.2.2.2.2 X i0 hi0 v3 p3 v12 m4 w m13 h) lk_X1_44 me_X1_setValue yf_X1_setValue (by decide) (by decide) rfl (Nat.le_of_ble_eq_true rfl) rfl (dtX1_shiftValues_0 19 (34, .invokevirtual 44, 3) rfl) hH hS hl) (fun _ m13 hF => ?_)
          refine r_aload_n hk 0 (dtX1_shiftValues_0 20 (37, .aload_n 0, 1) rfl) rfl ?_
          refine r_iload hk 4 (dtX1_shiftValues_0 21 (38, .iload 4, 2) rfl) rfl ?_
          refine r_iload_n hk 2 (dtX1_shiftValues_0 22 (40, .iload_n 2, 1) rfl) rfl ?_
          refine r_ldc hk cn_X1_39 (dtX1_shiftValues_0 23 (41, .ldc 39, 2) rfl) ?_
          refine r_callVm hF (fun w m14 h H locs ls hH hS hl => run_V (y := yX1_setValue) hk (in_st i0 hi0 0 (by decide)) rfl rfl (c_X1_setValue (kl K) hk.2.2.2.2.2.2.2.2.2.2.2 X i0 hi0 v3 p2 (-1000000) m13 w m14 h) lk_X1_44 me_X1_setValue yf_X1_setValue (by decide) (by decide) rfl (Nat.le_of_ble_eq_true rfl) rfl (dtX1_shiftValues_0 24 (43, .invokevirtual 44, 3) rfl) hH hS hl) (fun _ m14 hF => ?_)
          exact r_sub hk [0, 1, 2, 3, 4] rfl (j46_10 m14 hF)
  exact r_sub hk [1, 2, 3, 4, 0] rfl (l6 fu 0 m0 hF)
set_option maxHeartbeats 4000000 in
set_option maxRecDepth 100000 in
theorem c_X2_makeSpare (l : Launch) (hlf : l.stackTraces = false) (X : XW) (i0 : Nat) (hi0 : i0 < 7) (j0 : Nat) (hj0 : j0 < 3) (p1 : Int32) (m0 : Mem) (rv : Unit) (mE : Mem) (hF : F_X2_makeSpare i0 j0 p1 m0 = some (rv, mE)) : MX X l yX2_makeSpare cX2_makeSpare 2 none 1 [.ref (xad X (2, i0, j0, 0)), .int p1] m0 (QV X mE) := by
  refine startV hlf (by decide +kernel) rfl [(0, .ref (xad X (2, i0, j0, 0))), (1, .int p1)] rfl (Nat.le_of_ble_eq_true rfl) (fun K hk hR => ?_)
  unfold F_X2_makeSpare at hF
  refine r_aload_n hk 0 (dtX2_makeSpare_0 0 (0, .aload_n 0, 1) rfl) rfl ?_
  refine r_iload_n hk 1 (dtX2_makeSpare_0 1 (1, .iload_n 1, 1) rfl) rfl ?_
  refine r_iconst (v := (-1)) hk (dtX2_makeSpare_0 2 (2, .iconst (-1), 1) rfl) (by decide) ?_
  refine r_iconst (v := 0) hk (dtX2_makeSpare_0 3 (3, .iconst 0, 1) rfl) (by decide) ?_
  refine r_iconst (v := 0) hk (dtX2_makeSpare_0 4 (4, .iconst 0, 1) rfl) (by decide) ?_
  refine r_callVm hF (fun w m1 h H locs ls hH hS hl => run_V (y := yX2_define) hk (in_tn i0 hi0 j0 hj0 0 (by decide)) rfl rfl (c_X2_define (kl K) hk.2.2.2.2.2.2.2.2.2.2.2 X i0 hi0 j0 hj0 p1 (-1) 0 0 m0 w m1 h) lk_X2_29 me_X2_define yf_X2_define (by decide) (by decide) rfl (Nat.le_of_ble_eq_true rfl) rfl (dtX2_makeSpare_0 5 (5, .invokevirtual 29, 3) rfl) hH hS hl) (fun _ m1 hF => ?_)
  cases Option.some.inj hF
  exact hR _ _ (dtX2_makeSpare_0 6 (8, .return_, 1) rfl)
set_option maxHeartbeats 4000000 in
set_option maxRecDepth 100000 in
theorem c_X3_forget (l : Launch) (hlf : l.stackTraces = false) (X : XW)  (p1 : Int32) (p2 : Int32) (m0 : Mem) (rv : Int32 ⊕ Nat) (mE : Mem) (hF : F_X3_forget p1 p2 m0 = some (rv, mE)) : MT X l yX3_forget cX3_forget 6 (some .int) 8 [.ref (xad X (0, 0, 0, 0)), .int p1, .int p2] m0 rv mE (QTI X rv mE) := by
  refine startTI hlf (by decide +kernel) rfl [(0, .ref (xad X (0, 0, 0, 0))), (1, .int p1), (2, .int p2)] rfl (Nat.le_of_ble_eq_true rfl) (fun K hk hR hX => ?_)
  unfold F_X3_forget at hF
  refine r_iload_n hk 1 (dtX3_forget_0 0 (0, .iload_n 1, 1) rfl) rfl ?_
  refine r_callI hF (fun v1 h H locs ls hH hS hl => run_S hk (c_X3_isTenant (kl K) hk.2.2.2.2.2.2.2.2.2.2.2 X  p1 m0 v1 h) lk_X3_34 me_X3_isTenant yf_X3_isTenant (by decide) (by decide) rfl (Nat.le_of_ble_eq_true rfl) rfl (dtX3_forget_0 1 (1, .invokestatic 34, 3) rfl) hH hS hl) (fun v1 hF => ?_)
  have j19_3 : ∀ (v2 : Int32), (J_X3_forget_19 p1 p2 m0) v2 = some (rv, mE) → G X K 19 [(0, .ref (xad X (0, 0, 0, 0))), (1, .int p1), (2, .int p2)] [.int v2] m0 := by
    intro v2 hF
    unfold J_X3_forget_19 at hF
    refine r_callVts hk hF (fun c h => by cases Option.some.inj h; exact hX c rfl) (fun R h hf H locs ls hH hS hl => runT_S hk (c_X3_require (kl K) hk.2.2.2.2.2.2.2.2.2.2.2 X  v2 m0 R h) lk_X3_41 me_X3_require yf_X3_require (by decide) (by decide) rfl (Nat.le_of_ble_eq_true rfl) rfl (dtX3_forget_0 9 (19, .invokestatic 41, 3) rfl) hf hH hS hl) (fun _ hF => ?_)
    refine r_aload_n hk 0 (dtX3_forget_0 10 (22, .aload_n 0, 1) rfl) rfl ?_
    refine r_callRm (fun q => xad X (1, q, 0, 0)) hF (fun q4 m5 h H locs ls hH hS hl => run_V (y := yX3_save) hk (in_main 0 (by decide)) rfl rfl (c_X3_save (kl K) hk.2.2.2.2.2.2.2.2.2.2.2 X   m0 q4 m5 h) lk_X3_45 me_X3_save yf_X3_save (by decide) (by decide) rfl (Nat.le_of_ble_eq_true rfl) rfl (dtX3_forget_0 11 (23, .invokevirtual 45, 3) rfl) hH hS hl) (fun q4 m5 _ hF => ?_)
    obtain ⟨hq4, hF⟩ := bp_some hF
    refine r_pop hk (dtX3_forget_0 12 (26, .pop, 1) rfl) rfl ?_
    refine r_aload_n hk 0 (dtX3_forget_0 13 (27, .aload_n 0, 1) rfl) rfl ?_
    refine r_getS hk fl_X3_30 hF (dtX3_forget_0 14 (28, .getfield 30, 3) rfl) (fun q6 hq6 hF => ?_)
    refine r_getR hk (k := 0) (fsX1 X q6) cbX1 (by decide) fl_X3_49 (in_st q6 hq6 0 (by decide)) (fun _ => rfl) (fun _ _ => rfl) (dtX3_forget_0 15 (31, .getfield 49, 3) rfl) ?_
    refine r_iload_n hk 1 (dtX3_forget_0 16 (34, .iload_n 1, 1) rfl) rfl ?_
    refine r_aldT hk hq6 hF (dtX3_forget_0 17 (35, .aaload, 1) rfl) (fun q7 hq7 hF => ?_)
    refine r_astore_n hk [(3, .ref (xad X (2, q6, q7, 0))), (0, .ref (xad X (0, 0, 0, 0))), (1, .int p1), (2, .int p2)] (dtX3_forget_0 18 (36, .astore_n 3, 1) rfl) (by decide) rfl ?_
    refine r_aload_n hk 0 (dtX3_forget_0 19 (37, .aload_n 3, 1) rfl) rfl ?_
    refine r_iload_n hk 3 (dtX3_forget_0 20 (38, .iload_n 2, 1) rfl) rfl ?_
    refine r_callI hF (fun v8 h H locs ls hH hS hl => run_V (y := yX2_columnOf) hk (in_tn q6 hq6 q7 hq7 0 (by decide)) rfl rfl (c_X2_columnOf (kl K) hk.2.2.2.2.2.2.2.2.2.2.2 X q6 hq6 q7 hq7 p2 m5 v8 h) lk_X3_67 me_X2_columnOf yf_X2_columnOf (by decide) (by decide) rfl (Nat.le_of_ble_eq_true rfl) rfl (dtX3_forget_0 21 (39, .invokevirtual 67, 3) rfl) hH hS hl) (fun v8 hF => ?_)
    refine r_istore hk [(4, .int v8), (3, .ref (xad X (2, q6, q7, 0))), (0, .ref (xad X (0, 0, 0, 0))), (1, .int p1), (2, .int p2)] (dtX3_forget_0 22 (42, .istore 4, 2) rfl) (by decide) rfl ?_
    refine r_iload hk 0 (dtX3_forget_0 23 (44, .iload 4, 2) rfl) rfl ?_
    refine r_iconst (v := (-1)) hk (dtX3_forget_0 24 (46, .iconst (-1), 1) rfl) (by decide) ?_
    refine r_icmp_ne hk 56 hF (dtX3_forget_0 25 (47, .if_icmp .ne 9, 3) rfl) (by decide) (fun hF => ?_) (fun hF => ?_)
    · refine r_aload_n hk 2 (dtX3_forget_0 30 (56, .aload_n 0, 1) rfl) rfl ?_
      refine r_getS hk fl_X3_30 hF (dtX3_forget_0 31 (57, .getfield 30, 3) rfl) (fun q9 hq9 hF => ?_)
      refine r_iload_n hk 3 (dtX3_forget_0 32 (60, .iload_n 1, 1) rfl) rfl ?_
      refine r_iload hk 0 (dtX3_forget_0 33 (61, .iload 4, 2) rfl) rfl ?_
      refine r_callI hF (fun v10 h H locs ls hH hS hl => run_V (y := yX1_rowsWithValue) hk (in_st q9 hq9 0 (by decide)) rfl rfl (c_X1_rowsWithValue (kl K) hk.2.2.2.2.2.2.2.2.2.2.2 X q9 hq9 p1 v8 m5 v10 h) lk_X3_74 me_X1_rowsWithValue yf_X1_rowsWithValue (by decide) (by decide) rfl (Nat.le_of_ble_eq_true rfl) rfl (dtX3_forget_0 34 (63, .invokevirtual 74, 3) rfl) hH hS hl) (fun v10 hF => ?_)
      refine r_istore hk [(5, .int v10), (4, .int v8), (3, .ref (xad X (2, q6, q7, 0))), (0, .ref (xad X (0, 0, 0, 0))), (1, .int p1), (2, .int p2)] (dtX3_forget_0 35 (66, .istore 5, 2) rfl) (by decide) rfl ?_
      refine r_aload_n hk 3 (dtX3_forget_0 36 (68, .aload_n 0, 1) rfl) rfl ?_
      refine r_getS hk fl_X3_30 hF (dtX3_forget_0 37 (69, .getfield 30, 3) rfl) (fun q11 hq11 hF => ?_)
      refine r_iload_n hk 4 (dtX3_forget_0 38 (72, .iload_n 1, 1) rfl) rfl ?_
      refine r_iload hk 1 (dtX3_forget_0 39 (73, .iload 4, 2) rfl) rfl ?_
      refine r_iconst (v := (-1)) hk (dtX3_forget_0 40 (75, .iconst (-1), 1) rfl) (by decide) ?_
      refine r_callVm hF (fun w m12 h H locs ls hH hS hl => run_V (y := yX1_shiftValues) hk (in_st q11 hq11 0 (by decide)) rfl rfl (c_X1_shiftValues (kl K) hk.2.2.2.2.2.2.2.2.2.2.2 X q11 hq11 p1 v8 (-1) m5 w m12 h) lk_X3_78 me_X1_shiftValues yf_X1_shiftValues (by decide) (by decide) rfl (Nat.le_of_ble_eq_true rfl) rfl (dtX3_forget_0 41 (76, .invokevirtual 78, 3) rfl) hH hS hl) (fun _ m12 hF => ?_)
      refine r_aload_n hk 2 (dtX3_forget_0 42 (79, .aload_n 3, 1) rfl) rfl ?_
      refine r_iload hk 1 (dtX3_forget_0 43 (80, .iload 4, 2) rfl) rfl ?_
      refine r_callVm hF (fun w m13 h H locs ls hH hS hl => run_V (y := yX2_makeSpare) hk (in_tn q6 hq6 q7 hq7 0 (by decide)) rfl rfl (c_X2_makeSpare (kl K) hk.2.2.2.2.2.2.2.2.2.2.2 X q6 hq6 q7 hq7 v8 m12 w m13 h) lk_X3_82 me_X2_makeSpare yf_X2_makeSpare (by decide) (by decide) rfl (Nat.le_of_ble_eq_true rfl) rfl (dtX3_forget_0 44 (82, .invokevirtual 82, 3) rfl) hH hS hl) (fun _ m13 hF => ?_)
      refine r_iload hk 0 (dtX3_forget_0 45 (85, .iload 5, 2) rfl) rfl ?_
      cases Option.some.inj hF
      exact hR v10 rfl _ _ (dtX3_forget_0 46 (87, .ireturn, 1) rfl)
    · refine r_aload_n hk 1 (dtX3_forget_0 26 (50, .aload_n 3, 1) rfl) rfl ?_
      refine r_iconst (v := 5) hk (dtX3_forget_0 27 (51, .iconst 5, 1) rfl) (by decide) ?_
      refine r_callIm hF (fun v14 m15 h H locs ls hH hS hl => run_V (y := yX2_refuse) hk (in_tn q6 hq6 q7 hq7 0 (by decide)) rfl rfl (c_X2_refuse (kl K) hk.2.2.2.2.2.2.2.2.2.2.2 X q6 hq6 q7 hq7 5 m5 v14 m15 h) lk_X3_63 me_X2_refuse yf_X2_refuse (by decide) (by decide) rfl (Nat.le_of_ble_eq_true rfl) rfl (dtX3_forget_0 28 (52, .invokevirtual 63, 3) rfl) hH hS hl) (fun v14 m15 hF => ?_)
      cases Option.some.inj hF
      exact hR v14 rfl _ _ (dtX3_forget_0 29 (55, .ireturn, 1) rfl)
  have j18_16 : (J_X3_forget_18 p1 p2 m0) = some (rv, mE) → G X K 18 [(0, .ref (xad X (0, 0, 0, 0))), (1, .int p1), (2, .int p2)] [] m0 := by
    intro hF
    unfold J_X3_forget_18 at hF
    refine r_iconst (v := 0) hk (dtX3_forget_0 8 (18, .iconst 0, 1) rfl) (by decide) ?_
    exact r_sub hk [0, 1, 2] rfl (j19_3 0 hF)
  refine r_if_eq hk 18 hF (dtX3_forget_0 2 (4, .ifCond .eq 14, 3) rfl) (by decide) (fun hF => ?_) (fun hF => ?_)
  · exact r_sub hk [0, 1, 2] rfl (j18_16 hF)
  · refine r_iload_n hk 2 (dtX3_forget_0 3 (7, .iload_n 2, 1) rfl) rfl ?_
    refine r_callI hF (fun v17 h H locs ls hH hS hl => run_S hk (c_X3_isLetter (kl K) hk.2.2.2.2.2.2.2.2.2.2.2 X  p2 m0 v17 h) lk_X3_38 me_X3_isLetter yf_X3_isLetter (by decide) (by decide) rfl (Nat.le_of_ble_eq_true rfl) rfl (dtX3_forget_0 4 (8, .invokestatic 38, 3) rfl) hH hS hl) (fun v17 hF => ?_)
    refine r_if_eq hk 18 hF (dtX3_forget_0 5 (11, .ifCond .eq 7, 3) rfl) (by decide) (fun hF => ?_) (fun hF => ?_)
    · exact r_sub hk [0, 1, 2] rfl (j18_16 hF)
    · refine r_iconst (v := 1) hk (dtX3_forget_0 6 (14, .iconst 1, 1) rfl) (by decide) ?_
      refine r_goto hk 19 (dtX3_forget_0 7 (15, .goto 4, 3) rfl) (by decide) ?_
      exact r_sub hk [0, 1, 2] rfl (j19_3 1 hF)
