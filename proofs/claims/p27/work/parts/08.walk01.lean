/-! the walks (written by dec.py) -/
set_option maxHeartbeats 4000000 in
set_option maxRecDepth 100000 in
theorem c_X3_fullness (l : Launch) (hlf : l.stackTraces = false) (X : XW)   (m0 : Mem) (rv : UInt64) (hF : F_X3_fullness m0 = some rv) : MX X l yX3_fullness cX3_fullness 2 (some .double) 3 [.ref (xad X (0, 0, 0, 0))] m0 (QD X rv m0) := by
  refine startD hlf (by decide +kernel) rfl [(0, .ref (xad X (0, 0, 0, 0)))] rfl (Nat.le_of_ble_eq_true rfl) (fun K hk hR => ?_)
  unfold F_X3_fullness at hF
  refine r_bipush (v := 8) hk (dtX3_fullness_0 0 (0, .bipush 8, 2) rfl) (by decide) ?_
  refine r_aload_n hk 0 (dtX3_fullness_0 1 (2, .aload_n 0, 1) rfl) rfl ?_
  refine r_getS hk fl_X3_30 hF (dtX3_fullness_0 2 (3, .getfield 30, 3) rfl) (fun q1 hq1 hF => ?_)
  refine r_callI hF (fun v2 h H locs ls hH hS hl => run_V (y := yX1_tableRows) hk (in_st q1 hq1 0 (by decide)) rfl rfl (c_X1_tableRows (kl K) hk.2.2.2.2.2.2.2.2.2.2.2 X q1 hq1  m0 v2 h) lk_X3_110 me_X1_tableRows yf_X1_tableRows (by decide) (by decide) rfl (Nat.le_of_ble_eq_true rfl) rfl (dtX3_fullness_0 3 (6, .invokevirtual 110, 3) rfl) hH hS hl) (fun v2 hF => ?_)
  refine r_imul hk hF (dtX3_fullness_0 4 (9, .imul, 1) rfl) (fun v3 hF => ?_)
  refine r_istore_n hk [(1, .int v3), (0, .ref (xad X (0, 0, 0, 0)))] (dtX3_fullness_0 5 (10, .istore_n 1, 1) rfl) (by decide) rfl ?_
  refine r_iload_n hk 0 (dtX3_fullness_0 6 (11, .iload_n 1, 1) rfl) rfl ?_
  have j30_5 : ∀ (v4 : UInt64), J_X3_fullness_30 v4 = some rv → G X K 30 [] [.double v4] m0 := by
    intro v4 hF
    unfold J_X3_fullness_30 at hF
    cases Option.some.inj hF
    exact hR _ _ (dtX3_fullness_0 17 (30, .dreturn, 1) rfl)
  refine r_if_gt hk 19 hF (dtX3_fullness_0 7 (12, .ifCond .gt 7, 3) rfl) (by decide) (fun hF => ?_) (fun hF => ?_)
  · refine r_aload_n hk 1 (dtX3_fullness_0 10 (19, .aload_n 0, 1) rfl) rfl ?_
    refine r_getS hk fl_X3_30 hF (dtX3_fullness_0 11 (20, .getfield 30, 3) rfl) (fun q6 hq6 hF => ?_)
    refine r_callI hF (fun v7 h H locs ls hH hS hl => run_V (y := yX1_tableValues) hk (in_st q6 hq6 0 (by decide)) rfl rfl (c_X1_tableValues (kl K) hk.2.2.2.2.2.2.2.2.2.2.2 X q6 hq6  m0 v7 h) lk_X3_207 me_X1_tableValues yf_X1_tableValues (by decide) (by decide) rfl (Nat.le_of_ble_eq_true rfl) rfl (dtX3_fullness_0 12 (23, .invokevirtual 207, 3) rfl) hH hS hl) (fun v7 hF => ?_)
    refine r_i2d hk hF (dtX3_fullness_0 13 (26, .i2d, 1) rfl) (fun v8 hF => ?_)
    refine r_iload_n hk 0 (dtX3_fullness_0 14 (27, .iload_n 1, 1) rfl) rfl ?_
    refine r_i2d hk hF (dtX3_fullness_0 15 (28, .i2d, 1) rfl) (fun v9 hF => ?_)
    refine r_ddiv hk hF (dtX3_fullness_0 16 (29, .ddiv, 1) rfl) (fun v10 hF => ?_)
    exact r_sub hk [] rfl (j30_5 v10 hF)
  · refine r_dconst0 hk (dtX3_fullness_0 8 (15, .dconst 0, 1) rfl) ?_
    refine r_goto hk 30 (dtX3_fullness_0 9 (16, .goto 14, 3) rfl) (by decide) ?_
    exact r_sub hk [] rfl (j30_5 0 hF)
set_option maxHeartbeats 4000000 in
set_option maxRecDepth 100000 in
theorem c_X3_append (l : Launch) (hlf : l.stackTraces = false) (X : XW)  (p1 : Int32) (m0 : Mem) (rv : Int32 ⊕ Nat) (mE : Mem) (hF : F_X3_append p1 m0 = some (rv, mE)) : MT X l yX3_append cX3_append 2 (some .int) 8 [.ref (xad X (0, 0, 0, 0)), .int p1] m0 rv mE (QTI X rv mE) := by
  refine startTI hlf (by decide +kernel) rfl [(0, .ref (xad X (0, 0, 0, 0))), (1, .int p1)] rfl (Nat.le_of_ble_eq_true rfl) (fun K hk hR hX => ?_)
  unfold F_X3_append at hF
  refine r_iload_n hk 1 (dtX3_append_0 0 (0, .iload_n 1, 1) rfl) rfl ?_
  refine r_bipush (v := 33) hk (dtX3_append_0 1 (1, .bipush 33, 2) rfl) (by decide) ?_
  have j17_2 : ∀ (v1 : Int32), (J_X3_append_17 p1 m0) v1 = some (rv, mE) → G X K 17 [(0, .ref (xad X (0, 0, 0, 0))), (1, .int p1)] [.int v1] m0 := by
    intro v1 hF
    unfold J_X3_append_17 at hF
    refine r_callVts hk hF (fun c h => by cases Option.some.inj h; exact hX c rfl) (fun R h hf H locs ls hH hS hl => runT_S hk (c_X3_require (kl K) hk.2.2.2.2.2.2.2.2.2.2.2 X  v1 m0 R h) lk_X3_41 me_X3_require yf_X3_require (by decide) (by decide) rfl (Nat.le_of_ble_eq_true rfl) rfl (dtX3_append_0 9 (17, .invokestatic 41, 3) rfl) hf hH hS hl) (fun _ hF => ?_)
    refine r_aload_n hk 0 (dtX3_append_0 10 (20, .aload_n 0, 1) rfl) rfl ?_
    refine r_getI hk (k := 6) (fsX3 X) cbX3 (by decide) fl_X3_145 (in_main 0 (by decide)) (fun _ => rfl) (fun _ _ => rfl) hF (dtX3_append_0 11 (21, .getfield 145, 3) rfl) (fun v3 hF => ?_)
    refine r_bipush (v := 40) hk (dtX3_append_0 12 (24, .bipush 40, 2) rfl) (by decide) ?_
    refine r_icmp_lt hk 39 hF (dtX3_append_0 13 (26, .if_icmp .lt 13, 3) rfl) (by decide) (fun hF => ?_) (fun hF => ?_)
    · refine r_aload_n hk 0 (dtX3_append_0 19 (39, .aload_n 0, 1) rfl) rfl ?_
      refine r_getR hk (k := 1) (fsX3 X) cbX3 (by decide) fl_X3_15 (in_main 0 (by decide)) (fun _ => rfl) (fun _ _ => rfl) (dtX3_append_0 20 (40, .getfield 15, 3) rfl) ?_
      refine r_aload_n hk 0 (dtX3_append_0 21 (43, .aload_n 0, 1) rfl) rfl ?_
      refine r_getI hk (k := 6) (fsX3 X) cbX3 (by decide) fl_X3_145 (in_main 0 (by decide)) (fun _ => rfl) (fun _ _ => rfl) hF (dtX3_append_0 22 (44, .getfield 145, 3) rfl) (fun v4 hF => ?_)
      refine r_iload_n hk 1 (dtX3_append_0 23 (47, .iload_n 1, 1) rfl) rfl ?_
      refine r_iast hk (in_main 2 (by decide)) (fun _ => rfl) hF (dtX3_append_0 24 (48, .iastore, 1) rfl) (fun m5 hF => ?_)
      refine r_aload_n hk 0 (dtX3_append_0 25 (49, .aload_n 0, 1) rfl) rfl ?_
      refine r_dup hk (dtX3_append_0 26 (50, .dup, 1) rfl) rfl ?_
      refine r_getI hk (k := 6) (fsX3 X) cbX3 (by decide) fl_X3_145 (in_main 0 (by decide)) (fun _ => rfl) (fun _ _ => rfl) hF (dtX3_append_0 27 (51, .getfield 145, 3) rfl) (fun v6 hF => ?_)
      refine r_iconst (v := 1) hk (dtX3_append_0 28 (54, .iconst 1, 1) rfl) (by decide) ?_
      refine r_iadd hk hF (dtX3_append_0 29 (55, .iadd, 1) rfl) (fun v7 hF => ?_)
      refine r_putI hk (k := 6) (fsX3 X) cbX3 (by decide) fl_X3_145 (in_main 0 (by decide)) (fun _ => rfl) rfl rfl (fun _ _ _ => rfl) (fun _ _ => (by decide : 6 < 7)) hF (dtX3_append_0 30 (56, .putfield 145, 3) rfl) (fun m8 hF => ?_)
      refine r_aload_n hk 0 (dtX3_append_0 31 (59, .aload_n 0, 1) rfl) rfl ?_
      refine r_getI hk (k := 6) (fsX3 X) cbX3 (by decide) fl_X3_145 (in_main 0 (by decide)) (fun _ => rfl) (fun _ _ => rfl) hF (dtX3_append_0 32 (60, .getfield 145, 3) rfl) (fun v9 hF => ?_)
      cases Option.some.inj hF
      exact hR v9 rfl _ _ (dtX3_append_0 33 (63, .ireturn, 1) rfl)
    · cases Option.some.inj hF
      exact (hX 1 rfl).2.2.1 _ _ _ _ _ _ _ th_X3_148_152 th_X3_148_152_g (hk.2.2.2.2.2.1.2.2.2.2.1) (by decide) (Nat.le_of_ble_eq_true rfl) (dtX3_append_0 14 (29, .new 148, 3) rfl) (dtX3_append_0 15 (32, .dup, 1) rfl) (dtX3_append_0 16 (33, .ldc 150, 2) rfl) (dtX3_append_0 17 (35, .invokespecial 152, 3) rfl) (dtX3_append_0 18 (38, .athrow, 1) rfl)
  have j16_10 : (J_X3_append_16 p1 m0) = some (rv, mE) → G X K 16 [(0, .ref (xad X (0, 0, 0, 0))), (1, .int p1)] [] m0 := by
    intro hF
    unfold J_X3_append_16 at hF
    refine r_iconst (v := 0) hk (dtX3_append_0 8 (16, .iconst 0, 1) rfl) (by decide) ?_
    exact r_sub hk [0, 1] rfl (j17_2 0 hF)
  refine r_icmp_lt hk 16 hF (dtX3_append_0 2 (3, .if_icmp .lt 13, 3) rfl) (by decide) (fun hF => ?_) (fun hF => ?_)
  · exact r_sub hk [0, 1] rfl (j16_10 hF)
  · refine r_iload_n hk 1 (dtX3_append_0 3 (6, .iload_n 1, 1) rfl) rfl ?_
    refine r_bipush (v := 126) hk (dtX3_append_0 4 (7, .bipush 126, 2) rfl) (by decide) ?_
    refine r_icmp_gt hk 16 hF (dtX3_append_0 5 (9, .if_icmp .gt 7, 3) rfl) (by decide) (fun hF => ?_) (fun hF => ?_)
    · exact r_sub hk [0, 1] rfl (j16_10 hF)
    · refine r_iconst (v := 1) hk (dtX3_append_0 6 (12, .iconst 1, 1) rfl) (by decide) ?_
      refine r_goto hk 17 (dtX3_append_0 7 (13, .goto 4, 3) rfl) (by decide) ?_
      exact r_sub hk [0, 1] rfl (j17_2 1 hF)
set_option maxHeartbeats 4000000 in
set_option maxRecDepth 100000 in
theorem c_X3_isLetter (l : Launch) (hlf : l.stackTraces = false) (X : XW)  (p1 : Int32) (m0 : Mem) (rv : Int32) (hF : F_X3_isLetter p1 m0 = some rv) : MX X l yX3_isLetter cX3_isLetter 1 (some .boolean) 0 [.int p1] m0 (QI X rv m0) := by
  refine startZ hlf (by decide +kernel) rfl [(0, .int p1)] rfl (Nat.le_of_ble_eq_true rfl) (fun K hk hR => ?_)
  unfold F_X3_isLetter at hF
  refine r_iload_n hk 0 (dtX3_isLetter_0 0 (0, .iload_n 0, 1) rfl) rfl ?_
  have j15_2 : ∀ (v1 : Int32), J_X3_isLetter_15 v1 = some rv → G X K 15 [] [.int v1] m0 := by
    intro v1 hF
    unfold J_X3_isLetter_15 at hF
    obtain ⟨hz, hF⟩ := ck_some hF
    cases Option.some.inj hF
    exact hR _ _ hz (dtX3_isLetter_0 8 (15, .ireturn, 1) rfl)
  have j14_3 : J_X3_isLetter_14 = some rv → G X K 14 [] [] m0 := by
    intro hF
    unfold J_X3_isLetter_14 at hF
    refine r_iconst (v := 0) hk (dtX3_isLetter_0 7 (14, .iconst 0, 1) rfl) (by decide) ?_
    exact r_sub hk [] rfl (j15_2 0 hF)
  refine r_if_lt hk 14 hF (dtX3_isLetter_0 1 (1, .ifCond .lt 13, 3) rfl) (by decide) (fun hF => ?_) (fun hF => ?_)
  · exact r_sub hk [] rfl (j14_3 hF)
  · refine r_iload_n hk 0 (dtX3_isLetter_0 2 (4, .iload_n 0, 1) rfl) rfl ?_
    refine r_bipush (v := 8) hk (dtX3_isLetter_0 3 (5, .bipush 8, 2) rfl) (by decide) ?_
    refine r_icmp_ge hk 14 hF (dtX3_isLetter_0 4 (7, .if_icmp .ge 7, 3) rfl) (by decide) (fun hF => ?_) (fun hF => ?_)
    · exact r_sub hk [] rfl (j14_3 hF)
    · refine r_iconst (v := 1) hk (dtX3_isLetter_0 5 (10, .iconst 1, 1) rfl) (by decide) ?_
      refine r_goto hk 15 (dtX3_isLetter_0 6 (11, .goto 4, 3) rfl) (by decide) ?_
      exact r_sub hk [] rfl (j15_2 1 hF)
set_option maxHeartbeats 4000000 in
set_option maxRecDepth 100000 in
theorem c_X0_takeLetter (l : Launch) (hlf : l.stackTraces = false) (X : XW)  (p1 : Int32) (m0 : Mem) (rv : Int32) (mE : Mem) (hF : F_X0_takeLetter p1 m0 = some (rv, mE)) : MX X l yX0_takeLetter cX0_takeLetter 2 (some .boolean) 0 [.ref (xad X (0, 0, 0, 3)), .int p1] m0 (QI X rv mE) := by
  refine startZ hlf (by decide +kernel) rfl [(0, .ref (xad X (0, 0, 0, 3))), (1, .int p1)] rfl (Nat.le_of_ble_eq_true rfl) (fun K hk hR => ?_)
  unfold F_X0_takeLetter at hF
  refine r_iload_n hk 1 (dtX0_takeLetter_0 0 (0, .iload_n 1, 1) rfl) rfl ?_
  refine r_bipush (v := 97) hk (dtX0_takeLetter_0 1 (1, .bipush 97, 2) rfl) (by decide) ?_
  have j21_1 : (J_X0_takeLetter_21 m0) = some (rv, mE) → G X K 21 [] [] m0 := by
    intro hF
    unfold J_X0_takeLetter_21 at hF
    refine r_iconst (v := 0) hk (dtX0_takeLetter_0 10 (21, .iconst 0, 1) rfl) (by decide) ?_
    obtain ⟨hz, hF⟩ := ck_some hF
    cases Option.some.inj hF
    exact hR _ _ hz (dtX0_takeLetter_0 11 (22, .ireturn, 1) rfl)
  refine r_icmp_lt hk 21 hF (dtX0_takeLetter_0 2 (3, .if_icmp .lt 18, 3) rfl) (by decide) (fun hF => ?_) (fun hF => ?_)
  · exact r_sub hk [] rfl (j21_1 hF)
  · refine r_iload_n hk 1 (dtX0_takeLetter_0 3 (6, .iload_n 1, 1) rfl) rfl ?_
    refine r_bipush (v := 104) hk (dtX0_takeLetter_0 4 (7, .bipush 104, 2) rfl) (by decide) ?_
    refine r_icmp_gt hk 21 hF (dtX0_takeLetter_0 5 (9, .if_icmp .gt 12, 3) rfl) (by decide) (fun hF => ?_) (fun hF => ?_)
    · exact r_sub hk [] rfl (j21_1 hF)
    · refine r_aload_n hk 0 (dtX0_takeLetter_0 6 (12, .aload_n 0, 1) rfl) rfl ?_
      refine r_getI hk (k := 3) (fsX0 X) cbX0 (by decide) fl_X0_21 (in_main 3 (by decide)) (fun _ => rfl) (fun _ _ => rfl) hF (dtX0_takeLetter_0 7 (13, .getfield 21, 3) rfl) (fun v2 hF => ?_)
      refine r_bipush (v := 10) hk (dtX0_takeLetter_0 8 (16, .bipush 10, 2) rfl) (by decide) ?_
      refine r_icmp_lt hk 23 hF (dtX0_takeLetter_0 9 (18, .if_icmp .lt 5, 3) rfl) (by decide) (fun hF => ?_) (fun hF => ?_)
      · refine r_aload_n hk 0 (dtX0_takeLetter_0 12 (23, .aload_n 0, 1) rfl) rfl ?_
        refine r_getR hk (k := 0) (fsX0 X) cbX0 (by decide) fl_X0_9 (in_main 3 (by decide)) (fun _ => rfl) (fun _ _ => rfl) (dtX0_takeLetter_0 13 (24, .getfield 9, 3) rfl) ?_
        refine r_aload_n hk 0 (dtX0_takeLetter_0 14 (27, .aload_n 0, 1) rfl) rfl ?_
        refine r_getI hk (k := 3) (fsX0 X) cbX0 (by decide) fl_X0_21 (in_main 3 (by decide)) (fun _ => rfl) (fun _ _ => rfl) hF (dtX0_takeLetter_0 15 (28, .getfield 21, 3) rfl) (fun v3 hF => ?_)
        refine r_iload_n hk 1 (dtX0_takeLetter_0 16 (31, .iload_n 1, 1) rfl) rfl ?_
        refine r_bipush (v := 97) hk (dtX0_takeLetter_0 17 (32, .bipush 97, 2) rfl) (by decide) ?_
        refine r_isub hk hF (dtX0_takeLetter_0 18 (34, .isub, 1) rfl) (fun v4 hF => ?_)
        refine r_iast hk (in_main 5 (by decide)) (fun _ => rfl) hF (dtX0_takeLetter_0 19 (35, .iastore, 1) rfl) (fun m5 hF => ?_)
        refine r_aload_n hk 0 (dtX0_takeLetter_0 20 (36, .aload_n 0, 1) rfl) rfl ?_
        refine r_getR hk (k := 1) (fsX0 X) cbX0 (by decide) fl_X0_15 (in_main 3 (by decide)) (fun _ => rfl) (fun _ _ => rfl) (dtX0_takeLetter_0 21 (37, .getfield 15, 3) rfl) ?_
        refine r_aload_n hk 0 (dtX0_takeLetter_0 22 (40, .aload_n 0, 1) rfl) rfl ?_
        refine r_getI hk (k := 3) (fsX0 X) cbX0 (by decide) fl_X0_21 (in_main 3 (by decide)) (fun _ => rfl) (fun _ _ => rfl) hF (dtX0_takeLetter_0 23 (41, .getfield 21, 3) rfl) (fun v6 hF => ?_)
        refine r_iconst (v := 0) hk (dtX0_takeLetter_0 24 (44, .iconst 0, 1) rfl) (by decide) ?_
        refine r_iast hk (in_main 6 (by decide)) (fun _ => rfl) hF (dtX0_takeLetter_0 25 (45, .iastore, 1) rfl) (fun m7 hF => ?_)
        refine r_aload_n hk 0 (dtX0_takeLetter_0 26 (46, .aload_n 0, 1) rfl) rfl ?_
        refine r_getR hk (k := 2) (fsX0 X) cbX0 (by decide) fl_X0_18 (in_main 3 (by decide)) (fun _ => rfl) (fun _ _ => rfl) (dtX0_takeLetter_0 27 (47, .getfield 18, 3) rfl) ?_
        refine r_aload_n hk 0 (dtX0_takeLetter_0 28 (50, .aload_n 0, 1) rfl) rfl ?_
        refine r_getI hk (k := 3) (fsX0 X) cbX0 (by decide) fl_X0_21 (in_main 3 (by decide)) (fun _ => rfl) (fun _ _ => rfl) hF (dtX0_takeLetter_0 29 (51, .getfield 21, 3) rfl) (fun v8 hF => ?_)
        refine r_iconst (v := 0) hk (dtX0_takeLetter_0 30 (54, .iconst 0, 1) rfl) (by decide) ?_
        refine r_iast hk (in_main 7 (by decide)) (fun _ => rfl) hF (dtX0_takeLetter_0 31 (55, .iastore, 1) rfl) (fun m9 hF => ?_)
        refine r_aload_n hk 0 (dtX0_takeLetter_0 32 (56, .aload_n 0, 1) rfl) rfl ?_
        refine r_iconst (v := 0) hk (dtX0_takeLetter_0 33 (57, .iconst 0, 1) rfl) (by decide) ?_
        refine r_putZ hk (k := 5) (fsX0 X) cbX0 (by decide) fl_X0_51 (in_main 3 (by decide)) (fun _ => rfl) rfl rfl (fun _ _ _ => rfl) (fun _ _ => (by decide : 5 < 6)) hF (dtX0_takeLetter_0 34 (58, .putfield 51, 3) rfl) (fun m10 hF => ?_)
        refine r_aload_n hk 0 (dtX0_takeLetter_0 35 (61, .aload_n 0, 1) rfl) rfl ?_
        refine r_dup hk (dtX0_takeLetter_0 36 (62, .dup, 1) rfl) rfl ?_
        refine r_getI hk (k := 3) (fsX0 X) cbX0 (by decide) fl_X0_21 (in_main 3 (by decide)) (fun _ => rfl) (fun _ _ => rfl) hF (dtX0_takeLetter_0 37 (63, .getfield 21, 3) rfl) (fun v11 hF => ?_)
        refine r_iconst (v := 1) hk (dtX0_takeLetter_0 38 (66, .iconst 1, 1) rfl) (by decide) ?_
        refine r_iadd hk hF (dtX0_takeLetter_0 39 (67, .iadd, 1) rfl) (fun v12 hF => ?_)
        refine r_putI hk (k := 3) (fsX0 X) cbX0 (by decide) fl_X0_21 (in_main 3 (by decide)) (fun _ => rfl) rfl rfl (fun _ _ _ => rfl) (fun _ _ => (by decide : 3 < 6)) hF (dtX0_takeLetter_0 40 (68, .putfield 21, 3) rfl) (fun m13 hF => ?_)
        refine r_aload_n hk 0 (dtX0_takeLetter_0 41 (71, .aload_n 0, 1) rfl) rfl ?_
        refine r_iconst (v := 1) hk (dtX0_takeLetter_0 42 (72, .iconst 1, 1) rfl) (by decide) ?_
        refine r_putI hk (k := 4) (fsX0 X) cbX0 (by decide) fl_X0_25 (in_main 3 (by decide)) (fun _ => rfl) rfl rfl (fun _ _ _ => rfl) (fun _ _ => (by decide : 4 < 6)) hF (dtX0_takeLetter_0 43 (73, .putfield 25, 3) rfl) (fun m14 hF => ?_)
        refine r_iconst (v := 1) hk (dtX0_takeLetter_0 44 (76, .iconst 1, 1) rfl) (by decide) ?_
        obtain ⟨hz, hF⟩ := ck_some hF
        cases Option.some.inj hF
        exact hR _ _ hz (dtX0_takeLetter_0 45 (77, .ireturn, 1) rfl)
      · exact r_sub hk [] rfl (j21_1 hF)
set_option maxHeartbeats 4000000 in
set_option maxRecDepth 100000 in
theorem c_X0_takeSign (l : Launch) (hlf : l.stackTraces = false) (X : XW)  (p1 : Int32) (m0 : Mem) (rv : Int32) (mE : Mem) (hF : F_X0_takeSign p1 m0 = some (rv, mE)) : MX X l yX0_takeSign cX0_takeSign 2 (some .boolean) 0 [.ref (xad X (0, 0, 0, 3)), .int p1] m0 (QI X rv mE) := by
  refine startZ hlf (by decide +kernel) rfl [(0, .ref (xad X (0, 0, 0, 3))), (1, .int p1)] rfl (Nat.le_of_ble_eq_true rfl) (fun K hk hR => ?_)
  unfold F_X0_takeSign at hF
  refine r_aload_n hk 0 (dtX0_takeSign_0 0 (0, .aload_n 0, 1) rfl) rfl ?_
  refine r_getI hk (k := 3) (fsX0 X) cbX0 (by decide) fl_X0_21 (in_main 3 (by decide)) (fun _ => rfl) (fun _ _ => rfl) hF (dtX0_takeSign_0 1 (1, .getfield 21, 3) rfl) (fun v1 hF => ?_)
  have j25_2 : (J_X0_takeSign_25 m0) = some (rv, mE) → G X K 25 [] [] m0 := by
    intro hF
    unfold J_X0_takeSign_25 at hF
    refine r_iconst (v := 0) hk (dtX0_takeSign_0 12 (25, .iconst 0, 1) rfl) (by decide) ?_
    obtain ⟨hz, hF⟩ := ck_some hF
    cases Option.some.inj hF
    exact hR _ _ hz (dtX0_takeSign_0 13 (26, .ireturn, 1) rfl)
  refine r_if_le hk 25 hF (dtX0_takeSign_0 2 (4, .ifCond .le 21, 3) rfl) (by decide) (fun hF => ?_) (fun hF => ?_)
  · exact r_sub hk [] rfl (j25_2 hF)
  · refine r_iload_n hk 1 (dtX0_takeSign_0 3 (7, .iload_n 1, 1) rfl) rfl ?_
    refine r_bipush (v := 61) hk (dtX0_takeSign_0 4 (8, .bipush 61, 2) rfl) (by decide) ?_
    have j27_3 : (J_X0_takeSign_27 p1 m0) = some (rv, mE) → G X K 27 [(0, .ref (xad X (0, 0, 0, 3))), (1, .int p1)] [] m0 := by
      intro hF
      unfold J_X0_takeSign_27 at hF
      refine r_aload_n hk 0 (dtX0_takeSign_0 14 (27, .aload_n 0, 1) rfl) rfl ?_
      refine r_getR hk (k := 1) (fsX0 X) cbX0 (by decide) fl_X0_15 (in_main 3 (by decide)) (fun _ => rfl) (fun _ _ => rfl) (dtX0_takeSign_0 15 (28, .getfield 15, 3) rfl) ?_
      refine r_aload_n hk 0 (dtX0_takeSign_0 16 (31, .aload_n 0, 1) rfl) rfl ?_
      refine r_getI hk (k := 3) (fsX0 X) cbX0 (by decide) fl_X0_21 (in_main 3 (by decide)) (fun _ => rfl) (fun _ _ => rfl) hF (dtX0_takeSign_0 17 (32, .getfield 21, 3) rfl) (fun v4 hF => ?_)
      refine r_iconst (v := 1) hk (dtX0_takeSign_0 18 (35, .iconst 1, 1) rfl) (by decide) ?_
      refine r_isub hk hF (dtX0_takeSign_0 19 (36, .isub, 1) rfl) (fun v5 hF => ?_)
      refine r_iload_n hk 1 (dtX0_takeSign_0 20 (37, .iload_n 1, 1) rfl) rfl ?_
      refine r_iast hk (in_main 6 (by decide)) (fun _ => rfl) hF (dtX0_takeSign_0 21 (38, .iastore, 1) rfl) (fun m6 hF => ?_)
      refine r_aload_n hk 0 (dtX0_takeSign_0 22 (39, .aload_n 0, 1) rfl) rfl ?_
      refine r_iconst (v := 2) hk (dtX0_takeSign_0 23 (40, .iconst 2, 1) rfl) (by decide) ?_
      refine r_putI hk (k := 4) (fsX0 X) cbX0 (by decide) fl_X0_25 (in_main 3 (by decide)) (fun _ => rfl) rfl rfl (fun _ _ _ => rfl) (fun _ _ => (by decide : 4 < 6)) hF (dtX0_takeSign_0 24 (41, .putfield 25, 3) rfl) (fun m7 hF => ?_)
      refine r_iconst (v := 1) hk (dtX0_takeSign_0 25 (44, .iconst 1, 1) rfl) (by decide) ?_
      obtain ⟨hz, hF⟩ := ck_some hF
      cases Option.some.inj hF
      exact hR _ _ hz (dtX0_takeSign_0 26 (45, .ireturn, 1) rfl)
    refine r_icmp_eq hk 27 hF (dtX0_takeSign_0 5 (10, .if_icmp .eq 17, 3) rfl) (by decide) (fun hF => ?_) (fun hF => ?_)
    · exact r_sub hk [0, 1] rfl (j27_3 hF)
    · refine r_iload_n hk 1 (dtX0_takeSign_0 6 (13, .iload_n 1, 1) rfl) rfl ?_
      refine r_bipush (v := 60) hk (dtX0_takeSign_0 7 (14, .bipush 60, 2) rfl) (by decide) ?_
      refine r_icmp_eq hk 27 hF (dtX0_takeSign_0 8 (16, .if_icmp .eq 11, 3) rfl) (by decide) (fun hF => ?_) (fun hF => ?_)
      · exact r_sub hk [0, 1] rfl (j27_3 hF)
      · refine r_iload_n hk 1 (dtX0_takeSign_0 9 (19, .iload_n 1, 1) rfl) rfl ?_
        refine r_bipush (v := 62) hk (dtX0_takeSign_0 10 (20, .bipush 62, 2) rfl) (by decide) ?_
        refine r_icmp_eq hk 27 hF (dtX0_takeSign_0 11 (22, .if_icmp .eq 5, 3) rfl) (by decide) (fun hF => ?_) (fun hF => ?_)
        · exact r_sub hk [0, 1] rfl (j27_3 hF)
        · exact r_sub hk [] rfl (j25_2 hF)
set_option maxHeartbeats 4000000 in
set_option maxRecDepth 100000 in
theorem c_X0_takeMinus (l : Launch) (hlf : l.stackTraces = false) (X : XW)  (p1 : Int32) (m0 : Mem) (rv : Int32) (mE : Mem) (hF : F_X0_takeMinus p1 m0 = some (rv, mE)) : MX X l yX0_takeMinus cX0_takeMinus 2 (some .boolean) 0 [.ref (xad X (0, 0, 0, 3)), .int p1] m0 (QI X rv mE) := by
  refine startZ hlf (by decide +kernel) rfl [(0, .ref (xad X (0, 0, 0, 3))), (1, .int p1)] rfl (Nat.le_of_ble_eq_true rfl) (fun K hk hR => ?_)
  unfold F_X0_takeMinus at hF
  refine r_iload_n hk 1 (dtX0_takeMinus_0 0 (0, .iload_n 1, 1) rfl) rfl ?_
  refine r_bipush (v := 45) hk (dtX0_takeMinus_0 1 (1, .bipush 45, 2) rfl) (by decide) ?_
  refine r_icmp_eq hk 8 hF (dtX0_takeMinus_0 2 (3, .if_icmp .eq 5, 3) rfl) (by decide) (fun hF => ?_) (fun hF => ?_)
  · refine r_aload_n hk 0 (dtX0_takeMinus_0 5 (8, .aload_n 0, 1) rfl) rfl ?_
    refine r_iconst (v := 1) hk (dtX0_takeMinus_0 6 (9, .iconst 1, 1) rfl) (by decide) ?_
    refine r_putZ hk (k := 5) (fsX0 X) cbX0 (by decide) fl_X0_51 (in_main 3 (by decide)) (fun _ => rfl) rfl rfl (fun _ _ _ => rfl) (fun _ _ => (by decide : 5 < 6)) hF (dtX0_takeMinus_0 7 (10, .putfield 51, 3) rfl) (fun m1 hF => ?_)
    refine r_aload_n hk 0 (dtX0_takeMinus_0 8 (13, .aload_n 0, 1) rfl) rfl ?_
    refine r_iconst (v := 3) hk (dtX0_takeMinus_0 9 (14, .iconst 3, 1) rfl) (by decide) ?_
    refine r_putI hk (k := 4) (fsX0 X) cbX0 (by decide) fl_X0_25 (in_main 3 (by decide)) (fun _ => rfl) rfl rfl (fun _ _ _ => rfl) (fun _ _ => (by decide : 4 < 6)) hF (dtX0_takeMinus_0 10 (15, .putfield 25, 3) rfl) (fun m2 hF => ?_)
    refine r_iconst (v := 1) hk (dtX0_takeMinus_0 11 (18, .iconst 1, 1) rfl) (by decide) ?_
    obtain ⟨hz, hF⟩ := ck_some hF
    cases Option.some.inj hF
    exact hR _ _ hz (dtX0_takeMinus_0 12 (19, .ireturn, 1) rfl)
  · refine r_iconst (v := 0) hk (dtX0_takeMinus_0 3 (6, .iconst 0, 1) rfl) (by decide) ?_
    obtain ⟨hz, hF⟩ := ck_some hF
    cases Option.some.inj hF
    exact hR _ _ hz (dtX0_takeMinus_0 4 (7, .ireturn, 1) rfl)
set_option maxHeartbeats 4000000 in
set_option maxRecDepth 100000 in
theorem c_X0_takeDigit (l : Launch) (hlf : l.stackTraces = false) (X : XW)  (p1 : Int32) (m0 : Mem) (rv : Int32) (mE : Mem) (hF : F_X0_takeDigit p1 m0 = some (rv, mE)) : MX X l yX0_takeDigit cX0_takeDigit 3 (some .boolean) 0 [.ref (xad X (0, 0, 0, 3)), .int p1] m0 (QI X rv mE) := by
  refine startZ hlf (by decide +kernel) rfl [(0, .ref (xad X (0, 0, 0, 3))), (1, .int p1)] rfl (Nat.le_of_ble_eq_true rfl) (fun K hk hR => ?_)
  unfold F_X0_takeDigit at hF
  refine r_aload_n hk 0 (dtX0_takeDigit_0 0 (0, .aload_n 0, 1) rfl) rfl ?_
  refine r_getI hk (k := 3) (fsX0 X) cbX0 (by decide) fl_X0_21 (in_main 3 (by decide)) (fun _ => rfl) (fun _ _ => rfl) hF (dtX0_takeDigit_0 1 (1, .getfield 21, 3) rfl) (fun v1 hF => ?_)
  have j19_2 : (J_X0_takeDigit_19 m0) = some (rv, mE) → G X K 19 [] [] m0 := by
    intro hF
    unfold J_X0_takeDigit_19 at hF
    refine r_iconst (v := 0) hk (dtX0_takeDigit_0 9 (19, .iconst 0, 1) rfl) (by decide) ?_
    obtain ⟨hz, hF⟩ := ck_some hF
    cases Option.some.inj hF
    exact hR _ _ hz (dtX0_takeDigit_0 10 (20, .ireturn, 1) rfl)
  refine r_if_le hk 19 hF (dtX0_takeDigit_0 2 (4, .ifCond .le 15, 3) rfl) (by decide) (fun hF => ?_) (fun hF => ?_)
  · exact r_sub hk [] rfl (j19_2 hF)
  · refine r_iload_n hk 1 (dtX0_takeDigit_0 3 (7, .iload_n 1, 1) rfl) rfl ?_
    refine r_bipush (v := 48) hk (dtX0_takeDigit_0 4 (8, .bipush 48, 2) rfl) (by decide) ?_
    refine r_icmp_lt hk 19 hF (dtX0_takeDigit_0 5 (10, .if_icmp .lt 9, 3) rfl) (by decide) (fun hF => ?_) (fun hF => ?_)
    · exact r_sub hk [] rfl (j19_2 hF)
    · refine r_iload_n hk 1 (dtX0_takeDigit_0 6 (13, .iload_n 1, 1) rfl) rfl ?_
      refine r_bipush (v := 57) hk (dtX0_takeDigit_0 7 (14, .bipush 57, 2) rfl) (by decide) ?_
      refine r_icmp_le hk 21 hF (dtX0_takeDigit_0 8 (16, .if_icmp .le 5, 3) rfl) (by decide) (fun hF => ?_) (fun hF => ?_)
      · refine r_iload_n hk 1 (dtX0_takeDigit_0 11 (21, .iload_n 1, 1) rfl) rfl ?_
        refine r_bipush (v := 48) hk (dtX0_takeDigit_0 12 (22, .bipush 48, 2) rfl) (by decide) ?_
        refine r_isub hk hF (dtX0_takeDigit_0 13 (24, .isub, 1) rfl) (fun v3 hF => ?_)
        refine r_istore_n hk [(2, .int v3), (0, .ref (xad X (0, 0, 0, 3))), (1, .int p1)] (dtX0_takeDigit_0 14 (25, .istore_n 2, 1) rfl) (by decide) rfl ?_
        refine r_aload_n hk 1 (dtX0_takeDigit_0 15 (26, .aload_n 0, 1) rfl) rfl ?_
        refine r_getR hk (k := 2) (fsX0 X) cbX0 (by decide) fl_X0_18 (in_main 3 (by decide)) (fun _ => rfl) (fun _ _ => rfl) (dtX0_takeDigit_0 16 (27, .getfield 18, 3) rfl) ?_
        refine r_aload_n hk 1 (dtX0_takeDigit_0 17 (30, .aload_n 0, 1) rfl) rfl ?_
        refine r_getI hk (k := 3) (fsX0 X) cbX0 (by decide) fl_X0_21 (in_main 3 (by decide)) (fun _ => rfl) (fun _ _ => rfl) hF (dtX0_takeDigit_0 18 (31, .getfield 21, 3) rfl) (fun v4 hF => ?_)
        refine r_iconst (v := 1) hk (dtX0_takeDigit_0 19 (34, .iconst 1, 1) rfl) (by decide) ?_
        refine r_isub hk hF (dtX0_takeDigit_0 20 (35, .isub, 1) rfl) (fun v5 hF => ?_)
        refine r_aload_n hk 1 (dtX0_takeDigit_0 21 (36, .aload_n 0, 1) rfl) rfl ?_
        refine r_getR hk (k := 2) (fsX0 X) cbX0 (by decide) fl_X0_18 (in_main 3 (by decide)) (fun _ => rfl) (fun _ _ => rfl) (dtX0_takeDigit_0 22 (37, .getfield 18, 3) rfl) ?_
        refine r_aload_n hk 1 (dtX0_takeDigit_0 23 (40, .aload_n 0, 1) rfl) rfl ?_
        refine r_getI hk (k := 3) (fsX0 X) cbX0 (by decide) fl_X0_21 (in_main 3 (by decide)) (fun _ => rfl) (fun _ _ => rfl) hF (dtX0_takeDigit_0 24 (41, .getfield 21, 3) rfl) (fun v6 hF => ?_)
        refine r_iconst (v := 1) hk (dtX0_takeDigit_0 25 (44, .iconst 1, 1) rfl) (by decide) ?_
        refine r_isub hk hF (dtX0_takeDigit_0 26 (45, .isub, 1) rfl) (fun v7 hF => ?_)
        refine r_iald hk (in_main 7 (by decide)) (fun _ => rfl) hF (dtX0_takeDigit_0 27 (46, .iaload, 1) rfl) (fun v8 hF => ?_)
        refine r_bipush (v := 10) hk (dtX0_takeDigit_0 28 (47, .bipush 10, 2) rfl) (by decide) ?_
        refine r_imul hk hF (dtX0_takeDigit_0 29 (49, .imul, 1) rfl) (fun v9 hF => ?_)
        refine r_aload_n hk 1 (dtX0_takeDigit_0 30 (50, .aload_n 0, 1) rfl) rfl ?_
        refine r_getI hk (k := 5) (fsX0 X) cbX0 (by decide) fl_X0_51 (in_main 3 (by decide)) (fun _ => rfl) (fun _ _ => rfl) hF (dtX0_takeDigit_0 31 (51, .getfield 51, 3) rfl) (fun v10 hF => ?_)
        have j63_12 : ∀ (v11 : Int32), (J_X0_takeDigit_63 m0 v5 v9) v11 = some (rv, mE) → G X K 63 [(0, .ref (xad X (0, 0, 0, 3)))] [.int v11, .int v9, .int v5, .ref (xad X (0, 0, 0, 7))] m0 := by
          intro v11 hF
          unfold J_X0_takeDigit_63 at hF
          refine r_iadd hk hF (dtX0_takeDigit_0 37 (63, .iadd, 1) rfl) (fun v13 hF => ?_)
          refine r_iast hk (in_main 7 (by decide)) (fun _ => rfl) hF (dtX0_takeDigit_0 38 (64, .iastore, 1) rfl) (fun m14 hF => ?_)
          refine r_aload_n hk 0 (dtX0_takeDigit_0 39 (65, .aload_n 0, 1) rfl) rfl ?_
          refine r_iconst (v := 4) hk (dtX0_takeDigit_0 40 (66, .iconst 4, 1) rfl) (by decide) ?_
          refine r_putI hk (k := 4) (fsX0 X) cbX0 (by decide) fl_X0_25 (in_main 3 (by decide)) (fun _ => rfl) rfl rfl (fun _ _ _ => rfl) (fun _ _ => (by decide : 4 < 6)) hF (dtX0_takeDigit_0 41 (67, .putfield 25, 3) rfl) (fun m15 hF => ?_)
          refine r_iconst (v := 1) hk (dtX0_takeDigit_0 42 (70, .iconst 1, 1) rfl) (by decide) ?_
          obtain ⟨hz, hF⟩ := ck_some hF
          cases Option.some.inj hF
          exact hR _ _ hz (dtX0_takeDigit_0 43 (71, .ireturn, 1) rfl)
        refine r_if_eq hk 62 hF (dtX0_takeDigit_0 32 (54, .ifCond .eq 8, 3) rfl) (by decide) (fun hF => ?_) (fun hF => ?_)
        · refine r_iload_n hk 0 (dtX0_takeDigit_0 36 (62, .iload_n 2, 1) rfl) rfl ?_
          exact r_sub hk [1] rfl (j63_12 v3 hF)
        · refine r_iload_n hk 0 (dtX0_takeDigit_0 33 (57, .iload_n 2, 1) rfl) rfl ?_
          refine r_ineg hk hF (dtX0_takeDigit_0 34 (58, .ineg, 1) rfl) (fun v16 hF => ?_)
          refine r_goto hk 63 (dtX0_takeDigit_0 35 (59, .goto 4, 3) rfl) (by decide) ?_
          exact r_sub hk [1] rfl (j63_12 v16 hF)
      · exact r_sub hk [] rfl (j19_2 hF)
set_option maxHeartbeats 4000000 in
set_option maxRecDepth 100000 in
theorem c_X0_takeAnd (l : Launch) (hlf : l.stackTraces = false) (X : XW)  (p1 : Int32) (m0 : Mem) (rv : Int32) (mE : Mem) (hF : F_X0_takeAnd p1 m0 = some (rv, mE)) : MX X l yX0_takeAnd cX0_takeAnd 2 (some .boolean) 0 [.ref (xad X (0, 0, 0, 3)), .int p1] m0 (QI X rv mE) := by
  refine startZ hlf (by decide +kernel) rfl [(0, .ref (xad X (0, 0, 0, 3))), (1, .int p1)] rfl (Nat.le_of_ble_eq_true rfl) (fun K hk hR => ?_)
  unfold F_X0_takeAnd at hF
  refine r_iload_n hk 1 (dtX0_takeAnd_0 0 (0, .iload_n 1, 1) rfl) rfl ?_
  refine r_bipush (v := 38) hk (dtX0_takeAnd_0 1 (1, .bipush 38, 2) rfl) (by decide) ?_
  refine r_icmp_eq hk 8 hF (dtX0_takeAnd_0 2 (3, .if_icmp .eq 5, 3) rfl) (by decide) (fun hF => ?_) (fun hF => ?_)
  · refine r_aload_n hk 0 (dtX0_takeAnd_0 5 (8, .aload_n 0, 1) rfl) rfl ?_
    refine r_iconst (v := 0) hk (dtX0_takeAnd_0 6 (9, .iconst 0, 1) rfl) (by decide) ?_
    refine r_putI hk (k := 4) (fsX0 X) cbX0 (by decide) fl_X0_25 (in_main 3 (by decide)) (fun _ => rfl) rfl rfl (fun _ _ _ => rfl) (fun _ _ => (by decide : 4 < 6)) hF (dtX0_takeAnd_0 7 (10, .putfield 25, 3) rfl) (fun m1 hF => ?_)
    refine r_iconst (v := 1) hk (dtX0_takeAnd_0 8 (13, .iconst 1, 1) rfl) (by decide) ?_
    obtain ⟨hz, hF⟩ := ck_some hF
    cases Option.some.inj hF
    exact hR _ _ hz (dtX0_takeAnd_0 9 (14, .ireturn, 1) rfl)
  · refine r_iconst (v := 0) hk (dtX0_takeAnd_0 3 (6, .iconst 0, 1) rfl) (by decide) ?_
    obtain ⟨hz, hF⟩ := ck_some hF
    cases Option.some.inj hF
    exact hR _ _ hz (dtX0_takeAnd_0 4 (7, .ireturn, 1) rfl)
set_option maxHeartbeats 4000000 in
set_option maxRecDepth 100000 in
theorem c_X0_mayGrow (l : Launch) (hlf : l.stackTraces = false) (X : XW)   (m0 : Mem) (rv : Int32) (hF : F_X0_mayGrow m0 = some rv) : MX X l yX0_mayGrow cX0_mayGrow 2 (some .boolean) 1 [.ref (xad X (0, 0, 0, 3))] m0 (QI X rv m0) := by
  refine startZ hlf (by decide +kernel) rfl [(0, .ref (xad X (0, 0, 0, 3)))] rfl (Nat.le_of_ble_eq_true rfl) (fun K hk hR => ?_)
  unfold F_X0_mayGrow at hF
  refine r_aload_n hk 0 (dtX0_mayGrow_0 0 (0, .aload_n 0, 1) rfl) rfl ?_
  refine r_getI hk (k := 3) (fsX0 X) cbX0 (by decide) fl_X0_21 (in_main 3 (by decide)) (fun _ => rfl) (fun _ _ => rfl) hF (dtX0_mayGrow_0 1 (1, .getfield 21, 3) rfl) (fun v1 hF => ?_)
  have j25_3 : ∀ (v2 : Int32), J_X0_mayGrow_25 v2 = some rv → G X K 25 [] [.int v2] m0 := by
    intro v2 hF
    unfold J_X0_mayGrow_25 at hF
    refine r_istore_n hk [(1, .int v2)] (dtX0_mayGrow_0 13 (25, .istore_n 1, 1) rfl) (by decide) rfl ?_
    refine r_iload_n hk 0 (dtX0_mayGrow_0 14 (26, .iload_n 1, 1) rfl) rfl ?_
    have j42_5 : ∀ (v4 : Int32), J_X0_mayGrow_42 v4 = some rv → G X K 42 [] [.int v4] m0 := by
      intro v4 hF
      unfold J_X0_mayGrow_42 at hF
      obtain ⟨hz, hF⟩ := ck_some hF
      cases Option.some.inj hF
      exact hR _ _ hz (dtX0_mayGrow_0 22 (42, .ireturn, 1) rfl)
    have j41_6 : J_X0_mayGrow_41 = some rv → G X K 41 [] [] m0 := by
      intro hF
      unfold J_X0_mayGrow_41 at hF
      refine r_iconst (v := 0) hk (dtX0_mayGrow_0 21 (41, .iconst 0, 1) rfl) (by decide) ?_
      exact r_sub hk [] rfl (j42_5 0 hF)
    refine r_if_le hk 41 hF (dtX0_mayGrow_0 15 (27, .ifCond .le 14, 3) rfl) (by decide) (fun hF => ?_) (fun hF => ?_)
    · exact r_sub hk [] rfl (j41_6 hF)
    · refine r_iload_n hk 0 (dtX0_mayGrow_0 16 (30, .iload_n 1, 1) rfl) rfl ?_
      refine r_sipush (v := 1000) hk (dtX0_mayGrow_0 17 (31, .sipush 1000, 3) rfl) (by decide) ?_
      refine r_icmp_ge hk 41 hF (dtX0_mayGrow_0 18 (34, .if_icmp .ge 7, 3) rfl) (by decide) (fun hF => ?_) (fun hF => ?_)
      · exact r_sub hk [] rfl (j41_6 hF)
      · refine r_iconst (v := 1) hk (dtX0_mayGrow_0 19 (37, .iconst 1, 1) rfl) (by decide) ?_
        refine r_goto hk 42 (dtX0_mayGrow_0 20 (38, .goto 4, 3) rfl) (by decide) ?_
        exact r_sub hk [] rfl (j42_5 1 hF)
  refine r_if_gt hk 11 hF (dtX0_mayGrow_0 2 (4, .ifCond .gt 7, 3) rfl) (by decide) (fun hF => ?_) (fun hF => ?_)
  · refine r_aload_n hk 0 (dtX0_mayGrow_0 5 (11, .aload_n 0, 1) rfl) rfl ?_
    refine r_getR hk (k := 2) (fsX0 X) cbX0 (by decide) fl_X0_18 (in_main 3 (by decide)) (fun _ => rfl) (fun _ _ => rfl) (dtX0_mayGrow_0 6 (12, .getfield 18, 3) rfl) ?_
    refine r_aload_n hk 0 (dtX0_mayGrow_0 7 (15, .aload_n 0, 1) rfl) rfl ?_
    refine r_getI hk (k := 3) (fsX0 X) cbX0 (by decide) fl_X0_21 (in_main 3 (by decide)) (fun _ => rfl) (fun _ _ => rfl) hF (dtX0_mayGrow_0 8 (16, .getfield 21, 3) rfl) (fun v7 hF => ?_)
    refine r_iconst (v := 1) hk (dtX0_mayGrow_0 9 (19, .iconst 1, 1) rfl) (by decide) ?_
    refine r_isub hk hF (dtX0_mayGrow_0 10 (20, .isub, 1) rfl) (fun v8 hF => ?_)
    refine r_iald hk (in_main 7 (by decide)) (fun _ => rfl) hF (dtX0_mayGrow_0 11 (21, .iaload, 1) rfl) (fun v9 hF => ?_)
    refine r_mabs hk lk_X0_55 hF (by decide) (Nat.le_of_ble_eq_true rfl) (dtX0_mayGrow_0 12 (22, .invokestatic 55, 3) rfl) (fun v10 hF => ?_)
    exact r_sub hk [] rfl (j25_3 v10 hF)
  · refine r_iconst (v := 0) hk (dtX0_mayGrow_0 3 (7, .iconst 0, 1) rfl) (by decide) ?_
    refine r_goto hk 25 (dtX0_mayGrow_0 4 (8, .goto 17, 3) rfl) (by decide) ?_
    exact r_sub hk [] rfl (j25_3 0 hF)
set_option maxHeartbeats 4000000 in
set_option maxRecDepth 100000 in
theorem c_X0_take (l : Launch) (hlf : l.stackTraces = false) (X : XW)  (p1 : Int32) (m0 : Mem) (rv : Int32) (mE : Mem) (hF : F_X0_take p1 m0 = some (rv, mE)) : MX X l yX0_take cX0_take 2 (some .boolean) 2 [.ref (xad X (0, 0, 0, 3)), .int p1] m0 (QI X rv mE) := by
  refine startZ hlf (by decide +kernel) rfl [(0, .ref (xad X (0, 0, 0, 3))), (1, .int p1)] rfl (Nat.le_of_ble_eq_true rfl) (fun K hk hR => ?_)
  unfold F_X0_take at hF
  refine r_aload_n hk 0 (dtX0_take_0 0 (0, .aload_n 0, 1) rfl) rfl ?_
  refine r_getI hk (k := 4) (fsX0 X) cbX0 (by decide) fl_X0_25 (in_main 3 (by decide)) (fun _ => rfl) (fun _ _ => rfl) hF (dtX0_take_0 1 (1, .getfield 25, 3) rfl) (fun v1 hF => ?_)
  by_cases hs4_0 : v1 = 0
  · rw [if_pos hs4_0] at hF
    refine r_tabIn hk 40 (dtX0_take_0 2 (4, .tableswitch 105 0 4 #[36, 42, 48, 70, 76], 36) rfl) (by rw [hs4_0]; decide) (by rw [hs4_0]; decide) (by rw [hs4_0]; rfl) (by decide) ?_
    refine r_aload_n hk 0 (dtX0_take_0 3 (40, .aload_n 0, 1) rfl) rfl ?_
    refine r_iload_n hk 1 (dtX0_take_0 4 (41, .iload_n 1, 1) rfl) rfl ?_
    refine r_callIm hF (fun v2 m3 h H locs ls hH hS hl => run_V (y := yX0_takeLetter) hk (in_main 3 (by decide)) rfl rfl (c_X0_takeLetter (kl K) hk.2.2.2.2.2.2.2.2.2.2.2 X  p1 m0 v2 m3 h) lk_X0_32 me_X0_takeLetter yf_X0_takeLetter (by decide) (by decide) rfl (Nat.le_of_ble_eq_true rfl) rfl (dtX0_take_0 5 (42, .invokevirtual 32, 3) rfl) hH hS hl) (fun v2 m3 hF => ?_)
    obtain ⟨hz, hF⟩ := ck_some hF
    cases Option.some.inj hF
    exact hR _ _ hz (dtX0_take_0 6 (45, .ireturn, 1) rfl)
  · rw [if_neg hs4_0] at hF
    by_cases hs4_1 : v1 = 1
    · rw [if_pos hs4_1] at hF
      refine r_tabIn hk 46 (dtX0_take_0 2 (4, .tableswitch 105 0 4 #[36, 42, 48, 70, 76], 36) rfl) (by rw [hs4_1]; decide) (by rw [hs4_1]; decide) (by rw [hs4_1]; rfl) (by decide) ?_
      refine r_aload_n hk 0 (dtX0_take_0 7 (46, .aload_n 0, 1) rfl) rfl ?_
      refine r_iload_n hk 1 (dtX0_take_0 8 (47, .iload_n 1, 1) rfl) rfl ?_
      refine r_callIm hF (fun v4 m5 h H locs ls hH hS hl => run_V (y := yX0_takeSign) hk (in_main 3 (by decide)) rfl rfl (c_X0_takeSign (kl K) hk.2.2.2.2.2.2.2.2.2.2.2 X  p1 m0 v4 m5 h) lk_X0_35 me_X0_takeSign yf_X0_takeSign (by decide) (by decide) rfl (Nat.le_of_ble_eq_true rfl) rfl (dtX0_take_0 9 (48, .invokevirtual 35, 3) rfl) hH hS hl) (fun v4 m5 hF => ?_)
      obtain ⟨hz, hF⟩ := ck_some hF
      cases Option.some.inj hF
      exact hR _ _ hz (dtX0_take_0 10 (51, .ireturn, 1) rfl)
    · rw [if_neg hs4_1] at hF
      by_cases hs4_2 : v1 = 2
      · rw [if_pos hs4_2] at hF
        refine r_tabIn hk 52 (dtX0_take_0 2 (4, .tableswitch 105 0 4 #[36, 42, 48, 70, 76], 36) rfl) (by rw [hs4_2]; decide) (by rw [hs4_2]; decide) (by rw [hs4_2]; rfl) (by decide) ?_
        refine r_aload_n hk 0 (dtX0_take_0 11 (52, .aload_n 0, 1) rfl) rfl ?_
        refine r_iload_n hk 1 (dtX0_take_0 12 (53, .iload_n 1, 1) rfl) rfl ?_
        refine r_callIm hF (fun v6 m7 h H locs ls hH hS hl => run_V (y := yX0_takeMinus) hk (in_main 3 (by decide)) rfl rfl (c_X0_takeMinus (kl K) hk.2.2.2.2.2.2.2.2.2.2.2 X  p1 m0 v6 m7 h) lk_X0_38 me_X0_takeMinus yf_X0_takeMinus (by decide) (by decide) rfl (Nat.le_of_ble_eq_true rfl) rfl (dtX0_take_0 13 (54, .invokevirtual 38, 3) rfl) hH hS hl) (fun v6 m7 hF => ?_)
        have j73_10 : ∀ (v8 : Int32) (m9 : Mem), J_X0_take_73 v8 m9 = some (rv, mE) → G X K 73 [] [.int v8] m9 := by
          intro v8 m9 hF
          unfold J_X0_take_73 at hF
          obtain ⟨hz, hF⟩ := ck_some hF
          cases Option.some.inj hF
          exact hR _ _ hz (dtX0_take_0 22 (73, .ireturn, 1) rfl)
        have j68_12 : ∀ (m11 : Mem), J_X0_take_68 m11 = some (rv, mE) → G X K 68 [] [] m11 := by
          intro m11 hF
          unfold J_X0_take_68 at hF
          refine r_iconst (v := 1) hk (dtX0_take_0 19 (68, .iconst 1, 1) rfl) (by decide) ?_
          refine r_goto hk 73 (dtX0_take_0 20 (69, .goto 4, 3) rfl) (by decide) ?_
          exact r_sub hk [] rfl (j73_10 1 m11 hF)
        refine r_if_ne hk 68 hF (dtX0_take_0 14 (57, .ifCond .ne 11, 3) rfl) (by decide) (fun hF => ?_) (fun hF => ?_)
        · exact r_sub hk [] rfl (j68_12 m7 hF)
        · refine r_aload_n hk 0 (dtX0_take_0 15 (60, .aload_n 0, 1) rfl) rfl ?_
          refine r_iload_n hk 1 (dtX0_take_0 16 (61, .iload_n 1, 1) rfl) rfl ?_
          refine r_callIm hF (fun v13 m14 h H locs ls hH hS hl => run_V (y := yX0_takeDigit) hk (in_main 3 (by decide)) rfl rfl (c_X0_takeDigit (kl K) hk.2.2.2.2.2.2.2.2.2.2.2 X  p1 m7 v13 m14 h) lk_X0_41 me_X0_takeDigit yf_X0_takeDigit (by decide) (by decide) rfl (Nat.le_of_ble_eq_true rfl) rfl (dtX0_take_0 17 (62, .invokevirtual 41, 3) rfl) hH hS hl) (fun v13 m14 hF => ?_)
          refine r_if_eq hk 72 hF (dtX0_take_0 18 (65, .ifCond .eq 7, 3) rfl) (by decide) (fun hF => ?_) (fun hF => ?_)
          · refine r_iconst (v := 0) hk (dtX0_take_0 21 (72, .iconst 0, 1) rfl) (by decide) ?_
            exact r_sub hk [] rfl (j73_10 0 m14 hF)
          · exact r_sub hk [] rfl (j68_12 m14 hF)
      · rw [if_neg hs4_2] at hF
        by_cases hs4_3 : v1 = 3
        · rw [if_pos hs4_3] at hF
          refine r_tabIn hk 74 (dtX0_take_0 2 (4, .tableswitch 105 0 4 #[36, 42, 48, 70, 76], 36) rfl) (by rw [hs4_3]; decide) (by rw [hs4_3]; decide) (by rw [hs4_3]; rfl) (by decide) ?_
          refine r_aload_n hk 0 (dtX0_take_0 23 (74, .aload_n 0, 1) rfl) rfl ?_
          refine r_iload_n hk 1 (dtX0_take_0 24 (75, .iload_n 1, 1) rfl) rfl ?_
          refine r_callIm hF (fun v15 m16 h H locs ls hH hS hl => run_V (y := yX0_takeDigit) hk (in_main 3 (by decide)) rfl rfl (c_X0_takeDigit (kl K) hk.2.2.2.2.2.2.2.2.2.2.2 X  p1 m0 v15 m16 h) lk_X0_41 me_X0_takeDigit yf_X0_takeDigit (by decide) (by decide) rfl (Nat.le_of_ble_eq_true rfl) rfl (dtX0_take_0 25 (76, .invokevirtual 41, 3) rfl) hH hS hl) (fun v15 m16 hF => ?_)
          obtain ⟨hz, hF⟩ := ck_some hF
          cases Option.some.inj hF
          exact hR _ _ hz (dtX0_take_0 26 (79, .ireturn, 1) rfl)
        · rw [if_neg hs4_3] at hF
          by_cases hs4_4 : v1 = 4
          · rw [if_pos hs4_4] at hF
            refine r_tabIn hk 80 (dtX0_take_0 2 (4, .tableswitch 105 0 4 #[36, 42, 48, 70, 76], 36) rfl) (by rw [hs4_4]; decide) (by rw [hs4_4]; decide) (by rw [hs4_4]; rfl) (by decide) ?_
            refine r_aload_n hk 0 (dtX0_take_0 27 (80, .aload_n 0, 1) rfl) rfl ?_
            refine r_iload_n hk 1 (dtX0_take_0 28 (81, .iload_n 1, 1) rfl) rfl ?_
            refine r_callIm hF (fun v17 m18 h H locs ls hH hS hl => run_V (y := yX0_takeAnd) hk (in_main 3 (by decide)) rfl rfl (c_X0_takeAnd (kl K) hk.2.2.2.2.2.2.2.2.2.2.2 X  p1 m0 v17 m18 h) lk_X0_44 me_X0_takeAnd yf_X0_takeAnd (by decide) (by decide) rfl (Nat.le_of_ble_eq_true rfl) rfl (dtX0_take_0 29 (82, .invokevirtual 44, 3) rfl) hH hS hl) (fun v17 m18 hF => ?_)
            have j108_21 : ∀ (v19 : Int32) (m20 : Mem), J_X0_take_108 v19 m20 = some (rv, mE) → G X K 108 [] [.int v19] m20 := by
              intro v19 m20 hF
              unfold J_X0_take_108 at hF
              obtain ⟨hz, hF⟩ := ck_some hF
              cases Option.some.inj hF
              exact hR _ _ hz (dtX0_take_0 41 (108, .ireturn, 1) rfl)
            have j103_23 : ∀ (m22 : Mem), J_X0_take_103 m22 = some (rv, mE) → G X K 103 [] [] m22 := by
              intro m22 hF
              unfold J_X0_take_103 at hF
              refine r_iconst (v := 1) hk (dtX0_take_0 38 (103, .iconst 1, 1) rfl) (by decide) ?_
              refine r_goto hk 108 (dtX0_take_0 39 (104, .goto 4, 3) rfl) (by decide) ?_
              exact r_sub hk [] rfl (j108_21 1 m22 hF)
            refine r_if_ne hk 103 hF (dtX0_take_0 30 (85, .ifCond .ne 18, 3) rfl) (by decide) (fun hF => ?_) (fun hF => ?_)
            · exact r_sub hk [] rfl (j103_23 m18 hF)
            · refine r_aload_n hk 0 (dtX0_take_0 31 (88, .aload_n 0, 1) rfl) rfl ?_
              refine r_callI hF (fun v24 h H locs ls hH hS hl => run_V (y := yX0_mayGrow) hk (in_main 3 (by decide)) rfl rfl (c_X0_mayGrow (kl K) hk.2.2.2.2.2.2.2.2.2.2.2 X   m18 v24 h) lk_X0_47 me_X0_mayGrow yf_X0_mayGrow (by decide) (by decide) rfl (Nat.le_of_ble_eq_true rfl) rfl (dtX0_take_0 32 (89, .invokevirtual 47, 3) rfl) hH hS hl) (fun v24 hF => ?_)
              have j107_26 : ∀ (m25 : Mem), J_X0_take_107 m25 = some (rv, mE) → G X K 107 [] [] m25 := by
                intro m25 hF
                unfold J_X0_take_107 at hF
                refine r_iconst (v := 0) hk (dtX0_take_0 40 (107, .iconst 0, 1) rfl) (by decide) ?_
                exact r_sub hk [] rfl (j108_21 0 m25 hF)
              refine r_if_eq hk 107 hF (dtX0_take_0 33 (92, .ifCond .eq 15, 3) rfl) (by decide) (fun hF => ?_) (fun hF => ?_)
              · exact r_sub hk [] rfl (j107_26 m18 hF)
              · refine r_aload_n hk 0 (dtX0_take_0 34 (95, .aload_n 0, 1) rfl) rfl ?_
                refine r_iload_n hk 1 (dtX0_take_0 35 (96, .iload_n 1, 1) rfl) rfl ?_
                refine r_callIm hF (fun v27 m28 h H locs ls hH hS hl => run_V (y := yX0_takeDigit) hk (in_main 3 (by decide)) rfl rfl (c_X0_takeDigit (kl K) hk.2.2.2.2.2.2.2.2.2.2.2 X  p1 m18 v27 m28 h) lk_X0_41 me_X0_takeDigit yf_X0_takeDigit (by decide) (by decide) rfl (Nat.le_of_ble_eq_true rfl) rfl (dtX0_take_0 36 (97, .invokevirtual 41, 3) rfl) hH hS hl) (fun v27 m28 hF => ?_)
                refine r_if_eq hk 107 hF (dtX0_take_0 37 (100, .ifCond .eq 7, 3) rfl) (by decide) (fun hF => ?_) (fun hF => ?_)
                · exact r_sub hk [] rfl (j107_26 m28 hF)
                · exact r_sub hk [] rfl (j103_23 m28 hF)
          · rw [if_neg hs4_4] at hF
            refine r_tabOut hk 109 (dtX0_take_0 2 (4, .tableswitch 105 0 4 #[36, 42, 48, 70, 76], 36) rfl) (by have q0 := lv_neT hs4_0 (a := 0) rfl; have q1 := lv_neT hs4_1 (a := 1) rfl; have q2 := lv_neT hs4_2 (a := 2) rfl; have q3 := lv_neT hs4_3 (a := 3) rfl; have q4 := lv_neT hs4_4 (a := 4) rfl; omega) (by decide) ?_
            refine r_iconst (v := 0) hk (dtX0_take_0 42 (109, .iconst 0, 1) rfl) (by decide) ?_
            obtain ⟨hz, hF⟩ := ck_some hF
            cases Option.some.inj hF
            exact hR _ _ hz (dtX0_take_0 43 (110, .ireturn, 1) rfl)
set_option maxHeartbeats 4000000 in
set_option maxRecDepth 100000 in
theorem c_X0_read (l : Launch) (hlf : l.stackTraces = false) (X : XW)  (p2 : Int32) (m0 : Mem) (rv : Int32) (mE : Mem) (hF : F_X0_read p2 m0 = some (rv, mE)) : MX X l yX0_read cX0_read 4 (some .int) 3 [.ref (xad X (0, 0, 0, 3)), .ref (xad X (0, 0, 0, 2)), .int p2] m0 (QI X rv mE) := by
  refine startI hlf (by decide +kernel) rfl [(0, .ref (xad X (0, 0, 0, 3))), (1, .ref (xad X (0, 0, 0, 2))), (2, .int p2)] rfl (Nat.le_of_ble_eq_true rfl) (fun K hk hR => ?_)
  unfold F_X0_read at hF
  refine r_aload_n hk 0 (dtX0_read_0 0 (0, .aload_n 0, 1) rfl) rfl ?_
  refine r_iconst (v := 0) hk (dtX0_read_0 1 (1, .iconst 0, 1) rfl) (by decide) ?_
  refine r_putI hk (k := 3) (fsX0 X) cbX0 (by decide) fl_X0_21 (in_main 3 (by decide)) (fun _ => rfl) rfl rfl (fun _ _ _ => rfl) (fun _ _ => (by decide : 3 < 6)) hF (dtX0_read_0 2 (2, .putfield 21, 3) rfl) (fun m1 hF => ?_)
  refine r_aload_n hk 0 (dtX0_read_0 3 (5, .aload_n 0, 1) rfl) rfl ?_
  refine r_iconst (v := 0) hk (dtX0_read_0 4 (6, .iconst 0, 1) rfl) (by decide) ?_
  refine r_putI hk (k := 4) (fsX0 X) cbX0 (by decide) fl_X0_25 (in_main 3 (by decide)) (fun _ => rfl) rfl rfl (fun _ _ _ => rfl) (fun _ _ => (by decide : 4 < 6)) hF (dtX0_read_0 5 (7, .putfield 25, 3) rfl) (fun m2 hF => ?_)
  refine r_iconst (v := 0) hk (dtX0_read_0 6 (10, .iconst 0, 1) rfl) (by decide) ?_
  refine r_istore_n hk [(3, .int 0), (0, .ref (xad X (0, 0, 0, 3))), (1, .ref (xad X (0, 0, 0, 2))), (2, .int p2)] (dtX0_read_0 7 (11, .istore_n 3, 1) rfl) (by decide) rfl ?_
  have e46_4 : ∀ (m3 : Mem), (C_X0_read_46 p2) m3 = some (rv, mE) → G X K 46 [(2, .int p2)] [] m3 := by
    intro m3 hF
    unfold C_X0_read_46 at hF
    refine r_iload_n hk 0 (dtX0_read_0 28 (46, .iload_n 2, 1) rfl) rfl ?_
    cases Option.some.inj hF
    exact hR _ _ (dtX0_read_0 29 (47, .ireturn, 1) rfl)
  have l8 : ∀ (n8 : Nat) (v5 : Int32) (m6 : Mem), L_X0_read_12 p2 n8 v5 m6 = some (rv, mE) → G X K 12 [(0, .ref (xad X (0, 0, 0, 3))), (1, .ref (xad X (0, 0, 0, 2))), (2, .int p2), (3, .int v5)] [] m6 := by
    intro n8
    induction n8 with
    | zero => intro v5 m6 hF; exact nomatch (show (none : Option (Int32 × Mem)) = some (rv, mE) from hF)
    | succ n8 ih8 =>
      intro v5 m6 hF
      rw [L_X0_read_12] at hF
      refine r_iload_n hk 3 (dtX0_read_0 8 (12, .iload_n 3, 1) rfl) rfl ?_
      refine r_iload_n hk 2 (dtX0_read_0 9 (13, .iload_n 2, 1) rfl) rfl ?_
      refine r_icmp_ge hk 46 hF (dtX0_read_0 10 (14, .if_icmp .ge 32, 3) rfl) (by decide) (fun hF => ?_) (fun hF => ?_)
      · exact r_sub hk [2] rfl (e46_4 m6 hF)
      · refine r_iload_n hk 3 (dtX0_read_0 11 (17, .iload_n 3, 1) rfl) rfl ?_
        refine r_aload_n hk 1 (dtX0_read_0 12 (18, .aload_n 1, 1) rfl) rfl ?_
        refine r_alen (v := 40) hk (in_main 2 (by decide)) (fun _ => rfl) (by decide) (dtX0_read_0 13 (19, .arraylength, 1) rfl) ?_
        refine r_icmp_ge hk 46 hF (dtX0_read_0 14 (20, .if_icmp .ge 26, 3) rfl) (by decide) (fun hF => ?_) (fun hF => ?_)
        · exact r_sub hk [2] rfl (e46_4 m6 hF)
        · refine r_aload_n hk 0 (dtX0_read_0 15 (23, .aload_n 0, 1) rfl) rfl ?_
          refine r_aload_n hk 1 (dtX0_read_0 16 (24, .aload_n 1, 1) rfl) rfl ?_
          refine r_iload_n hk 3 (dtX0_read_0 17 (25, .iload_n 3, 1) rfl) rfl ?_
          refine r_iald hk (in_main 2 (by decide)) (fun _ => rfl) hF (dtX0_read_0 18 (26, .iaload, 1) rfl) (fun v9 hF => ?_)
          refine r_callIm hF (fun v10 m11 h H locs ls hH hS hl => run_V (y := yX0_take) hk (in_main 3 (by decide)) rfl rfl (c_X0_take (kl K) hk.2.2.2.2.2.2.2.2.2.2.2 X  v9 m6 v10 m11 h) lk_X0_28 me_X0_take yf_X0_take (by decide) (by decide) rfl (Nat.le_of_ble_eq_true rfl) rfl (dtX0_read_0 19 (27, .invokevirtual 28, 3) rfl) hH hS hl) (fun v10 m11 hF => ?_)
          refine r_if_ne hk 40 hF (dtX0_read_0 20 (30, .ifCond .ne 10, 3) rfl) (by decide) (fun hF => ?_) (fun hF => ?_)
          · refine r_iinc hk 1 3 (fun v12 => [(3, .int v12), (0, .ref (xad X (0, 0, 0, 3))), (1, .ref (xad X (0, 0, 0, 2))), (2, .int p2)]) hF (dtX0_read_0 26 (40, .iinc 3 1, 3) rfl) rfl (by decide) (by decide) (fun _ => rfl) (fun v12 hF => ?_)
            refine r_goto hk 12 (dtX0_read_0 27 (43, .goto (-31), 3) rfl) (by decide) ?_
            exact r_sub hk [1, 2, 3, 0] rfl (ih8 v12 m11 hF)
          · refine r_aload_n hk 0 (dtX0_read_0 21 (33, .aload_n 0, 1) rfl) rfl ?_
            refine r_iconst (v := 5) hk (dtX0_read_0 22 (34, .iconst 5, 1) rfl) (by decide) ?_
            refine r_putI hk (k := 4) (fsX0 X) cbX0 (by decide) fl_X0_25 (in_main 3 (by decide)) (fun _ => rfl) rfl rfl (fun _ _ _ => rfl) (fun _ _ => (by decide : 4 < 6)) hF (dtX0_read_0 23 (35, .putfield 25, 3) rfl) (fun m13 hF => ?_)
            refine r_iload_n hk 3 (dtX0_read_0 24 (38, .iload_n 3, 1) rfl) rfl ?_
            cases Option.some.inj hF
            exact hR _ _ (dtX0_read_0 25 (39, .ireturn, 1) rfl)
  exact r_sub hk [1, 2, 3, 0] rfl (l8 fu 0 m2 hF)
set_option maxHeartbeats 4000000 in
set_option maxRecDepth 100000 in
theorem c_X0_isWhole (l : Launch) (hlf : l.stackTraces = false) (X : XW)   (m0 : Mem) (rv : Int32) (hF : F_X0_isWhole m0 = some rv) : MX X l yX0_isWhole cX0_isWhole 1 (some .boolean) 0 [.ref (xad X (0, 0, 0, 3))] m0 (QI X rv m0) := by
  refine startZ hlf (by decide +kernel) rfl [(0, .ref (xad X (0, 0, 0, 3)))] rfl (Nat.le_of_ble_eq_true rfl) (fun K hk hR => ?_)
  unfold F_X0_isWhole at hF
  refine r_aload_n hk 0 (dtX0_isWhole_0 0 (0, .aload_n 0, 1) rfl) rfl ?_
  refine r_getI hk (k := 4) (fsX0 X) cbX0 (by decide) fl_X0_25 (in_main 3 (by decide)) (fun _ => rfl) (fun _ _ => rfl) hF (dtX0_isWhole_0 1 (1, .getfield 25, 3) rfl) (fun v1 hF => ?_)
  refine r_iconst (v := 4) hk (dtX0_isWhole_0 2 (4, .iconst 4, 1) rfl) (by decide) ?_
  have j13_3 : ∀ (v2 : Int32), J_X0_isWhole_13 v2 = some rv → G X K 13 [] [.int v2] m0 := by
    intro v2 hF
    unfold J_X0_isWhole_13 at hF
    obtain ⟨hz, hF⟩ := ck_some hF
    cases Option.some.inj hF
    exact hR _ _ hz (dtX0_isWhole_0 7 (13, .ireturn, 1) rfl)
  refine r_icmp_ne hk 12 hF (dtX0_isWhole_0 3 (5, .if_icmp .ne 7, 3) rfl) (by decide) (fun hF => ?_) (fun hF => ?_)
  · refine r_iconst (v := 0) hk (dtX0_isWhole_0 6 (12, .iconst 0, 1) rfl) (by decide) ?_
    exact r_sub hk [] rfl (j13_3 0 hF)
  · refine r_iconst (v := 1) hk (dtX0_isWhole_0 4 (8, .iconst 1, 1) rfl) (by decide) ?_
    refine r_goto hk 13 (dtX0_isWhole_0 5 (9, .goto 4, 3) rfl) (by decide) ?_
    exact r_sub hk [] rfl (j13_3 1 hF)
set_option maxHeartbeats 4000000 in
set_option maxRecDepth 100000 in
theorem c_X3_readQuestion (l : Launch) (hlf : l.stackTraces = false) (X : XW)   (m0 : Mem) (rv : Int32) (mE : Mem) (hF : F_X3_readQuestion m0 = some (rv, mE)) : MX X l yX3_readQuestion cX3_readQuestion 1 (some .boolean) 4 [.ref (xad X (0, 0, 0, 0))] m0 (QI X rv mE) := by
  refine startZ hlf (by decide +kernel) rfl [(0, .ref (xad X (0, 0, 0, 0)))] rfl (Nat.le_of_ble_eq_true rfl) (fun K hk hR => ?_)
  unfold F_X3_readQuestion at hF
  refine r_aload_n hk 0 (dtX3_readQuestion_0 0 (0, .aload_n 0, 1) rfl) rfl ?_
  refine r_getR hk (k := 2) (fsX3 X) cbX3 (by decide) fl_X3_22 (in_main 0 (by decide)) (fun _ => rfl) (fun _ _ => rfl) (dtX3_readQuestion_0 1 (1, .getfield 22, 3) rfl) ?_
  refine r_aload_n hk 0 (dtX3_readQuestion_0 2 (4, .aload_n 0, 1) rfl) rfl ?_
  refine r_getR hk (k := 1) (fsX3 X) cbX3 (by decide) fl_X3_15 (in_main 0 (by decide)) (fun _ => rfl) (fun _ _ => rfl) (dtX3_readQuestion_0 3 (5, .getfield 15, 3) rfl) ?_
  refine r_aload_n hk 0 (dtX3_readQuestion_0 4 (8, .aload_n 0, 1) rfl) rfl ?_
  refine r_getI hk (k := 6) (fsX3 X) cbX3 (by decide) fl_X3_145 (in_main 0 (by decide)) (fun _ => rfl) (fun _ _ => rfl) hF (dtX3_readQuestion_0 5 (9, .getfield 145, 3) rfl) (fun v1 hF => ?_)
  refine r_callIm hF (fun v2 m3 h H locs ls hH hS hl => run_V (y := yX0_read) hk (in_main 3 (by decide)) rfl rfl (c_X0_read (kl K) hk.2.2.2.2.2.2.2.2.2.2.2 X  v1 m0 v2 m3 h) lk_X3_155 me_X0_read yf_X0_read (by decide) (by decide) rfl (Nat.le_of_ble_eq_true rfl) rfl (dtX3_readQuestion_0 6 (12, .invokevirtual 155, 3) rfl) hH hS hl) (fun v2 m3 hF => ?_)
  refine r_pop hk (dtX3_readQuestion_0 7 (15, .pop, 1) rfl) rfl ?_
  refine r_aload_n hk 0 (dtX3_readQuestion_0 8 (16, .aload_n 0, 1) rfl) rfl ?_
  refine r_getR hk (k := 2) (fsX3 X) cbX3 (by decide) fl_X3_22 (in_main 0 (by decide)) (fun _ => rfl) (fun _ _ => rfl) (dtX3_readQuestion_0 9 (17, .getfield 22, 3) rfl) ?_
  refine r_callI hF (fun v4 h H locs ls hH hS hl => run_V (y := yX0_isWhole) hk (in_main 3 (by decide)) rfl rfl (c_X0_isWhole (kl K) hk.2.2.2.2.2.2.2.2.2.2.2 X   m3 v4 h) lk_X3_280 me_X0_isWhole yf_X0_isWhole (by decide) (by decide) rfl (Nat.le_of_ble_eq_true rfl) rfl (dtX3_readQuestion_0 10 (20, .invokevirtual 280, 3) rfl) hH hS hl) (fun v4 hF => ?_)
  obtain ⟨hz, hF⟩ := ck_some hF
  cases Option.some.inj hF
  exact hR _ _ hz (dtX3_readQuestion_0 11 (23, .ireturn, 1) rfl)
set_option maxHeartbeats 4000000 in
set_option maxRecDepth 100000 in
theorem c_X2_columnOf (l : Launch) (hlf : l.stackTraces = false) (X : XW) (i0 : Nat) (hi0 : i0 < 7) (j0 : Nat) (hj0 : j0 < 3) (p1 : Int32) (m0 : Mem) (rv : Int32) (hF : F_X2_columnOf i0 j0 p1 m0 = some rv) : MX X l yX2_columnOf cX2_columnOf 3 (some .int) 0 [.ref (xad X (2, i0, j0, 0)), .int p1] m0 (QI X rv m0) := by
  refine startI hlf (by decide +kernel) rfl [(0, .ref (xad X (2, i0, j0, 0))), (1, .int p1)] rfl (Nat.le_of_ble_eq_true rfl) (fun K hk hR => ?_)
  unfold F_X2_columnOf at hF
  refine r_iconst (v := 0) hk (dtX2_columnOf_0 0 (0, .iconst 0, 1) rfl) (by decide) ?_
  refine r_istore_n hk [(2, .int 0), (0, .ref (xad X (2, i0, j0, 0))), (1, .int p1)] (dtX2_columnOf_0 1 (1, .istore_n 2, 1) rfl) (by decide) rfl ?_
  have e26_1 : C_X2_columnOf_26 = some rv → G X K 26 [] [] m0 := by
    intro hF
    unfold C_X2_columnOf_26 at hF
    refine r_iconst (v := (-1)) hk (dtX2_columnOf_0 15 (26, .iconst (-1), 1) rfl) (by decide) ?_
    cases Option.some.inj hF
    exact hR _ _ (dtX2_columnOf_0 16 (27, .ireturn, 1) rfl)
  have l4 : ∀ (n4 : Nat) (v2 : Int32), L_X2_columnOf_2 i0 j0 p1 m0 n4 v2 = some rv → G X K 2 [(0, .ref (xad X (2, i0, j0, 0))), (1, .int p1), (2, .int v2)] [] m0 := by
    intro n4
    induction n4 with
    | zero => intro v2 hF; exact nomatch (show (none : Option Int32) = some rv from hF)
    | succ n4 ih4 =>
      intro v2 hF
      rw [L_X2_columnOf_2] at hF
      refine r_iload_n hk 2 (dtX2_columnOf_0 2 (2, .iload_n 2, 1) rfl) rfl ?_
      refine r_bipush (v := 8) hk (dtX2_columnOf_0 3 (3, .bipush 8, 2) rfl) (by decide) ?_
      refine r_icmp_ge hk 26 hF (dtX2_columnOf_0 4 (5, .if_icmp .ge 21, 3) rfl) (by decide) (fun hF => ?_) (fun hF => ?_)
      · exact r_sub hk [] rfl (e26_1 hF)
      · refine r_aload_n hk 0 (dtX2_columnOf_0 5 (8, .aload_n 0, 1) rfl) rfl ?_
        refine r_getR hk (k := 0) (fsX2 X i0 j0) cbX2 (by decide) fl_X2_9 (in_tn i0 hi0 j0 hj0 0 (by decide)) (fun _ => rfl) (fun _ _ => rfl) (dtX2_columnOf_0 6 (9, .getfield 9, 3) rfl) ?_
        refine r_iload_n hk 2 (dtX2_columnOf_0 7 (12, .iload_n 2, 1) rfl) rfl ?_
        refine r_iald hk (in_tn i0 hi0 j0 hj0 1 (by decide)) (fun _ => rfl) hF (dtX2_columnOf_0 8 (13, .iaload, 1) rfl) (fun v5 hF => ?_)
        refine r_iload_n hk 1 (dtX2_columnOf_0 9 (14, .iload_n 1, 1) rfl) rfl ?_
        refine r_icmp_ne hk 20 hF (dtX2_columnOf_0 10 (15, .if_icmp .ne 5, 3) rfl) (by decide) (fun hF => ?_) (fun hF => ?_)
        · refine r_iinc hk 1 2 (fun v6 => [(2, .int v6), (0, .ref (xad X (2, i0, j0, 0))), (1, .int p1)]) hF (dtX2_columnOf_0 13 (20, .iinc 2 1, 3) rfl) rfl (by decide) (by decide) (fun _ => rfl) (fun v6 hF => ?_)
          refine r_goto hk 2 (dtX2_columnOf_0 14 (23, .goto (-21), 3) rfl) (by decide) ?_
          exact r_sub hk [1, 2, 0] rfl (ih4 v6 hF)
        · refine r_iload_n hk 2 (dtX2_columnOf_0 11 (18, .iload_n 2, 1) rfl) rfl ?_
          cases Option.some.inj hF
          exact hR _ _ (dtX2_columnOf_0 12 (19, .ireturn, 1) rfl)
  exact r_sub hk [1, 2, 0] rfl (l4 fu 0 hF)
set_option maxHeartbeats 4000000 in
set_option maxRecDepth 100000 in
theorem c_X0_allows (l : Launch) (hlf : l.stackTraces = false) (X : XW)  (p1 : Int32) (p2 : Int32) (m0 : Mem) (rv : Int32) (hF : F_X0_allows p1 p2 m0 = some rv) : MX X l yX0_allows cX0_allows 3 (some .boolean) 0 [.ref (xad X (0, 0, 0, 3)), .int p1, .int p2] m0 (QI X rv m0) := by
  refine startZ hlf (by decide +kernel) rfl [(0, .ref (xad X (0, 0, 0, 3))), (1, .int p1), (2, .int p2)] rfl (Nat.le_of_ble_eq_true rfl) (fun K hk hR => ?_)
  unfold F_X0_allows at hF
  refine r_aload_n hk 0 (dtX0_allows_0 0 (0, .aload_n 0, 1) rfl) rfl ?_
  refine r_getR hk (k := 1) (fsX0 X) cbX0 (by decide) fl_X0_15 (in_main 3 (by decide)) (fun _ => rfl) (fun _ _ => rfl) (dtX0_allows_0 1 (1, .getfield 15, 3) rfl) ?_
  refine r_iload_n hk 1 (dtX0_allows_0 2 (4, .iload_n 1, 1) rfl) rfl ?_
  refine r_iald hk (in_main 6 (by decide)) (fun _ => rfl) hF (dtX0_allows_0 3 (5, .iaload, 1) rfl) (fun v1 hF => ?_)
  by_cases hs6_60 : v1 = 60
  · rw [if_pos hs6_60] at hF
    refine r_lookup (off := 42) hk 48 (dtX0_allows_0 4 (6, .lookupswitch 58 #[(60, 42), (61, 26)], 26) rfl) (by decide) (lk_eq hs6_60 (by decide)) (by decide) ?_
    refine r_iload_n hk 2 (dtX0_allows_0 15 (48, .iload_n 2, 1) rfl) rfl ?_
    refine r_aload_n hk 0 (dtX0_allows_0 16 (49, .aload_n 0, 1) rfl) rfl ?_
    refine r_getR hk (k := 2) (fsX0 X) cbX0 (by decide) fl_X0_18 (in_main 3 (by decide)) (fun _ => rfl) (fun _ _ => rfl) (dtX0_allows_0 17 (50, .getfield 18, 3) rfl) ?_
    refine r_iload_n hk 1 (dtX0_allows_0 18 (53, .iload_n 1, 1) rfl) rfl ?_
    refine r_iald hk (in_main 7 (by decide)) (fun _ => rfl) hF (dtX0_allows_0 19 (54, .iaload, 1) rfl) (fun v2 hF => ?_)
    have j63_4 : ∀ (v3 : Int32), J_X0_allows_63 v3 = some rv → G X K 63 [] [.int v3] m0 := by
      intro v3 hF
      unfold J_X0_allows_63 at hF
      obtain ⟨hz, hF⟩ := ck_some hF
      cases Option.some.inj hF
      exact hR _ _ hz (dtX0_allows_0 24 (63, .ireturn, 1) rfl)
    refine r_icmp_ge hk 62 hF (dtX0_allows_0 20 (55, .if_icmp .ge 7, 3) rfl) (by decide) (fun hF => ?_) (fun hF => ?_)
    · refine r_iconst (v := 0) hk (dtX0_allows_0 23 (62, .iconst 0, 1) rfl) (by decide) ?_
      exact r_sub hk [] rfl (j63_4 0 hF)
    · refine r_iconst (v := 1) hk (dtX0_allows_0 21 (58, .iconst 1, 1) rfl) (by decide) ?_
      refine r_goto hk 63 (dtX0_allows_0 22 (59, .goto 4, 3) rfl) (by decide) ?_
      exact r_sub hk [] rfl (j63_4 1 hF)
  · rw [if_neg hs6_60] at hF
    by_cases hs6_61 : v1 = 61
    · rw [if_pos hs6_61] at hF
      refine r_lookup (off := 26) hk 32 (dtX0_allows_0 4 (6, .lookupswitch 58 #[(60, 42), (61, 26)], 26) rfl) (by decide) (lk_eq hs6_61 (by decide)) (by decide) ?_
      refine r_iload_n hk 2 (dtX0_allows_0 5 (32, .iload_n 2, 1) rfl) rfl ?_
      refine r_aload_n hk 0 (dtX0_allows_0 6 (33, .aload_n 0, 1) rfl) rfl ?_
      refine r_getR hk (k := 2) (fsX0 X) cbX0 (by decide) fl_X0_18 (in_main 3 (by decide)) (fun _ => rfl) (fun _ _ => rfl) (dtX0_allows_0 7 (34, .getfield 18, 3) rfl) ?_
      refine r_iload_n hk 1 (dtX0_allows_0 8 (37, .iload_n 1, 1) rfl) rfl ?_
      refine r_iald hk (in_main 7 (by decide)) (fun _ => rfl) hF (dtX0_allows_0 9 (38, .iaload, 1) rfl) (fun v5 hF => ?_)
      have j47_7 : ∀ (v6 : Int32), J_X0_allows_47 v6 = some rv → G X K 47 [] [.int v6] m0 := by
        intro v6 hF
        unfold J_X0_allows_47 at hF
        obtain ⟨hz, hF⟩ := ck_some hF
        cases Option.some.inj hF
        exact hR _ _ hz (dtX0_allows_0 14 (47, .ireturn, 1) rfl)
      refine r_icmp_ne hk 46 hF (dtX0_allows_0 10 (39, .if_icmp .ne 7, 3) rfl) (by decide) (fun hF => ?_) (fun hF => ?_)
      · refine r_iconst (v := 0) hk (dtX0_allows_0 13 (46, .iconst 0, 1) rfl) (by decide) ?_
        exact r_sub hk [] rfl (j47_7 0 hF)
      · refine r_iconst (v := 1) hk (dtX0_allows_0 11 (42, .iconst 1, 1) rfl) (by decide) ?_
        refine r_goto hk 47 (dtX0_allows_0 12 (43, .goto 4, 3) rfl) (by decide) ?_
        exact r_sub hk [] rfl (j47_7 1 hF)
    · rw [if_neg hs6_61] at hF
      refine r_lookup (off := 58) hk 64 (dtX0_allows_0 4 (6, .lookupswitch 58 #[(60, 42), (61, 26)], 26) rfl) (by decide) ((lv_osw hs6_60 (by decide)).trans ((lv_osw hs6_61 (by decide)).trans rfl)) (by decide) ?_
      refine r_iload_n hk 2 (dtX0_allows_0 25 (64, .iload_n 2, 1) rfl) rfl ?_
      refine r_aload_n hk 0 (dtX0_allows_0 26 (65, .aload_n 0, 1) rfl) rfl ?_
      refine r_getR hk (k := 2) (fsX0 X) cbX0 (by decide) fl_X0_18 (in_main 3 (by decide)) (fun _ => rfl) (fun _ _ => rfl) (dtX0_allows_0 27 (66, .getfield 18, 3) rfl) ?_
      refine r_iload_n hk 1 (dtX0_allows_0 28 (69, .iload_n 1, 1) rfl) rfl ?_
      refine r_iald hk (in_main 7 (by decide)) (fun _ => rfl) hF (dtX0_allows_0 29 (70, .iaload, 1) rfl) (fun v8 hF => ?_)
      have j79_10 : ∀ (v9 : Int32), J_X0_allows_79 v9 = some rv → G X K 79 [] [.int v9] m0 := by
        intro v9 hF
        unfold J_X0_allows_79 at hF
        obtain ⟨hz, hF⟩ := ck_some hF
        cases Option.some.inj hF
        exact hR _ _ hz (dtX0_allows_0 34 (79, .ireturn, 1) rfl)
      refine r_icmp_le hk 78 hF (dtX0_allows_0 30 (71, .if_icmp .le 7, 3) rfl) (by decide) (fun hF => ?_) (fun hF => ?_)
      · refine r_iconst (v := 0) hk (dtX0_allows_0 33 (78, .iconst 0, 1) rfl) (by decide) ?_
        exact r_sub hk [] rfl (j79_10 0 hF)
      · refine r_iconst (v := 1) hk (dtX0_allows_0 31 (74, .iconst 1, 1) rfl) (by decide) ?_
        refine r_goto hk 79 (dtX0_allows_0 32 (75, .goto 4, 3) rfl) (by decide) ?_
        exact r_sub hk [] rfl (j79_10 1 hF)
set_option maxHeartbeats 4000000 in
set_option maxRecDepth 100000 in
theorem c_X3_isAnswer (l : Launch) (hlf : l.stackTraces = false) (X : XW) (i2 : Nat) (hi2 : i2 < 7) (j2 : Nat) (hj2 : j2 < 3) (p1 : Int32) (m0 : Mem) (rv : Int32) (hF : F_X3_isAnswer i2 j2 p1 m0 = some rv) : MX X l yX3_isAnswer cX3_isAnswer 5 (some .boolean) 1 [.ref (xad X (0, 0, 0, 0)), .int p1, .ref (xad X (2, i2, j2, 0))] m0 (QI X rv m0) := by
  refine startZ hlf (by decide +kernel) rfl [(0, .ref (xad X (0, 0, 0, 0))), (1, .int p1), (2, .ref (xad X (2, i2, j2, 0)))] rfl (Nat.le_of_ble_eq_true rfl) (fun K hk hR => ?_)
  unfold F_X3_isAnswer at hF
  refine r_iconst (v := 0) hk (dtX3_isAnswer_0 0 (0, .iconst 0, 1) rfl) (by decide) ?_
  refine r_istore_n hk [(3, .int 0), (0, .ref (xad X (0, 0, 0, 0))), (1, .int p1), (2, .ref (xad X (2, i2, j2, 0)))] (dtX3_isAnswer_0 1 (1, .istore_n 3, 1) rfl) (by decide) rfl ?_
  have e64_1 : C_X3_isAnswer_64 = some rv → G X K 64 [] [] m0 := by
    intro hF
    unfold C_X3_isAnswer_64 at hF
    refine r_iconst (v := 1) hk (dtX3_isAnswer_0 32 (64, .iconst 1, 1) rfl) (by decide) ?_
    obtain ⟨hz, hF⟩ := ck_some hF
    cases Option.some.inj hF
    exact hR _ _ hz (dtX3_isAnswer_0 33 (65, .ireturn, 1) rfl)
  have l4 : ∀ (n4 : Nat) (v2 : Int32), L_X3_isAnswer_2 i2 j2 p1 m0 n4 v2 = some rv → G X K 2 [(0, .ref (xad X (0, 0, 0, 0))), (1, .int p1), (2, .ref (xad X (2, i2, j2, 0))), (3, .int v2)] [] m0 := by
    intro n4
    induction n4 with
    | zero => intro v2 hF; exact nomatch (show (none : Option Int32) = some rv from hF)
    | succ n4 ih4 =>
      intro v2 hF
      rw [L_X3_isAnswer_2] at hF
      refine r_iload_n hk 3 (dtX3_isAnswer_0 2 (2, .iload_n 3, 1) rfl) rfl ?_
      refine r_aload_n hk 0 (dtX3_isAnswer_0 3 (3, .aload_n 0, 1) rfl) rfl ?_
      refine r_getR hk (k := 2) (fsX3 X) cbX3 (by decide) fl_X3_22 (in_main 0 (by decide)) (fun _ => rfl) (fun _ _ => rfl) (dtX3_isAnswer_0 4 (4, .getfield 22, 3) rfl) ?_
      refine r_getI hk (k := 3) (fsX0 X) cbX0 (by decide) fl_X3_287 (in_main 3 (by decide)) (fun _ => rfl) (fun _ _ => rfl) hF (dtX3_isAnswer_0 5 (7, .getfield 287, 3) rfl) (fun v5 hF => ?_)
      refine r_icmp_ge hk 64 hF (dtX3_isAnswer_0 6 (10, .if_icmp .ge 54, 3) rfl) (by decide) (fun hF => ?_) (fun hF => ?_)
      · exact r_sub hk [] rfl (e64_1 hF)
      · refine r_aload_n hk 0 (dtX3_isAnswer_0 7 (13, .aload_n 0, 1) rfl) rfl ?_
        refine r_getS hk fl_X3_30 hF (dtX3_isAnswer_0 8 (14, .getfield 30, 3) rfl) (fun q6 hq6 hF => ?_)
        refine r_iload_n hk 1 (dtX3_isAnswer_0 9 (17, .iload_n 1, 1) rfl) rfl ?_
        refine r_aload_n hk 2 (dtX3_isAnswer_0 10 (18, .aload_n 2, 1) rfl) rfl ?_
        refine r_aload_n hk 0 (dtX3_isAnswer_0 11 (19, .aload_n 0, 1) rfl) rfl ?_
        refine r_getR hk (k := 2) (fsX3 X) cbX3 (by decide) fl_X3_22 (in_main 0 (by decide)) (fun _ => rfl) (fun _ _ => rfl) (dtX3_isAnswer_0 12 (20, .getfield 22, 3) rfl) ?_
        refine r_getR hk (k := 0) (fsX0 X) cbX0 (by decide) fl_X3_290 (in_main 3 (by decide)) (fun _ => rfl) (fun _ _ => rfl) (dtX3_isAnswer_0 13 (23, .getfield 290, 3) rfl) ?_
        refine r_iload_n hk 3 (dtX3_isAnswer_0 14 (26, .iload_n 3, 1) rfl) rfl ?_
        refine r_iald hk (in_main 5 (by decide)) (fun _ => rfl) hF (dtX3_isAnswer_0 15 (27, .iaload, 1) rfl) (fun v7 hF => ?_)
        refine r_callI hF (fun v8 h H locs ls hH hS hl => run_V (y := yX2_columnOf) hk (in_tn i2 hi2 j2 hj2 0 (by decide)) rfl rfl (c_X2_columnOf (kl K) hk.2.2.2.2.2.2.2.2.2.2.2 X i2 hi2 j2 hj2 v7 m0 v8 h) lk_X3_67 me_X2_columnOf yf_X2_columnOf (by decide) (by decide) rfl (Nat.le_of_ble_eq_true rfl) rfl (dtX3_isAnswer_0 16 (28, .invokevirtual 67, 3) rfl) hH hS hl) (fun v8 hF => ?_)
        refine r_callI hF (fun v9 h H locs ls hH hS hl => run_V (y := yX1_valueAt) hk (in_st q6 hq6 0 (by decide)) rfl rfl (c_X1_valueAt (kl K) hk.2.2.2.2.2.2.2.2.2.2.2 X q6 hq6 p1 v8 m0 v9 h) lk_X3_127 me_X1_valueAt yf_X1_valueAt (by decide) (by decide) rfl (Nat.le_of_ble_eq_true rfl) rfl (dtX3_isAnswer_0 17 (31, .invokevirtual 127, 3) rfl) hH hS hl) (fun v9 hF => ?_)
        refine r_istore hk [(4, .int v9), (0, .ref (xad X (0, 0, 0, 0))), (1, .int p1), (2, .ref (xad X (2, i2, j2, 0))), (3, .int v2)] (dtX3_isAnswer_0 18 (34, .istore 4, 2) rfl) (by decide) rfl ?_
        refine r_iload hk 0 (dtX3_isAnswer_0 19 (36, .iload 4, 2) rfl) rfl ?_
        refine r_ldc hk cn_X3_130 (dtX3_isAnswer_0 20 (38, .ldc 130, 2) rfl) ?_
        have j56_10 : J_X3_isAnswer_56 = some rv → G X K 56 [] [] m0 := by
          intro hF
          unfold J_X3_isAnswer_56 at hF
          refine r_iconst (v := 0) hk (dtX3_isAnswer_0 28 (56, .iconst 0, 1) rfl) (by decide) ?_
          obtain ⟨hz, hF⟩ := ck_some hF
          cases Option.some.inj hF
          exact hR _ _ hz (dtX3_isAnswer_0 29 (57, .ireturn, 1) rfl)
        refine r_icmp_eq hk 56 hF (dtX3_isAnswer_0 21 (40, .if_icmp .eq 16, 3) rfl) (by decide) (fun hF => ?_) (fun hF => ?_)
        · exact r_sub hk [] rfl (j56_10 hF)
        · refine r_aload_n hk 1 (dtX3_isAnswer_0 22 (43, .aload_n 0, 1) rfl) rfl ?_
          refine r_getR hk (k := 2) (fsX3 X) cbX3 (by decide) fl_X3_22 (in_main 0 (by decide)) (fun _ => rfl) (fun _ _ => rfl) (dtX3_isAnswer_0 23 (44, .getfield 22, 3) rfl) ?_
          refine r_iload_n hk 4 (dtX3_isAnswer_0 24 (47, .iload_n 3, 1) rfl) rfl ?_
          refine r_iload hk 0 (dtX3_isAnswer_0 25 (48, .iload 4, 2) rfl) rfl ?_
          refine r_callI hF (fun v11 h H locs ls hH hS hl => run_V (y := yX0_allows) hk (in_main 3 (by decide)) rfl rfl (c_X0_allows (kl K) hk.2.2.2.2.2.2.2.2.2.2.2 X  v2 v9 m0 v11 h) lk_X3_291 me_X0_allows yf_X0_allows (by decide) (by decide) rfl (Nat.le_of_ble_eq_true rfl) rfl (dtX3_isAnswer_0 26 (50, .invokevirtual 291, 3) rfl) hH hS hl) (fun v11 hF => ?_)
          refine r_if_ne hk 58 hF (dtX3_isAnswer_0 27 (53, .ifCond .ne 5, 3) rfl) (by decide) (fun hF => ?_) (fun hF => ?_)
          · refine r_iinc hk 1 4 (fun v12 => [(3, .int v12), (4, .int v9), (0, .ref (xad X (0, 0, 0, 0))), (1, .int p1), (2, .ref (xad X (2, i2, j2, 0)))]) hF (dtX3_isAnswer_0 30 (58, .iinc 3 1, 3) rfl) rfl (by decide) (by decide) (fun _ => rfl) (fun v12 hF => ?_)
            refine r_goto hk 2 (dtX3_isAnswer_0 31 (61, .goto (-59), 3) rfl) (by decide) ?_
            exact r_sub hk [2, 3, 4, 0] rfl (ih4 v12 hF)
          · exact r_sub hk [] rfl (j56_10 hF)
  exact r_sub hk [1, 2, 3, 0] rfl (l4 fu 0 hF)
set_option maxHeartbeats 4000000 in
set_option maxRecDepth 100000 in
theorem c_X3_collectAnswers (l : Launch) (hlf : l.stackTraces = false) (X : XW)  (p1 : Int32) (m0 : Mem) (rv : Int32) (mE : Mem) (hF : F_X3_collectAnswers p1 m0 = some (rv, mE)) : MX X l yX3_collectAnswers cX3_collectAnswers 4 (some .int) 2 [.ref (xad X (0, 0, 0, 0)), .int p1] m0 (QI X rv mE) := by
  refine startI hlf (by decide +kernel) rfl [(0, .ref (xad X (0, 0, 0, 0))), (1, .int p1)] rfl (Nat.le_of_ble_eq_true rfl) (fun K hk hR => ?_)
  unfold F_X3_collectAnswers at hF
  refine r_iconst (v := 0) hk (dtX3_collectAnswers_0 0 (0, .iconst 0, 1) rfl) (by decide) ?_
  refine r_istore_n hk [(2, .int 0), (0, .ref (xad X (0, 0, 0, 0))), (1, .int p1)] (dtX3_collectAnswers_0 1 (1, .istore_n 2, 1) rfl) (by decide) rfl ?_
  refine r_iconst (v := 0) hk (dtX3_collectAnswers_0 2 (2, .iconst 0, 1) rfl) (by decide) ?_
  refine r_istore_n hk [(3, .int 0), (2, .int 0), (0, .ref (xad X (0, 0, 0, 0))), (1, .int p1)] (dtX3_collectAnswers_0 3 (3, .istore_n 3, 1) rfl) (by decide) rfl ?_
  have e67_3 : ∀ (v1 : Int32) (m2 : Mem), C_X3_collectAnswers_67 v1 m2 = some (rv, mE) → G X K 67 [(2, .int v1)] [] m2 := by
    intro v1 m2 hF
    unfold C_X3_collectAnswers_67 at hF
    refine r_iload_n hk 0 (dtX3_collectAnswers_0 36 (67, .iload_n 2, 1) rfl) rfl ?_
    cases Option.some.inj hF
    exact hR _ _ (dtX3_collectAnswers_0 37 (68, .ireturn, 1) rfl)
  have l8 : ∀ (n8 : Nat) (v4 : Int32) (v5 : Int32) (m6 : Mem), L_X3_collectAnswers_4 p1 n8 v4 v5 m6 = some (rv, mE) → G X K 4 [(0, .ref (xad X (0, 0, 0, 0))), (1, .int p1), (2, .int v4), (3, .int v5)] [] m6 := by
    intro n8
    induction n8 with
    | zero => intro v4 v5 m6 hF; exact nomatch (show (none : Option (Int32 × Mem)) = some (rv, mE) from hF)
    | succ n8 ih8 =>
      intro v4 v5 m6 hF
      rw [L_X3_collectAnswers_4] at hF
      refine r_iload_n hk 3 (dtX3_collectAnswers_0 4 (4, .iload_n 3, 1) rfl) rfl ?_
      refine r_aload_n hk 0 (dtX3_collectAnswers_0 5 (5, .aload_n 0, 1) rfl) rfl ?_
      refine r_getS hk fl_X3_30 hF (dtX3_collectAnswers_0 6 (6, .getfield 30, 3) rfl) (fun q9 hq9 hF => ?_)
      refine r_getI hk (k := 3) (fsX1 X q9) cbX1 (by decide) fl_X3_204 (in_st q9 hq9 0 (by decide)) (fun _ => rfl) (fun _ _ => rfl) hF (dtX3_collectAnswers_0 7 (9, .getfield 204, 3) rfl) (fun v10 hF => ?_)
      refine r_icmp_ge hk 67 hF (dtX3_collectAnswers_0 8 (12, .if_icmp .ge 55, 3) rfl) (by decide) (fun hF => ?_) (fun hF => ?_)
      · exact r_sub hk [2] rfl (e67_3 v4 m6 hF)
      · refine r_iload_n hk 3 (dtX3_collectAnswers_0 9 (15, .iload_n 3, 1) rfl) rfl ?_
        refine r_bipush (v := 120) hk (dtX3_collectAnswers_0 10 (16, .bipush 120, 2) rfl) (by decide) ?_
        refine r_icmp_ge hk 67 hF (dtX3_collectAnswers_0 11 (18, .if_icmp .ge 49, 3) rfl) (by decide) (fun hF => ?_) (fun hF => ?_)
        · exact r_sub hk [2] rfl (e67_3 v4 m6 hF)
        · refine r_aload_n hk 0 (dtX3_collectAnswers_0 12 (21, .aload_n 0, 1) rfl) rfl ?_
          refine r_getS hk fl_X3_30 hF (dtX3_collectAnswers_0 13 (22, .getfield 30, 3) rfl) (fun q11 hq11 hF => ?_)
          refine r_getR hk (k := 1) (fsX1 X q11) cbX1 (by decide) fl_X3_134 (in_st q11 hq11 0 (by decide)) (fun _ => rfl) (fun _ _ => rfl) (dtX3_collectAnswers_0 14 (25, .getfield 134, 3) rfl) ?_
          refine r_iload_n hk 3 (dtX3_collectAnswers_0 15 (28, .iload_n 3, 1) rfl) rfl ?_
          refine r_iald hk (in_st q11 hq11 2 (by decide)) (fun _ => rfl) hF (dtX3_collectAnswers_0 16 (29, .iaload, 1) rfl) (fun v12 hF => ?_)
          refine r_iload_n hk 1 (dtX3_collectAnswers_0 17 (30, .iload_n 1, 1) rfl) rfl ?_
          have j61_15 : ∀ (v13 : Int32) (m14 : Mem), (J_X3_collectAnswers_61 v5 (fun w0 w1 w2 => L_X3_collectAnswers_4 p1 n8 w0 w1 w2)) v13 m14 = some (rv, mE) → G X K 61 [(0, .ref (xad X (0, 0, 0, 0))), (1, .int p1), (2, .int v13), (3, .int v5)] [] m14 := by
            intro v13 m14 hF
            unfold J_X3_collectAnswers_61 at hF
            refine r_iinc hk 1 3 (fun v16 => [(3, .int v16), (0, .ref (xad X (0, 0, 0, 0))), (1, .int p1), (2, .int v13)]) hF (dtX3_collectAnswers_0 34 (61, .iinc 3 1, 3) rfl) rfl (by decide) (by decide) (fun _ => rfl) (fun v16 hF => ?_)
            refine r_goto hk 4 (dtX3_collectAnswers_0 35 (64, .goto (-60), 3) rfl) (by decide) ?_
            exact r_sub hk [1, 2, 3, 0] rfl (ih8 v13 v16 m14 hF)
          refine r_icmp_ne hk 61 hF (dtX3_collectAnswers_0 18 (31, .if_icmp .ne 30, 3) rfl) (by decide) (fun hF => ?_) (fun hF => ?_)
          · exact r_sub hk [0, 1, 2, 3] rfl (j61_15 v4 m6 hF)
          · refine r_aload_n hk 0 (dtX3_collectAnswers_0 19 (34, .aload_n 0, 1) rfl) rfl ?_
            refine r_iload_n hk 3 (dtX3_collectAnswers_0 20 (35, .iload_n 3, 1) rfl) rfl ?_
            refine r_aload_n hk 0 (dtX3_collectAnswers_0 21 (36, .aload_n 0, 1) rfl) rfl ?_
            refine r_getS hk fl_X3_30 hF (dtX3_collectAnswers_0 22 (37, .getfield 30, 3) rfl) (fun q17 hq17 hF => ?_)
            refine r_getR hk (k := 0) (fsX1 X q17) cbX1 (by decide) fl_X3_49 (in_st q17 hq17 0 (by decide)) (fun _ => rfl) (fun _ _ => rfl) (dtX3_collectAnswers_0 23 (40, .getfield 49, 3) rfl) ?_
            refine r_iload_n hk 1 (dtX3_collectAnswers_0 24 (43, .iload_n 1, 1) rfl) rfl ?_
            refine r_aldT hk hq17 hF (dtX3_collectAnswers_0 25 (44, .aaload, 1) rfl) (fun q18 hq18 hF => ?_)
            refine r_callI hF (fun v19 h H locs ls hH hS hl => run_V (y := yX3_isAnswer) hk (in_main 0 (by decide)) rfl rfl (c_X3_isAnswer (kl K) hk.2.2.2.2.2.2.2.2.2.2.2 X q17 hq17 q18 hq18 v5 m6 v19 h) lk_X3_283 me_X3_isAnswer yf_X3_isAnswer (by decide) (by decide) rfl (Nat.le_of_ble_eq_true rfl) rfl (dtX3_collectAnswers_0 26 (45, .invokevirtual 283, 3) rfl) hH hS hl) (fun v19 hF => ?_)
            refine r_if_eq hk 61 hF (dtX3_collectAnswers_0 27 (48, .ifCond .eq 13, 3) rfl) (by decide) (fun hF => ?_) (fun hF => ?_)
            · exact r_sub hk [0, 1, 2, 3] rfl (j61_15 v4 m6 hF)
            · refine r_aload_n hk 0 (dtX3_collectAnswers_0 28 (51, .aload_n 0, 1) rfl) rfl ?_
              refine r_getR hk (k := 3) (fsX3 X) cbX3 (by decide) fl_X3_26 (in_main 0 (by decide)) (fun _ => rfl) (fun _ _ => rfl) (dtX3_collectAnswers_0 29 (52, .getfield 26, 3) rfl) ?_
              refine r_iload_n hk 2 (dtX3_collectAnswers_0 30 (55, .iload_n 2, 1) rfl) rfl ?_
              refine r_iload_n hk 3 (dtX3_collectAnswers_0 31 (56, .iload_n 3, 1) rfl) rfl ?_
              refine r_iast hk (in_main 4 (by decide)) (fun _ => rfl) hF (dtX3_collectAnswers_0 32 (57, .iastore, 1) rfl) (fun m20 hF => ?_)
              refine r_iinc hk 1 2 (fun v21 => [(2, .int v21), (0, .ref (xad X (0, 0, 0, 0))), (1, .int p1), (3, .int v5)]) hF (dtX3_collectAnswers_0 33 (58, .iinc 2 1, 3) rfl) rfl (by decide) (by decide) (fun _ => rfl) (fun v21 hF => ?_)
              exact r_sub hk [1, 2, 0, 3] rfl (j61_15 v21 m20 hF)
  exact r_sub hk [2, 3, 1, 0] rfl (l8 fu 0 0 m0 hF)
set_option maxHeartbeats 4000000 in
set_option maxRecDepth 100000 in
theorem c_X3_comesBefore (l : Launch) (hlf : l.stackTraces = false) (X : XW)  (p1 : Int32) (p2 : Int32) (p3 : Int32) (m0 : Mem) (rv : Int32) (hF : F_X3_comesBefore p1 p2 p3 m0 = some rv) : MX X l yX3_comesBefore cX3_comesBefore 6 (some .boolean) 1 [.ref (xad X (0, 0, 0, 0)), .int p1, .int p2, .int p3] m0 (QI X rv m0) := by
  refine startZ hlf (by decide +kernel) rfl [(0, .ref (xad X (0, 0, 0, 0))), (1, .int p1), (2, .int p2), (3, .int p3)] rfl (Nat.le_of_ble_eq_true rfl) (fun K hk hR => ?_)
  unfold F_X3_comesBefore at hF
  refine r_aload_n hk 0 (dtX3_comesBefore_0 0 (0, .aload_n 0, 1) rfl) rfl ?_
  refine r_getS hk fl_X3_30 hF (dtX3_comesBefore_0 1 (1, .getfield 30, 3) rfl) (fun q1 hq1 hF => ?_)
  refine r_iload_n hk 1 (dtX3_comesBefore_0 2 (4, .iload_n 1, 1) rfl) rfl ?_
  refine r_iload_n hk 3 (dtX3_comesBefore_0 3 (5, .iload_n 3, 1) rfl) rfl ?_
  refine r_callI hF (fun v2 h H locs ls hH hS hl => run_V (y := yX1_valueAt) hk (in_st q1 hq1 0 (by decide)) rfl rfl (c_X1_valueAt (kl K) hk.2.2.2.2.2.2.2.2.2.2.2 X q1 hq1 p1 p3 m0 v2 h) lk_X3_127 me_X1_valueAt yf_X1_valueAt (by decide) (by decide) rfl (Nat.le_of_ble_eq_true rfl) rfl (dtX3_comesBefore_0 4 (6, .invokevirtual 127, 3) rfl) hH hS hl) (fun v2 hF => ?_)
  refine r_istore hk [(4, .int v2), (0, .ref (xad X (0, 0, 0, 0))), (1, .int p1), (2, .int p2), (3, .int p3)] (dtX3_comesBefore_0 5 (9, .istore 4, 2) rfl) (by decide) rfl ?_
  refine r_aload_n hk 1 (dtX3_comesBefore_0 6 (11, .aload_n 0, 1) rfl) rfl ?_
  refine r_getS hk fl_X3_30 hF (dtX3_comesBefore_0 7 (12, .getfield 30, 3) rfl) (fun q3 hq3 hF => ?_)
  refine r_iload_n hk 3 (dtX3_comesBefore_0 8 (15, .iload_n 2, 1) rfl) rfl ?_
  refine r_iload_n hk 4 (dtX3_comesBefore_0 9 (16, .iload_n 3, 1) rfl) rfl ?_
  refine r_callI hF (fun v4 h H locs ls hH hS hl => run_V (y := yX1_valueAt) hk (in_st q3 hq3 0 (by decide)) rfl rfl (c_X1_valueAt (kl K) hk.2.2.2.2.2.2.2.2.2.2.2 X q3 hq3 p2 p3 m0 v4 h) lk_X3_127 me_X1_valueAt yf_X1_valueAt (by decide) (by decide) rfl (Nat.le_of_ble_eq_true rfl) rfl (dtX3_comesBefore_0 10 (17, .invokevirtual 127, 3) rfl) hH hS hl) (fun v4 hF => ?_)
  refine r_istore hk [(5, .int v4), (4, .int v2), (0, .ref (xad X (0, 0, 0, 0))), (1, .int p1), (2, .int p2), (3, .int p3)] (dtX3_comesBefore_0 11 (20, .istore 5, 2) rfl) (by decide) rfl ?_
  refine r_iload hk 1 (dtX3_comesBefore_0 12 (22, .iload 4, 2) rfl) rfl ?_
  refine r_ldc hk cn_X3_130 (dtX3_comesBefore_0 13 (24, .ldc 130, 2) rfl) ?_
  refine r_icmp_ne hk 31 hF (dtX3_comesBefore_0 14 (26, .if_icmp .ne 5, 3) rfl) (by decide) (fun hF => ?_) (fun hF => ?_)
  · refine r_iload hk 0 (dtX3_comesBefore_0 17 (31, .iload 5, 2) rfl) rfl ?_
    refine r_ldc hk cn_X3_130 (dtX3_comesBefore_0 18 (33, .ldc 130, 2) rfl) ?_
    have j50_6 : ∀ (v5 : Int32), J_X3_comesBefore_50 v5 = some rv → G X K 50 [] [.int v5] m0 := by
      intro v5 hF
      unfold J_X3_comesBefore_50 at hF
      obtain ⟨hz, hF⟩ := ck_some hF
      cases Option.some.inj hF
      exact hR _ _ hz (dtX3_comesBefore_0 26 (50, .ireturn, 1) rfl)
    have j45_7 : J_X3_comesBefore_45 = some rv → G X K 45 [] [] m0 := by
      intro hF
      unfold J_X3_comesBefore_45 at hF
      refine r_iconst (v := 1) hk (dtX3_comesBefore_0 23 (45, .iconst 1, 1) rfl) (by decide) ?_
      refine r_goto hk 50 (dtX3_comesBefore_0 24 (46, .goto 4, 3) rfl) (by decide) ?_
      exact r_sub hk [] rfl (j50_6 1 hF)
    refine r_icmp_eq hk 45 hF (dtX3_comesBefore_0 19 (35, .if_icmp .eq 10, 3) rfl) (by decide) (fun hF => ?_) (fun hF => ?_)
    · exact r_sub hk [] rfl (j45_7 hF)
    · refine r_iload hk 1 (dtX3_comesBefore_0 20 (38, .iload 4, 2) rfl) rfl ?_
      refine r_iload hk 0 (dtX3_comesBefore_0 21 (40, .iload 5, 2) rfl) rfl ?_
      refine r_icmp_ge hk 49 hF (dtX3_comesBefore_0 22 (42, .if_icmp .ge 7, 3) rfl) (by decide) (fun hF => ?_) (fun hF => ?_)
      · refine r_iconst (v := 0) hk (dtX3_comesBefore_0 25 (49, .iconst 0, 1) rfl) (by decide) ?_
        exact r_sub hk [] rfl (j50_6 0 hF)
      · exact r_sub hk [] rfl (j45_7 hF)
  · refine r_iconst (v := 0) hk (dtX3_comesBefore_0 15 (29, .iconst 0, 1) rfl) (by decide) ?_
    obtain ⟨hz, hF⟩ := ck_some hF
    cases Option.some.inj hF
    exact hR _ _ hz (dtX3_comesBefore_0 16 (30, .ireturn, 1) rfl)
set_option maxHeartbeats 4000000 in
set_option maxRecDepth 100000 in
theorem c_X3_sortAnswers (l : Launch) (hlf : l.stackTraces = false) (X : XW)  (p1 : Int32) (p2 : Int32) (m0 : Mem) (rv : Unit) (mE : Mem) (hF : F_X3_sortAnswers p1 p2 m0 = some (rv, mE)) : MX X l yX3_sortAnswers cX3_sortAnswers 6 none 2 [.ref (xad X (0, 0, 0, 0)), .int p1, .int p2] m0 (QV X mE) := by
  refine startV hlf (by decide +kernel) rfl [(0, .ref (xad X (0, 0, 0, 0))), (1, .int p1), (2, .int p2)] rfl (Nat.le_of_ble_eq_true rfl) (fun K hk hR => ?_)
  unfold F_X3_sortAnswers at hF
  refine r_iconst (v := 1) hk (dtX3_sortAnswers_0 0 (0, .iconst 1, 1) rfl) (by decide) ?_
  refine r_istore_n hk [(3, .int 1), (0, .ref (xad X (0, 0, 0, 0))), (1, .int p1), (2, .int p2)] (dtX3_sortAnswers_0 1 (1, .istore_n 3, 1) rfl) (by decide) rfl ?_
  have e79_2 : ∀ (m1 : Mem), C_X3_sortAnswers_79 m1 = some (rv, mE) → G X K 79 [] [] m1 := by
    intro m1 hF
    unfold C_X3_sortAnswers_79 at hF
    cases Option.some.inj hF
    exact hR _ _ (dtX3_sortAnswers_0 44 (79, .return_, 1) rfl)
  have l6 : ∀ (n6 : Nat) (v3 : Int32) (m4 : Mem), L_X3_sortAnswers_2 p1 p2 n6 v3 m4 = some (rv, mE) → G X K 2 [(0, .ref (xad X (0, 0, 0, 0))), (1, .int p1), (2, .int p2), (3, .int v3)] [] m4 := by
    intro n6
    induction n6 with
    | zero => intro v3 m4 hF; exact nomatch (show (none : Option (Unit × Mem)) = some (rv, mE) from hF)
    | succ n6 ih6 =>
      intro v3 m4 hF
      rw [L_X3_sortAnswers_2] at hF
      refine r_iload_n hk 3 (dtX3_sortAnswers_0 2 (2, .iload_n 3, 1) rfl) rfl ?_
      refine r_iload_n hk 1 (dtX3_sortAnswers_0 3 (3, .iload_n 1, 1) rfl) rfl ?_
      refine r_icmp_ge hk 79 hF (dtX3_sortAnswers_0 4 (4, .if_icmp .ge 75, 3) rfl) (by decide) (fun hF => ?_) (fun hF => ?_)
      · exact r_sub hk [] rfl (e79_2 m4 hF)
      · refine r_aload_n hk 0 (dtX3_sortAnswers_0 5 (7, .aload_n 0, 1) rfl) rfl ?_
        refine r_getR hk (k := 3) (fsX3 X) cbX3 (by decide) fl_X3_26 (in_main 0 (by decide)) (fun _ => rfl) (fun _ _ => rfl) (dtX3_sortAnswers_0 6 (8, .getfield 26, 3) rfl) ?_
        refine r_iload_n hk 3 (dtX3_sortAnswers_0 7 (11, .iload_n 3, 1) rfl) rfl ?_
        refine r_iald hk (in_main 4 (by decide)) (fun _ => rfl) hF (dtX3_sortAnswers_0 8 (12, .iaload, 1) rfl) (fun v7 hF => ?_)
        refine r_istore hk [(4, .int v7), (0, .ref (xad X (0, 0, 0, 0))), (1, .int p1), (2, .int p2), (3, .int v3)] (dtX3_sortAnswers_0 9 (13, .istore 4, 2) rfl) (by decide) rfl ?_
        refine r_iload_n hk 4 (dtX3_sortAnswers_0 10 (15, .iload_n 3, 1) rfl) rfl ?_
        refine r_istore hk [(5, .int v3), (4, .int v7), (0, .ref (xad X (0, 0, 0, 0))), (1, .int p1), (2, .int p2), (3, .int v3)] (dtX3_sortAnswers_0 11 (16, .istore 5, 2) rfl) (by decide) rfl ?_
        have e64_10 : ∀ (v8 : Int32) (m9 : Mem), (C_X3_sortAnswers_64 v3 (fun w0 w1 => L_X3_sortAnswers_2 p1 p2 n6 w0 w1) v7) v8 m9 = some (rv, mE) → G X K 64 [(0, .ref (xad X (0, 0, 0, 0))), (1, .int p1), (2, .int p2), (3, .int v3), (4, .int v7), (5, .int v8)] [] m9 := by
          intro v8 m9 hF
          unfold C_X3_sortAnswers_64 at hF
          refine r_aload_n hk 0 (dtX3_sortAnswers_0 37 (64, .aload_n 0, 1) rfl) rfl ?_
          refine r_getR hk (k := 3) (fsX3 X) cbX3 (by decide) fl_X3_26 (in_main 0 (by decide)) (fun _ => rfl) (fun _ _ => rfl) (dtX3_sortAnswers_0 38 (65, .getfield 26, 3) rfl) ?_
          refine r_iload hk 5 (dtX3_sortAnswers_0 39 (68, .iload 5, 2) rfl) rfl ?_
          refine r_iload hk 4 (dtX3_sortAnswers_0 40 (70, .iload 4, 2) rfl) rfl ?_
          refine r_iast hk (in_main 4 (by decide)) (fun _ => rfl) hF (dtX3_sortAnswers_0 41 (72, .iastore, 1) rfl) (fun m11 hF => ?_)
          refine r_iinc hk 1 3 (fun v12 => [(3, .int v12), (0, .ref (xad X (0, 0, 0, 0))), (1, .int p1), (2, .int p2), (4, .int v7), (5, .int v8)]) hF (dtX3_sortAnswers_0 42 (73, .iinc 3 1, 3) rfl) rfl (by decide) (by decide) (fun _ => rfl) (fun v12 hF => ?_)
          refine r_goto hk 2 (dtX3_sortAnswers_0 43 (76, .goto (-74), 3) rfl) (by decide) ?_
          exact r_sub hk [1, 2, 3, 0] rfl (ih6 v12 m11 hF)
        have l16 : ∀ (n16 : Nat) (v13 : Int32) (m14 : Mem), L_X3_sortAnswers_18 p2 v3 (fun w0 w1 => L_X3_sortAnswers_2 p1 p2 n6 w0 w1) v7 n16 v13 m14 = some (rv, mE) → G X K 18 [(0, .ref (xad X (0, 0, 0, 0))), (1, .int p1), (2, .int p2), (3, .int v3), (4, .int v7), (5, .int v13)] [] m14 := by
          intro n16
          induction n16 with
          | zero => intro v13 m14 hF; exact nomatch (show (none : Option (Unit × Mem)) = some (rv, mE) from hF)
          | succ n16 ih16 =>
            intro v13 m14 hF
            rw [L_X3_sortAnswers_18] at hF
            refine r_iload hk 5 (dtX3_sortAnswers_0 12 (18, .iload 5, 2) rfl) rfl ?_
            refine r_if_le hk 64 hF (dtX3_sortAnswers_0 13 (20, .ifCond .le 44, 3) rfl) (by decide) (fun hF => ?_) (fun hF => ?_)
            · exact r_sub hk [0, 1, 2, 3, 4, 5] rfl (e64_10 v13 m14 hF)
            · refine r_aload_n hk 0 (dtX3_sortAnswers_0 14 (23, .aload_n 0, 1) rfl) rfl ?_
              refine r_iload hk 4 (dtX3_sortAnswers_0 15 (24, .iload 4, 2) rfl) rfl ?_
              refine r_aload_n hk 0 (dtX3_sortAnswers_0 16 (26, .aload_n 0, 1) rfl) rfl ?_
              refine r_getR hk (k := 3) (fsX3 X) cbX3 (by decide) fl_X3_26 (in_main 0 (by decide)) (fun _ => rfl) (fun _ _ => rfl) (dtX3_sortAnswers_0 17 (27, .getfield 26, 3) rfl) ?_
              refine r_iload hk 5 (dtX3_sortAnswers_0 18 (30, .iload 5, 2) rfl) rfl ?_
              refine r_iconst (v := 1) hk (dtX3_sortAnswers_0 19 (32, .iconst 1, 1) rfl) (by decide) ?_
              refine r_isub hk hF (dtX3_sortAnswers_0 20 (33, .isub, 1) rfl) (fun v17 hF => ?_)
              refine r_iald hk (in_main 4 (by decide)) (fun _ => rfl) hF (dtX3_sortAnswers_0 21 (34, .iaload, 1) rfl) (fun v18 hF => ?_)
              refine r_iload_n hk 2 (dtX3_sortAnswers_0 22 (35, .iload_n 2, 1) rfl) rfl ?_
              refine r_callI hF (fun v19 h H locs ls hH hS hl => run_V (y := yX3_comesBefore) hk (in_main 0 (by decide)) rfl rfl (c_X3_comesBefore (kl K) hk.2.2.2.2.2.2.2.2.2.2.2 X  v7 v18 p2 m14 v19 h) lk_X3_294 me_X3_comesBefore yf_X3_comesBefore (by decide) (by decide) rfl (Nat.le_of_ble_eq_true rfl) rfl (dtX3_sortAnswers_0 23 (36, .invokevirtual 294, 3) rfl) hH hS hl) (fun v19 hF => ?_)
              refine r_if_eq hk 64 hF (dtX3_sortAnswers_0 24 (39, .ifCond .eq 25, 3) rfl) (by decide) (fun hF => ?_) (fun hF => ?_)
              · exact r_sub hk [0, 1, 2, 3, 4, 5] rfl (e64_10 v13 m14 hF)
              · refine r_aload_n hk 0 (dtX3_sortAnswers_0 25 (42, .aload_n 0, 1) rfl) rfl ?_
                refine r_getR hk (k := 3) (fsX3 X) cbX3 (by decide) fl_X3_26 (in_main 0 (by decide)) (fun _ => rfl) (fun _ _ => rfl) (dtX3_sortAnswers_0 26 (43, .getfield 26, 3) rfl) ?_
                refine r_iload hk 5 (dtX3_sortAnswers_0 27 (46, .iload 5, 2) rfl) rfl ?_
                refine r_aload_n hk 0 (dtX3_sortAnswers_0 28 (48, .aload_n 0, 1) rfl) rfl ?_
                refine r_getR hk (k := 3) (fsX3 X) cbX3 (by decide) fl_X3_26 (in_main 0 (by decide)) (fun _ => rfl) (fun _ _ => rfl) (dtX3_sortAnswers_0 29 (49, .getfield 26, 3) rfl) ?_
                refine r_iload hk 5 (dtX3_sortAnswers_0 30 (52, .iload 5, 2) rfl) rfl ?_
                refine r_iconst (v := 1) hk (dtX3_sortAnswers_0 31 (54, .iconst 1, 1) rfl) (by decide) ?_
                refine r_isub hk hF (dtX3_sortAnswers_0 32 (55, .isub, 1) rfl) (fun v20 hF => ?_)
                refine r_iald hk (in_main 4 (by decide)) (fun _ => rfl) hF (dtX3_sortAnswers_0 33 (56, .iaload, 1) rfl) (fun v21 hF => ?_)
                refine r_iast hk (in_main 4 (by decide)) (fun _ => rfl) hF (dtX3_sortAnswers_0 34 (57, .iastore, 1) rfl) (fun m22 hF => ?_)
                refine r_iinc hk (-1) 5 (fun v23 => [(5, .int v23), (0, .ref (xad X (0, 0, 0, 0))), (1, .int p1), (2, .int p2), (3, .int v3), (4, .int v7)]) hF (dtX3_sortAnswers_0 35 (58, .iinc 5 (-1), 3) rfl) rfl (by decide) (by decide) (fun _ => rfl) (fun v23 hF => ?_)
                refine r_goto hk 18 (dtX3_sortAnswers_0 36 (61, .goto (-43), 3) rfl) (by decide) ?_
                exact r_sub hk [1, 2, 3, 4, 5, 0] rfl (ih16 v23 m22 hF)
        exact r_sub hk [2, 3, 4, 5, 1, 0] rfl (l16 fu v3 m4 hF)
  exact r_sub hk [1, 2, 3, 0] rfl (l6 fu 1 m0 hF)
set_option maxHeartbeats 4000000 in
set_option maxRecDepth 100000 in
theorem c_X3_answerAt (l : Launch) (hlf : l.stackTraces = false) (X : XW)  (p1 : Int32) (p2 : Int32) (m0 : Mem) (rv : Int32) (hF : F_X3_answerAt p1 p2 m0 = some rv) : MX X l yX3_answerAt cX3_answerAt 3 (some .int) 0 [.ref (xad X (0, 0, 0, 0)), .int p1, .int p2] m0 (QI X rv m0) := by
  refine startI hlf (by decide +kernel) rfl [(0, .ref (xad X (0, 0, 0, 0))), (1, .int p1), (2, .int p2)] rfl (Nat.le_of_ble_eq_true rfl) (fun K hk hR => ?_)
  unfold F_X3_answerAt at hF
  refine r_iload_n hk 1 (dtX3_answerAt_0 0 (0, .iload_n 1, 1) rfl) rfl ?_
  have j25_2 : ∀ (v1 : Int32), J_X3_answerAt_25 v1 = some rv → G X K 25 [] [.int v1] m0 := by
    intro v1 hF
    unfold J_X3_answerAt_25 at hF
    cases Option.some.inj hF
    exact hR _ _ (dtX3_answerAt_0 14 (25, .ireturn, 1) rfl)
  have j24_3 : J_X3_answerAt_24 = some rv → G X K 24 [] [] m0 := by
    intro hF
    unfold J_X3_answerAt_24 at hF
    refine r_iconst (v := (-1)) hk (dtX3_answerAt_0 13 (24, .iconst (-1), 1) rfl) (by decide) ?_
    exact r_sub hk [] rfl (j25_2 (-1) hF)
  refine r_if_lt hk 24 hF (dtX3_answerAt_0 1 (1, .ifCond .lt 23, 3) rfl) (by decide) (fun hF => ?_) (fun hF => ?_)
  · exact r_sub hk [] rfl (j24_3 hF)
  · refine r_iload_n hk 1 (dtX3_answerAt_0 2 (4, .iload_n 1, 1) rfl) rfl ?_
    refine r_iload_n hk 2 (dtX3_answerAt_0 3 (5, .iload_n 2, 1) rfl) rfl ?_
    refine r_icmp_ge hk 24 hF (dtX3_answerAt_0 4 (6, .if_icmp .ge 18, 3) rfl) (by decide) (fun hF => ?_) (fun hF => ?_)
    · exact r_sub hk [] rfl (j24_3 hF)
    · refine r_iload_n hk 1 (dtX3_answerAt_0 5 (9, .iload_n 1, 1) rfl) rfl ?_
      refine r_bipush (v := 120) hk (dtX3_answerAt_0 6 (10, .bipush 120, 2) rfl) (by decide) ?_
      refine r_icmp_ge hk 24 hF (dtX3_answerAt_0 7 (12, .if_icmp .ge 12, 3) rfl) (by decide) (fun hF => ?_) (fun hF => ?_)
      · exact r_sub hk [] rfl (j24_3 hF)
      · refine r_aload_n hk 0 (dtX3_answerAt_0 8 (15, .aload_n 0, 1) rfl) rfl ?_
        refine r_getR hk (k := 3) (fsX3 X) cbX3 (by decide) fl_X3_26 (in_main 0 (by decide)) (fun _ => rfl) (fun _ _ => rfl) (dtX3_answerAt_0 9 (16, .getfield 26, 3) rfl) ?_
        refine r_iload_n hk 1 (dtX3_answerAt_0 10 (19, .iload_n 1, 1) rfl) rfl ?_
        refine r_iald hk (in_main 4 (by decide)) (fun _ => rfl) hF (dtX3_answerAt_0 11 (20, .iaload, 1) rfl) (fun v4 hF => ?_)
        refine r_goto hk 25 (dtX3_answerAt_0 12 (21, .goto 4, 3) rfl) (by decide) ?_
        exact r_sub hk [] rfl (j25_2 v4 hF)
set_option maxHeartbeats 4000000 in
set_option maxRecDepth 100000 in
theorem c_X3_answer (l : Launch) (hlf : l.stackTraces = false) (X : XW)  (p1 : Int32) (p2 : Int32) (p3 : Int32) (m0 : Mem) (rv : Int32 ⊕ Nat) (mE : Mem) (hF : F_X3_answer p1 p2 p3 m0 = some (rv, mE)) : MT X l yX3_answer cX3_answer 5 (some .int) 8 [.ref (xad X (0, 0, 0, 0)), .int p1, .int p2, .int p3] m0 rv mE (QTI X rv mE) := by
  refine startTI hlf (by decide +kernel) rfl [(0, .ref (xad X (0, 0, 0, 0))), (1, .int p1), (2, .int p2), (3, .int p3)] rfl (Nat.le_of_ble_eq_true rfl) (fun K hk hR hX => ?_)
  unfold F_X3_answer at hF
  refine r_iload_n hk 1 (dtX3_answer_0 0 (0, .iload_n 1, 1) rfl) rfl ?_
  refine r_callI hF (fun v1 h H locs ls hH hS hl => run_S hk (c_X3_isTenant (kl K) hk.2.2.2.2.2.2.2.2.2.2.2 X  p1 m0 v1 h) lk_X3_34 me_X3_isTenant yf_X3_isTenant (by decide) (by decide) rfl (Nat.le_of_ble_eq_true rfl) rfl (dtX3_answer_0 1 (1, .invokestatic 34, 3) rfl) hH hS hl) (fun v1 hF => ?_)
  have j28_3 : ∀ (v2 : Int32), (J_X3_answer_28 p1 p2 p3 m0) v2 = some (rv, mE) → G X K 28 [(0, .ref (xad X (0, 0, 0, 0))), (1, .int p1), (2, .int p2), (3, .int p3)] [.int v2] m0 := by
    intro v2 hF
    unfold J_X3_answer_28 at hF
    refine r_callVts hk hF (fun c h => by cases Option.some.inj h; exact hX c rfl) (fun R h hf H locs ls hH hS hl => runT_S hk (c_X3_require (kl K) hk.2.2.2.2.2.2.2.2.2.2.2 X  v2 m0 R h) lk_X3_41 me_X3_require yf_X3_require (by decide) (by decide) rfl (Nat.le_of_ble_eq_true rfl) rfl (dtX3_answer_0 14 (28, .invokestatic 41, 3) rfl) hf hH hS hl) (fun _ hF => ?_)
    refine r_aload_n hk 0 (dtX3_answer_0 15 (31, .aload_n 0, 1) rfl) rfl ?_
    refine r_callIm hF (fun v4 m5 h H locs ls hH hS hl => run_V (y := yX3_readQuestion) hk (in_main 0 (by decide)) rfl rfl (c_X3_readQuestion (kl K) hk.2.2.2.2.2.2.2.2.2.2.2 X   m0 v4 m5 h) lk_X3_159 me_X3_readQuestion yf_X3_readQuestion (by decide) (by decide) rfl (Nat.le_of_ble_eq_true rfl) rfl (dtX3_answer_0 16 (32, .invokevirtual 159, 3) rfl) hH hS hl) (fun v4 m5 hF => ?_)
    refine r_if_ne hk 40 hF (dtX3_answer_0 17 (35, .ifCond .ne 5, 3) rfl) (by decide) (fun hF => ?_) (fun hF => ?_)
    · refine r_aload_n hk 0 (dtX3_answer_0 20 (40, .aload_n 0, 1) rfl) rfl ?_
      refine r_iload_n hk 1 (dtX3_answer_0 21 (41, .iload_n 1, 1) rfl) rfl ?_
      refine r_callIm hF (fun v6 m7 h H locs ls hH hS hl => run_V (y := yX3_collectAnswers) hk (in_main 0 (by decide)) rfl rfl (c_X3_collectAnswers (kl K) hk.2.2.2.2.2.2.2.2.2.2.2 X  p1 m5 v6 m7 h) lk_X3_163 me_X3_collectAnswers yf_X3_collectAnswers (by decide) (by decide) rfl (Nat.le_of_ble_eq_true rfl) rfl (dtX3_answer_0 22 (42, .invokevirtual 163, 3) rfl) hH hS hl) (fun v6 m7 hF => ?_)
      refine r_istore hk [(4, .int v6), (0, .ref (xad X (0, 0, 0, 0))), (1, .int p1), (2, .int p2), (3, .int p3)] (dtX3_answer_0 23 (45, .istore 4, 2) rfl) (by decide) rfl ?_
      refine r_iload_n hk 3 (dtX3_answer_0 24 (47, .iload_n 2, 1) rfl) rfl ?_
      refine r_iconst (v := (-1)) hk (dtX3_answer_0 25 (48, .iconst (-1), 1) rfl) (by decide) ?_
      have j71_9 : ∀ (m8 : Mem), (J_X3_answer_71 p3 v6) m8 = some (rv, mE) → G X K 71 [(0, .ref (xad X (0, 0, 0, 0))), (3, .int p3), (4, .int v6)] [] m8 := by
        intro m8 hF
        unfold J_X3_answer_71 at hF
        refine r_aload_n hk 0 (dtX3_answer_0 37 (71, .aload_n 0, 1) rfl) rfl ?_
        refine r_iload_n hk 1 (dtX3_answer_0 38 (72, .iload_n 3, 1) rfl) rfl ?_
        refine r_iload hk 2 (dtX3_answer_0 39 (73, .iload 4, 2) rfl) rfl ?_
        refine r_callI hF (fun v10 h H locs ls hH hS hl => run_V (y := yX3_answerAt) hk (in_main 0 (by decide)) rfl rfl (c_X3_answerAt (kl K) hk.2.2.2.2.2.2.2.2.2.2.2 X  p3 v6 m8 v10 h) lk_X3_201 me_X3_answerAt yf_X3_answerAt (by decide) (by decide) rfl (Nat.le_of_ble_eq_true rfl) rfl (dtX3_answer_0 40 (75, .invokevirtual 201, 3) rfl) hH hS hl) (fun v10 hF => ?_)
        cases Option.some.inj hF
        exact hR v10 rfl _ _ (dtX3_answer_0 41 (78, .ireturn, 1) rfl)
      refine r_icmp_eq hk 71 hF (dtX3_answer_0 26 (49, .if_icmp .eq 22, 3) rfl) (by decide) (fun hF => ?_) (fun hF => ?_)
      · exact r_sub hk [1, 4, 0] rfl (j71_9 m7 hF)
      · refine r_aload_n hk 1 (dtX3_answer_0 27 (52, .aload_n 0, 1) rfl) rfl ?_
        refine r_iload hk 0 (dtX3_answer_0 28 (53, .iload 4, 2) rfl) rfl ?_
        refine r_aload_n hk 1 (dtX3_answer_0 29 (55, .aload_n 0, 1) rfl) rfl ?_
        refine r_getS hk fl_X3_30 hF (dtX3_answer_0 30 (56, .getfield 30, 3) rfl) (fun q11 hq11 hF => ?_)
        refine r_getR hk (k := 0) (fsX1 X q11) cbX1 (by decide) fl_X3_49 (in_st q11 hq11 0 (by decide)) (fun _ => rfl) (fun _ _ => rfl) (dtX3_answer_0 31 (59, .getfield 49, 3) rfl) ?_
        refine r_iload_n hk 2 (dtX3_answer_0 32 (62, .iload_n 1, 1) rfl) rfl ?_
        refine r_aldT hk hq11 hF (dtX3_answer_0 33 (63, .aaload, 1) rfl) (fun q12 hq12 hF => ?_)
        refine r_iload_n hk 3 (dtX3_answer_0 34 (64, .iload_n 2, 1) rfl) rfl ?_
        refine r_callI hF (fun v13 h H locs ls hH hS hl => run_V (y := yX2_columnOf) hk (in_tn q11 hq11 q12 hq12 0 (by decide)) rfl rfl (c_X2_columnOf (kl K) hk.2.2.2.2.2.2.2.2.2.2.2 X q11 hq11 q12 hq12 p2 m7 v13 h) lk_X3_67 me_X2_columnOf yf_X2_columnOf (by decide) (by decide) rfl (Nat.le_of_ble_eq_true rfl) rfl (dtX3_answer_0 35 (65, .invokevirtual 67, 3) rfl) hH hS hl) (fun v13 hF => ?_)
        refine r_callVm hF (fun w m14 h H locs ls hH hS hl => run_V (y := yX3_sortAnswers) hk (in_main 0 (by decide)) rfl rfl (c_X3_sortAnswers (kl K) hk.2.2.2.2.2.2.2.2.2.2.2 X  v6 v13 m7 w m14 h) lk_X3_197 me_X3_sortAnswers yf_X3_sortAnswers (by decide) (by decide) rfl (Nat.le_of_ble_eq_true rfl) rfl (dtX3_answer_0 36 (68, .invokevirtual 197, 3) rfl) hH hS hl) (fun _ m14 hF => ?_)
        exact r_sub hk [1, 4, 0] rfl (j71_9 m14 hF)
    · refine r_iconst (v := (-1)) hk (dtX3_answer_0 18 (38, .iconst (-1), 1) rfl) (by decide) ?_
      cases Option.some.inj hF
      exact hR (-1) rfl _ _ (dtX3_answer_0 19 (39, .ireturn, 1) rfl)
  have j27_15 : (J_X3_answer_27 p1 p2 p3 m0) = some (rv, mE) → G X K 27 [(0, .ref (xad X (0, 0, 0, 0))), (1, .int p1), (2, .int p2), (3, .int p3)] [] m0 := by
    intro hF
    unfold J_X3_answer_27 at hF
    refine r_iconst (v := 0) hk (dtX3_answer_0 13 (27, .iconst 0, 1) rfl) (by decide) ?_
    exact r_sub hk [0, 1, 2, 3] rfl (j28_3 0 hF)
  refine r_if_eq hk 27 hF (dtX3_answer_0 2 (4, .ifCond .eq 23, 3) rfl) (by decide) (fun hF => ?_) (fun hF => ?_)
  · exact r_sub hk [0, 1, 2, 3] rfl (j27_15 hF)
  · refine r_iload_n hk 2 (dtX3_answer_0 3 (7, .iload_n 2, 1) rfl) rfl ?_
    refine r_iconst (v := (-1)) hk (dtX3_answer_0 4 (8, .iconst (-1), 1) rfl) (by decide) ?_
    have j19_16 : (J_X3_answer_19 p1 p2 p3 m0) = some (rv, mE) → G X K 19 [(0, .ref (xad X (0, 0, 0, 0))), (1, .int p1), (2, .int p2), (3, .int p3)] [] m0 := by
      intro hF
      unfold J_X3_answer_19 at hF
      refine r_iload_n hk 3 (dtX3_answer_0 9 (19, .iload_n 3, 1) rfl) rfl ?_
      refine r_if_lt hk 27 hF (dtX3_answer_0 10 (20, .ifCond .lt 7, 3) rfl) (by decide) (fun hF => ?_) (fun hF => ?_)
      · exact r_sub hk [0, 1, 2, 3] rfl (j27_15 hF)
      · refine r_iconst (v := 1) hk (dtX3_answer_0 11 (23, .iconst 1, 1) rfl) (by decide) ?_
        refine r_goto hk 28 (dtX3_answer_0 12 (24, .goto 4, 3) rfl) (by decide) ?_
        exact r_sub hk [0, 1, 2, 3] rfl (j28_3 1 hF)
    refine r_icmp_eq hk 19 hF (dtX3_answer_0 5 (9, .if_icmp .eq 10, 3) rfl) (by decide) (fun hF => ?_) (fun hF => ?_)
    · exact r_sub hk [0, 1, 2, 3] rfl (j19_16 hF)
    · refine r_iload_n hk 2 (dtX3_answer_0 6 (12, .iload_n 2, 1) rfl) rfl ?_
      refine r_callI hF (fun v17 h H locs ls hH hS hl => run_S hk (c_X3_isLetter (kl K) hk.2.2.2.2.2.2.2.2.2.2.2 X  p2 m0 v17 h) lk_X3_38 me_X3_isLetter yf_X3_isLetter (by decide) (by decide) rfl (Nat.le_of_ble_eq_true rfl) rfl (dtX3_answer_0 7 (13, .invokestatic 38, 3) rfl) hH hS hl) (fun v17 hF => ?_)
      refine r_if_eq hk 27 hF (dtX3_answer_0 8 (16, .ifCond .eq 11, 3) rfl) (by decide) (fun hF => ?_) (fun hF => ?_)
      · exact r_sub hk [0, 1, 2, 3] rfl (j27_15 hF)
      · exact r_sub hk [0, 1, 2, 3] rfl (j19_16 hF)
set_option maxHeartbeats 4000000 in
set_option maxRecDepth 100000 in
theorem c_X3_rowsToLookAt (l : Launch) (hlf : l.stackTraces = false) (X : XW)  (p1 : Int32) (p2 : Int32) (p3 : Int32) (m0 : Mem) (rv : Int32) (hF : F_X3_rowsToLookAt p1 p2 p3 m0 = some rv) : MX X l yX3_rowsToLookAt cX3_rowsToLookAt 9 (some .int) 2 [.ref (xad X (0, 0, 0, 0)), .int p1, .int p2, .int p3] m0 (QI X rv m0) := by
  refine startI hlf (by decide +kernel) rfl [(0, .ref (xad X (0, 0, 0, 0))), (1, .int p1), (2, .int p2), (3, .int p3)] rfl (Nat.le_of_ble_eq_true rfl) (fun K hk hR => ?_)
  unfold F_X3_rowsToLookAt at hF
  refine r_iload_n hk 2 (dtX3_rowsToLookAt_0 0 (0, .iload_n 2, 1) rfl) rfl ?_
  refine r_if_eq hk 13 hF (dtX3_rowsToLookAt_0 1 (1, .ifCond .eq 12, 3) rfl) (by decide) (fun hF => ?_) (fun hF => ?_)
  · refine r_aload_n hk 0 (dtX3_rowsToLookAt_0 7 (13, .aload_n 0, 1) rfl) rfl ?_
    refine r_getS hk fl_X3_30 hF (dtX3_rowsToLookAt_0 8 (14, .getfield 30, 3) rfl) (fun q1 hq1 hF => ?_)
    refine r_getR hk (k := 0) (fsX1 X q1) cbX1 (by decide) fl_X3_49 (in_st q1 hq1 0 (by decide)) (fun _ => rfl) (fun _ _ => rfl) (dtX3_rowsToLookAt_0 9 (17, .getfield 49, 3) rfl) ?_
    refine r_iload_n hk 1 (dtX3_rowsToLookAt_0 10 (20, .iload_n 1, 1) rfl) rfl ?_
    refine r_aldT hk hq1 hF (dtX3_rowsToLookAt_0 11 (21, .aaload, 1) rfl) (fun q2 hq2 hF => ?_)
    refine r_astore hk [(4, .ref (xad X (2, q1, q2, 0))), (0, .ref (xad X (0, 0, 0, 0))), (1, .int p1), (2, .int p2), (3, .int p3)] (dtX3_rowsToLookAt_0 12 (22, .astore 4, 2) rfl) (by decide) rfl ?_
    refine r_aload_n hk 1 (dtX3_rowsToLookAt_0 13 (24, .aload_n 0, 1) rfl) rfl ?_
    refine r_getS hk fl_X3_30 hF (dtX3_rowsToLookAt_0 14 (25, .getfield 30, 3) rfl) (fun q3 hq3 hF => ?_)
    refine r_callI hF (fun v4 h H locs ls hH hS hl => run_V (y := yX1_tableRows) hk (in_st q3 hq3 0 (by decide)) rfl rfl (c_X1_tableRows (kl K) hk.2.2.2.2.2.2.2.2.2.2.2 X q3 hq3  m0 v4 h) lk_X3_110 me_X1_tableRows yf_X1_tableRows (by decide) (by decide) rfl (Nat.le_of_ble_eq_true rfl) rfl (dtX3_rowsToLookAt_0 15 (28, .invokevirtual 110, 3) rfl) hH hS hl) (fun v4 hF => ?_)
    refine r_istore hk [(5, .int v4), (4, .ref (xad X (2, q1, q2, 0))), (0, .ref (xad X (0, 0, 0, 0))), (1, .int p1), (2, .int p2), (3, .int p3)] (dtX3_rowsToLookAt_0 16 (31, .istore 5, 2) rfl) (by decide) rfl ?_
    refine r_iconst (v := 0) hk (dtX3_rowsToLookAt_0 17 (33, .iconst 0, 1) rfl) (by decide) ?_
    refine r_istore hk [(6, .int 0), (5, .int v4), (4, .ref (xad X (2, q1, q2, 0))), (0, .ref (xad X (0, 0, 0, 0))), (1, .int p1), (2, .int p2), (3, .int p3)] (dtX3_rowsToLookAt_0 18 (34, .istore 6, 2) rfl) (by decide) rfl ?_
    have e140_6 : ∀ (v5 : Int32), C_X3_rowsToLookAt_140 v5 = some rv → G X K 140 [(5, .int v5)] [] m0 := by
      intro v5 hF
      unfold C_X3_rowsToLookAt_140 at hF
      refine r_iload hk 0 (dtX3_rowsToLookAt_1 3 (140, .iload 5, 2) rfl) rfl ?_
      cases Option.some.inj hF
      exact hR _ _ (dtX3_rowsToLookAt_1 4 (142, .ireturn, 1) rfl)
    have l10 : ∀ (n10 : Nat) (v7 : Int32) (v8 : Int32), L_X3_rowsToLookAt_36 p1 p3 m0 q1 q2 n10 v7 v8 = some rv → G X K 36 [(0, .ref (xad X (0, 0, 0, 0))), (1, .int p1), (3, .int p3), (4, .ref (xad X (2, q1, q2, 0))), (5, .int v7), (6, .int v8)] [] m0 := by
      intro n10
      induction n10 with
      | zero => intro v7 v8 hF; exact nomatch (show (none : Option Int32) = some rv from hF)
      | succ n10 ih10 =>
        intro v7 v8 hF
        rw [L_X3_rowsToLookAt_36] at hF
        refine r_iload hk 5 (dtX3_rowsToLookAt_0 19 (36, .iload 6, 2) rfl) rfl ?_
        refine r_aload_n hk 0 (dtX3_rowsToLookAt_0 20 (38, .aload_n 0, 1) rfl) rfl ?_
        refine r_getR hk (k := 2) (fsX3 X) cbX3 (by decide) fl_X3_22 (in_main 0 (by decide)) (fun _ => rfl) (fun _ _ => rfl) (dtX3_rowsToLookAt_0 21 (39, .getfield 22, 3) rfl) ?_
        refine r_getI hk (k := 3) (fsX0 X) cbX0 (by decide) fl_X3_287 (in_main 3 (by decide)) (fun _ => rfl) (fun _ _ => rfl) hF (dtX3_rowsToLookAt_0 22 (42, .getfield 287, 3) rfl) (fun v11 hF => ?_)
        refine r_icmp_ge hk 140 hF (dtX3_rowsToLookAt_0 23 (45, .if_icmp .ge 95, 3) rfl) (by decide) (fun hF => ?_) (fun hF => ?_)
        · exact r_sub hk [4] rfl (e140_6 v7 hF)
        · refine r_aload_n hk 0 (dtX3_rowsToLookAt_0 24 (48, .aload_n 0, 1) rfl) rfl ?_
          refine r_getR hk (k := 2) (fsX3 X) cbX3 (by decide) fl_X3_22 (in_main 0 (by decide)) (fun _ => rfl) (fun _ _ => rfl) (dtX3_rowsToLookAt_0 25 (49, .getfield 22, 3) rfl) ?_
          refine r_getR hk (k := 0) (fsX0 X) cbX0 (by decide) fl_X3_290 (in_main 3 (by decide)) (fun _ => rfl) (fun _ _ => rfl) (dtX3_rowsToLookAt_0 26 (52, .getfield 290, 3) rfl) ?_
          refine r_iload hk 5 (dtX3_rowsToLookAt_0 27 (55, .iload 6, 2) rfl) rfl ?_
          refine r_iald hk (in_main 5 (by decide)) (fun _ => rfl) hF (dtX3_rowsToLookAt_0 28 (57, .iaload, 1) rfl) (fun v12 hF => ?_)
          refine r_istore hk [(7, .int v12), (0, .ref (xad X (0, 0, 0, 0))), (1, .int p1), (3, .int p3), (4, .ref (xad X (2, q1, q2, 0))), (5, .int v7), (6, .int v8)] (dtX3_rowsToLookAt_0 29 (58, .istore 7, 2) rfl) (by decide) rfl ?_
          refine r_aload hk 4 (dtX3_rowsToLookAt_0 30 (60, .aload 4, 2) rfl) rfl ?_
          refine r_iload hk 0 (dtX3_rowsToLookAt_0 31 (62, .iload 7, 2) rfl) rfl ?_
          refine r_callI hF (fun v13 h H locs ls hH hS hl => run_V (y := yX2_columnOf) hk (in_tn q1 hq1 q2 hq2 0 (by decide)) rfl rfl (c_X2_columnOf (kl K) hk.2.2.2.2.2.2.2.2.2.2.2 X q1 hq1 q2 hq2 v12 m0 v13 h) lk_X3_67 me_X2_columnOf yf_X2_columnOf (by decide) (by decide) rfl (Nat.le_of_ble_eq_true rfl) rfl (dtX3_rowsToLookAt_0 32 (64, .invokevirtual 67, 3) rfl) hH hS hl) (fun v13 hF => ?_)
          refine r_istore hk [(8, .int v13), (7, .int v12), (0, .ref (xad X (0, 0, 0, 0))), (1, .int p1), (3, .int p3), (4, .ref (xad X (2, q1, q2, 0))), (5, .int v7), (6, .int v8)] (dtX3_rowsToLookAt_0 33 (67, .istore 8, 2) rfl) (by decide) rfl ?_
          refine r_aload_n hk 2 (dtX3_rowsToLookAt_0 34 (69, .aload_n 0, 1) rfl) rfl ?_
          refine r_getR hk (k := 2) (fsX3 X) cbX3 (by decide) fl_X3_22 (in_main 0 (by decide)) (fun _ => rfl) (fun _ _ => rfl) (dtX3_rowsToLookAt_0 35 (70, .getfield 22, 3) rfl) ?_
          refine r_getR hk (k := 1) (fsX0 X) cbX0 (by decide) fl_X3_298 (in_main 3 (by decide)) (fun _ => rfl) (fun _ _ => rfl) (dtX3_rowsToLookAt_0 36 (73, .getfield 298, 3) rfl) ?_
          refine r_iload hk 7 (dtX3_rowsToLookAt_0 37 (76, .iload 6, 2) rfl) rfl ?_
          refine r_iald hk (in_main 6 (by decide)) (fun _ => rfl) hF (dtX3_rowsToLookAt_0 38 (78, .iaload, 1) rfl) (fun v14 hF => ?_)
          refine r_bipush (v := 61) hk (dtX3_rowsToLookAt_0 39 (79, .bipush 61, 2) rfl) (by decide) ?_
          have j134_16 : ∀ (v15 : Int32), (J_X3_rowsToLookAt_134 v8 (fun w0 w1 => L_X3_rowsToLookAt_36 p1 p3 m0 q1 q2 n10 w0 w1)) v15 = some rv → G X K 134 [(0, .ref (xad X (0, 0, 0, 0))), (1, .int p1), (3, .int p3), (4, .ref (xad X (2, q1, q2, 0))), (5, .int v15), (6, .int v8)] [] m0 := by
            intro v15 hF
            unfold J_X3_rowsToLookAt_134 at hF
            refine r_iinc hk 1 5 (fun v17 => [(6, .int v17), (0, .ref (xad X (0, 0, 0, 0))), (1, .int p1), (3, .int p3), (4, .ref (xad X (2, q1, q2, 0))), (5, .int v15)]) hF (dtX3_rowsToLookAt_1 1 (134, .iinc 6 1, 3) rfl) rfl (by decide) (by decide) (fun _ => rfl) (fun v17 hF => ?_)
            refine r_goto hk 36 (dtX3_rowsToLookAt_1 2 (137, .goto (-101), 3) rfl) (by decide) ?_
            exact r_sub hk [1, 2, 3, 4, 5, 0] rfl (ih10 v15 v17 hF)
          refine r_icmp_ne hk 134 hF (dtX3_rowsToLookAt_0 40 (81, .if_icmp .ne 53, 3) rfl) (by decide) (fun hF => ?_) (fun hF => ?_)
          · exact r_sub hk [2, 3, 4, 5, 6, 7] rfl (j134_16 v7 hF)
          · refine r_iload hk 0 (dtX3_rowsToLookAt_0 41 (84, .iload 8, 2) rfl) rfl ?_
            refine r_iconst (v := (-1)) hk (dtX3_rowsToLookAt_0 42 (86, .iconst (-1), 1) rfl) (by decide) ?_
            refine r_icmp_eq hk 134 hF (dtX3_rowsToLookAt_0 43 (87, .if_icmp .eq 47, 3) rfl) (by decide) (fun hF => ?_) (fun hF => ?_)
            · exact r_sub hk [2, 3, 4, 5, 6, 7] rfl (j134_16 v7 hF)
            · refine r_aload hk 5 (dtX3_rowsToLookAt_0 44 (90, .aload 4, 2) rfl) rfl ?_
              refine r_getR hk (k := 2) (fsX2 X q1 q2) cbX2 (by decide) fl_X3_92 (in_tn q1 hq1 q2 hq2 0 (by decide)) (fun _ => rfl) (fun _ _ => rfl) (dtX3_rowsToLookAt_0 45 (92, .getfield 92, 3) rfl) ?_
              refine r_iload hk 0 (dtX3_rowsToLookAt_0 46 (95, .iload 8, 2) rfl) rfl ?_
              refine r_zald hk (in_tn q1 hq1 q2 hq2 3 (by decide)) (fun _ => rfl) hF (dtX3_rowsToLookAt_0 47 (97, .baload, 1) rfl) (fun v18 hF => ?_)
              have j107_19 : (J_X3_rowsToLookAt_107 p1 m0 v7 v8 (fun w0 w1 => L_X3_rowsToLookAt_36 p1 p3 m0 q1 q2 n10 w0 w1) v13) = some rv → G X K 107 [(0, .ref (xad X (0, 0, 0, 0))), (1, .int p1), (3, .int p3), (4, .ref (xad X (2, q1, q2, 0))), (5, .int v7), (6, .int v8), (8, .int v13)] [] m0 := by
                intro hF
                unfold J_X3_rowsToLookAt_107 at hF
                refine r_iload hk 4 (dtX3_rowsToLookAt_0 52 (107, .iload 5, 2) rfl) rfl ?_
                refine r_aload_n hk 0 (dtX3_rowsToLookAt_0 53 (109, .aload_n 0, 1) rfl) rfl ?_
                refine r_getS hk fl_X3_30 hF (dtX3_rowsToLookAt_0 54 (110, .getfield 30, 3) rfl) (fun q20 hq20 hF => ?_)
                refine r_iload_n hk 1 (dtX3_rowsToLookAt_0 55 (113, .iload_n 1, 1) rfl) rfl ?_
                refine r_iload hk 6 (dtX3_rowsToLookAt_0 56 (114, .iload 8, 2) rfl) rfl ?_
                refine r_aload_n hk 0 (dtX3_rowsToLookAt_0 57 (116, .aload_n 0, 1) rfl) rfl ?_
                refine r_getR hk (k := 2) (fsX3 X) cbX3 (by decide) fl_X3_22 (in_main 0 (by decide)) (fun _ => rfl) (fun _ _ => rfl) (dtX3_rowsToLookAt_0 58 (117, .getfield 22, 3) rfl) ?_
                refine r_getR hk (k := 2) (fsX0 X) cbX0 (by decide) fl_X3_301 (in_main 3 (by decide)) (fun _ => rfl) (fun _ _ => rfl) (dtX3_rowsToLookAt_0 59 (120, .getfield 301, 3) rfl) ?_
                refine r_iload hk 5 (dtX3_rowsToLookAt_0 60 (123, .iload 6, 2) rfl) rfl ?_
                refine r_iald hk (in_main 7 (by decide)) (fun _ => rfl) hF (dtX3_rowsToLookAt_0 61 (125, .iaload, 1) rfl) (fun v21 hF => ?_)
                refine r_callI hF (fun v22 h H locs ls hH hS hl => run_V (y := yX1_rowsWith) hk (in_st q20 hq20 0 (by decide)) rfl rfl (c_X1_rowsWith (kl K) hk.2.2.2.2.2.2.2.2.2.2.2 X q20 hq20 p1 v13 v21 m0 v22 h) lk_X3_304 me_X1_rowsWith yf_X1_rowsWith (by decide) (by decide) rfl (Nat.le_of_ble_eq_true rfl) rfl (dtX3_rowsToLookAt_0 62 (126, .invokevirtual 304, 3) rfl) hH hS hl) (fun v22 hF => ?_)
                refine r_mmin hk lk_X3_307 hF (by decide) (Nat.le_of_ble_eq_true rfl) (dtX3_rowsToLookAt_0 63 (129, .invokestatic 307, 3) rfl) (fun v23 hF => ?_)
                refine r_istore hk [(5, .int v23), (0, .ref (xad X (0, 0, 0, 0))), (1, .int p1), (3, .int p3), (4, .ref (xad X (2, q1, q2, 0))), (6, .int v8), (8, .int v13)] (dtX3_rowsToLookAt_1 0 (132, .istore 5, 2) rfl) (by decide) rfl ?_
                exact r_sub hk [1, 2, 3, 4, 0, 5] rfl (j134_16 v23 hF)
              refine r_if_ne hk 107 hF (dtX3_rowsToLookAt_0 48 (98, .ifCond .ne 9, 3) rfl) (by decide) (fun hF => ?_) (fun hF => ?_)
              · exact r_sub hk [2, 3, 4, 5, 6, 7, 0] rfl (j107_19 hF)
              · refine r_iload hk 1 (dtX3_rowsToLookAt_0 49 (101, .iload 7, 2) rfl) rfl ?_
                refine r_iload_n hk 4 (dtX3_rowsToLookAt_0 50 (103, .iload_n 3, 1) rfl) rfl ?_
                refine r_icmp_ne hk 134 hF (dtX3_rowsToLookAt_0 51 (104, .if_icmp .ne 30, 3) rfl) (by decide) (fun hF => ?_) (fun hF => ?_)
                · exact r_sub hk [2, 3, 4, 5, 6, 7] rfl (j134_16 v7 hF)
                · exact r_sub hk [2, 3, 4, 5, 6, 7, 0] rfl (j107_19 hF)
    exact r_sub hk [3, 4, 6, 2, 1, 0] rfl (l10 fu v4 0 hF)
  · refine r_aload_n hk 0 (dtX3_rowsToLookAt_0 2 (4, .aload_n 0, 1) rfl) rfl ?_
    refine r_getS hk fl_X3_30 hF (dtX3_rowsToLookAt_0 3 (5, .getfield 30, 3) rfl) (fun q24 hq24 hF => ?_)
    refine r_iload_n hk 1 (dtX3_rowsToLookAt_0 4 (8, .iload_n 1, 1) rfl) rfl ?_
    refine r_callI hF (fun v25 h H locs ls hH hS hl => run_V (y := yX1_rowsOf) hk (in_st q24 hq24 0 (by decide)) rfl rfl (c_X1_rowsOf (kl K) hk.2.2.2.2.2.2.2.2.2.2.2 X q24 hq24 p1 m0 v25 h) lk_X3_100 me_X1_rowsOf yf_X1_rowsOf (by decide) (by decide) rfl (Nat.le_of_ble_eq_true rfl) rfl (dtX3_rowsToLookAt_0 5 (9, .invokevirtual 100, 3) rfl) hH hS hl) (fun v25 hF => ?_)
    cases Option.some.inj hF
    exact hR _ _ (dtX3_rowsToLookAt_0 6 (12, .ireturn, 1) rfl)
