/-! the walks (written by dec.py) -/
set_option maxHeartbeats 4000000 in
set_option maxRecDepth 100000 in
theorem c_X4_clearBuffer (l : Launch) (hlf : l.stackTraces = false) (X : XW)   (m0 : Mem) (rv : Int32) (mE : Mem) (hF : F_X4_clearBuffer m0 = some (rv, mE)) : MX X l yX4_clearBuffer cX4_clearBuffer 2 (some .int) 0 [.ref (xad X (3, 0, 0, 0))] m0 (QI X rv mE) := by
  refine startI hlf (by decide +kernel) rfl [(0, .ref (xad X (3, 0, 0, 0)))] rfl (Nat.le_of_ble_eq_true rfl) (fun K hk hR => ?_)
  unfold F_X4_clearBuffer at hF
  refine r_aload_n hk 0 (dtX4_clearBuffer_0 0 (0, .aload_n 0, 1) rfl) rfl ?_
  refine r_iconst (v := 0) hk (dtX4_clearBuffer_0 1 (1, .iconst 0, 1) rfl) (by decide) ?_
  refine r_putI hk (k := 6) (fsX4 X) cbX4 (by decide) fl_X4_25 (in_mo 0 (by decide)) (fun _ => rfl) rfl rfl (fun _ _ _ => rfl) (fun _ _ => (by decide : 6 < 11)) hF (dtX4_clearBuffer_0 2 (2, .putfield 25, 3) rfl) (fun m1 hF => ?_)
  refine r_aload_n hk 0 (dtX4_clearBuffer_0 3 (5, .aload_n 0, 1) rfl) rfl ?_
  refine r_getI hk (k := 5) (fsX4 X) cbX4 (by decide) fl_X4_92 (in_mo 0 (by decide)) (fun _ => rfl) (fun _ _ => rfl) hF (dtX4_clearBuffer_0 4 (6, .getfield 92, 3) rfl) (fun v2 hF => ?_)
  refine r_istore_n hk [(1, .int v2), (0, .ref (xad X (3, 0, 0, 0)))] (dtX4_clearBuffer_0 5 (9, .istore_n 1, 1) rfl) (by decide) rfl ?_
  refine r_aload_n hk 1 (dtX4_clearBuffer_0 6 (10, .aload_n 0, 1) rfl) rfl ?_
  refine r_iconst (v := 0) hk (dtX4_clearBuffer_0 7 (11, .iconst 0, 1) rfl) (by decide) ?_
  refine r_putI hk (k := 5) (fsX4 X) cbX4 (by decide) fl_X4_92 (in_mo 0 (by decide)) (fun _ => rfl) rfl rfl (fun _ _ _ => rfl) (fun _ _ => (by decide : 5 < 11)) hF (dtX4_clearBuffer_0 8 (12, .putfield 92, 3) rfl) (fun m3 hF => ?_)
  refine r_iload_n hk 0 (dtX4_clearBuffer_0 9 (15, .iload_n 1, 1) rfl) rfl ?_
  cases Option.some.inj hF
  exact hR _ _ (dtX4_clearBuffer_0 10 (16, .ireturn, 1) rfl)
set_option maxHeartbeats 4000000 in
set_option maxRecDepth 100000 in
theorem c_X4_isAt (l : Launch) (hlf : l.stackTraces = false) (X : XW)  (p1 : Int32) (p2 : Int32) (m0 : Mem) (rv : Int32) (hF : F_X4_isAt p1 p2 m0 = some rv) : MX X l yX4_isAt cX4_isAt 3 (some .boolean) 1 [.ref (xad X (3, 0, 0, 0)), .int p1, .int p2] m0 (QI X rv m0) := by
  refine startZ hlf (by decide +kernel) rfl [(0, .ref (xad X (3, 0, 0, 0))), (1, .int p1), (2, .int p2)] rfl (Nat.le_of_ble_eq_true rfl) (fun K hk hR => ?_)
  unfold F_X4_isAt at hF
  refine r_aload_n hk 0 (dtX4_isAt_0 0 (0, .aload_n 0, 1) rfl) rfl ?_
  refine r_getI hk (k := 7) (fsX4 X) cbX4 (by decide) fl_X4_95 (in_mo 0 (by decide)) (fun _ => rfl) (fun _ _ => rfl) hF (dtX4_isAt_0 1 (1, .getfield 95, 3) rfl) (fun v1 hF => ?_)
  refine r_aload_n hk 0 (dtX4_isAt_0 2 (4, .aload_n 0, 1) rfl) rfl ?_
  refine r_getI hk (k := 5) (fsX4 X) cbX4 (by decide) fl_X4_92 (in_mo 0 (by decide)) (fun _ => rfl) (fun _ _ => rfl) hF (dtX4_isAt_0 3 (5, .getfield 92, 3) rfl) (fun v2 hF => ?_)
  have j33_4 : ∀ (v3 : Int32), J_X4_isAt_33 v3 = some rv → G X K 33 [] [.int v3] m0 := by
    intro v3 hF
    unfold J_X4_isAt_33 at hF
    obtain ⟨hz, hF⟩ := ck_some hF
    cases Option.some.inj hF
    exact hR _ _ hz (dtX4_isAt_0 17 (33, .ireturn, 1) rfl)
  have j32_5 : J_X4_isAt_32 = some rv → G X K 32 [] [] m0 := by
    intro hF
    unfold J_X4_isAt_32 at hF
    refine r_iconst (v := 0) hk (dtX4_isAt_0 16 (32, .iconst 0, 1) rfl) (by decide) ?_
    exact r_sub hk [] rfl (j33_4 0 hF)
  refine r_icmp_ge hk 32 hF (dtX4_isAt_0 4 (8, .if_icmp .ge 24, 3) rfl) (by decide) (fun hF => ?_) (fun hF => ?_)
  · exact r_sub hk [] rfl (j32_5 hF)
  · refine r_aload_n hk 0 (dtX4_isAt_0 5 (11, .aload_n 0, 1) rfl) rfl ?_
    refine r_getR hk (k := 4) (fsX4 X) cbX4 (by decide) fl_X4_19 (in_mo 0 (by decide)) (fun _ => rfl) (fun _ _ => rfl) (dtX4_isAt_0 6 (12, .getfield 19, 3) rfl) ?_
    refine r_aload_n hk 0 (dtX4_isAt_0 7 (15, .aload_n 0, 1) rfl) rfl ?_
    refine r_getI hk (k := 7) (fsX4 X) cbX4 (by decide) fl_X4_95 (in_mo 0 (by decide)) (fun _ => rfl) (fun _ _ => rfl) hF (dtX4_isAt_0 8 (16, .getfield 95, 3) rfl) (fun v6 hF => ?_)
    refine r_iald hk (in_mo 4 (by decide)) (fun _ => rfl) hF (dtX4_isAt_0 9 (19, .iaload, 1) rfl) (fun v7 hF => ?_)
    refine r_iload_n hk 1 (dtX4_isAt_0 10 (20, .iload_n 1, 1) rfl) rfl ?_
    refine r_iload_n hk 2 (dtX4_isAt_0 11 (21, .iload_n 2, 1) rfl) rfl ?_
    refine r_callI hF (fun v8 h H locs ls hH hS hl => run_S hk (c_X4_in (kl K) hk.2.2.2.2.2.2.2.2.2.2.2 X  v7 p1 p2 m0 v8 h) lk_X4_29 me_X4_in yf_X4_in (by decide) (by decide) rfl (Nat.le_of_ble_eq_true rfl) rfl (dtX4_isAt_0 12 (22, .invokestatic 29, 3) rfl) hH hS hl) (fun v8 hF => ?_)
    refine r_if_eq hk 32 hF (dtX4_isAt_0 13 (25, .ifCond .eq 7, 3) rfl) (by decide) (fun hF => ?_) (fun hF => ?_)
    · exact r_sub hk [] rfl (j32_5 hF)
    · refine r_iconst (v := 1) hk (dtX4_isAt_0 14 (28, .iconst 1, 1) rfl) (by decide) ?_
      refine r_goto hk 33 (dtX4_isAt_0 15 (29, .goto 4, 3) rfl) (by decide) ?_
      exact r_sub hk [] rfl (j33_4 1 hF)
set_option maxHeartbeats 4000000 in
set_option maxRecDepth 100000 in
theorem c_X4_stops (l : Launch) (hlf : l.stackTraces = false) (X : XW)   (m0 : Mem) (rv : Int32) (mE : Mem) (hF : F_X4_stops m0 = some (rv, mE)) : MX X l yX4_stops cX4_stops 1 (some .boolean) 0 [.ref (xad X (3, 0, 0, 0))] m0 (QI X rv mE) := by
  refine startZ hlf (by decide +kernel) rfl [(0, .ref (xad X (3, 0, 0, 0)))] rfl (Nat.le_of_ble_eq_true rfl) (fun K hk hR => ?_)
  unfold F_X4_stops at hF
  refine r_aload_n hk 0 (dtX4_stops_0 0 (0, .aload_n 0, 1) rfl) rfl ?_
  refine r_aload_n hk 0 (dtX4_stops_0 1 (1, .aload_n 0, 1) rfl) rfl ?_
  refine r_getI hk (k := 7) (fsX4 X) cbX4 (by decide) fl_X4_95 (in_mo 0 (by decide)) (fun _ => rfl) (fun _ _ => rfl) hF (dtX4_stops_0 2 (2, .getfield 95, 3) rfl) (fun v1 hF => ?_)
  refine r_aload_n hk 0 (dtX4_stops_0 3 (5, .aload_n 0, 1) rfl) rfl ?_
  refine r_getI hk (k := 5) (fsX4 X) cbX4 (by decide) fl_X4_92 (in_mo 0 (by decide)) (fun _ => rfl) (fun _ _ => rfl) hF (dtX4_stops_0 4 (6, .getfield 92, 3) rfl) (fun v2 hF => ?_)
  have j17_4 : ∀ (v3 : Int32), (J_X4_stops_17 m0) v3 = some (rv, mE) → G X K 17 [] [.int v3, .ref (xad X (3, 0, 0, 0))] m0 := by
    intro v3 hF
    unfold J_X4_stops_17 at hF
    refine r_putZ hk (k := 8) (fsX4 X) cbX4 (by decide) fl_X4_98 (in_mo 0 (by decide)) (fun _ => rfl) rfl rfl (fun _ _ _ => rfl) (fun _ _ => (by decide : 8 < 11)) hF (dtX4_stops_0 9 (17, .putfield 98, 3) rfl) (fun m5 hF => ?_)
    refine r_iconst (v := 0) hk (dtX4_stops_0 10 (20, .iconst 0, 1) rfl) (by decide) ?_
    obtain ⟨hz, hF⟩ := ck_some hF
    cases Option.some.inj hF
    exact hR _ _ hz (dtX4_stops_0 11 (21, .ireturn, 1) rfl)
  refine r_icmp_ge hk 16 hF (dtX4_stops_0 5 (9, .if_icmp .ge 7, 3) rfl) (by decide) (fun hF => ?_) (fun hF => ?_)
  · refine r_iconst (v := 0) hk (dtX4_stops_0 8 (16, .iconst 0, 1) rfl) (by decide) ?_
    exact r_sub hk [] rfl (j17_4 0 hF)
  · refine r_iconst (v := 1) hk (dtX4_stops_0 6 (12, .iconst 1, 1) rfl) (by decide) ?_
    refine r_goto hk 17 (dtX4_stops_0 7 (13, .goto 4, 3) rfl) (by decide) ?_
    exact r_sub hk [] rfl (j17_4 1 hF)
set_option maxHeartbeats 4000000 in
set_option maxRecDepth 100000 in
theorem c_X4_isTerm (l : Launch) (hlf : l.stackTraces = false) (X : XW)   (m0 : Mem) (rv : Int32) (mE : Mem) (hF : F_X4_isTerm m0 = some (rv, mE)) : MX X l yX4_isTerm cX4_isTerm 3 (some .boolean) 2 [.ref (xad X (3, 0, 0, 0))] m0 (QI X rv mE) := by
  refine startZ hlf (by decide +kernel) rfl [(0, .ref (xad X (3, 0, 0, 0)))] rfl (Nat.le_of_ble_eq_true rfl) (fun K hk hR => ?_)
  unfold F_X4_isTerm at hF
  refine r_aload_n hk 0 (dtX4_isTerm_0 0 (0, .aload_n 0, 1) rfl) rfl ?_
  refine r_bipush (v := 97) hk (dtX4_isTerm_0 1 (1, .bipush 97, 2) rfl) (by decide) ?_
  refine r_bipush (v := 104) hk (dtX4_isTerm_0 2 (3, .bipush 104, 2) rfl) (by decide) ?_
  refine r_callI hF (fun v1 h H locs ls hH hS hl => run_V (y := yX4_isAt) hk (in_mo 0 (by decide)) rfl rfl (c_X4_isAt (kl K) hk.2.2.2.2.2.2.2.2.2.2.2 X  97 104 m0 v1 h) lk_X4_102 me_X4_isAt yf_X4_isAt (by decide) (by decide) rfl (Nat.le_of_ble_eq_true rfl) rfl (dtX4_isTerm_0 3 (5, .invokevirtual 102, 3) rfl) hH hS hl) (fun v1 hF => ?_)
  refine r_if_ne hk 16 hF (dtX4_isTerm_0 4 (8, .ifCond .ne 8, 3) rfl) (by decide) (fun hF => ?_) (fun hF => ?_)
  · refine r_aload_n hk 0 (dtX4_isTerm_0 8 (16, .aload_n 0, 1) rfl) rfl ?_
    refine r_getR hk (k := 9) (fsX4 X) cbX4 (by decide) fl_X4_22 (in_mo 0 (by decide)) (fun _ => rfl) (fun _ _ => rfl) (dtX4_isTerm_0 9 (17, .getfield 22, 3) rfl) ?_
    refine r_iconst (v := 3) hk (dtX4_isTerm_0 10 (20, .iconst 3, 1) rfl) (by decide) ?_
    refine r_aload_n hk 0 (dtX4_isTerm_0 11 (21, .aload_n 0, 1) rfl) rfl ?_
    refine r_getI hk (k := 10) (fsX4 X) cbX4 (by decide) fl_X4_109 (in_mo 0 (by decide)) (fun _ => rfl) (fun _ _ => rfl) hF (dtX4_isTerm_0 12 (22, .getfield 109, 3) rfl) (fun v2 hF => ?_)
    refine r_imul hk hF (dtX4_isTerm_0 13 (25, .imul, 1) rfl) (fun v3 hF => ?_)
    refine r_aload_n hk 0 (dtX4_isTerm_0 14 (26, .aload_n 0, 1) rfl) rfl ?_
    refine r_getR hk (k := 4) (fsX4 X) cbX4 (by decide) fl_X4_19 (in_mo 0 (by decide)) (fun _ => rfl) (fun _ _ => rfl) (dtX4_isTerm_0 15 (27, .getfield 19, 3) rfl) ?_
    refine r_aload_n hk 0 (dtX4_isTerm_0 16 (30, .aload_n 0, 1) rfl) rfl ?_
    refine r_getI hk (k := 7) (fsX4 X) cbX4 (by decide) fl_X4_95 (in_mo 0 (by decide)) (fun _ => rfl) (fun _ _ => rfl) hF (dtX4_isTerm_0 17 (31, .getfield 95, 3) rfl) (fun v4 hF => ?_)
    refine r_iald hk (in_mo 4 (by decide)) (fun _ => rfl) hF (dtX4_isTerm_0 18 (34, .iaload, 1) rfl) (fun v5 hF => ?_)
    refine r_bipush (v := 97) hk (dtX4_isTerm_0 19 (35, .bipush 97, 2) rfl) (by decide) ?_
    refine r_isub hk hF (dtX4_isTerm_0 20 (37, .isub, 1) rfl) (fun v6 hF => ?_)
    refine r_iast hk (in_mo 5 (by decide)) (fun _ => rfl) hF (dtX4_isTerm_0 21 (38, .iastore, 1) rfl) (fun m7 hF => ?_)
    refine r_aload_n hk 0 (dtX4_isTerm_0 22 (39, .aload_n 0, 1) rfl) rfl ?_
    refine r_dup hk (dtX4_isTerm_0 23 (40, .dup, 1) rfl) rfl ?_
    refine r_getI hk (k := 7) (fsX4 X) cbX4 (by decide) fl_X4_95 (in_mo 0 (by decide)) (fun _ => rfl) (fun _ _ => rfl) hF (dtX4_isTerm_0 24 (41, .getfield 95, 3) rfl) (fun v8 hF => ?_)
    refine r_iconst (v := 1) hk (dtX4_isTerm_0 25 (44, .iconst 1, 1) rfl) (by decide) ?_
    refine r_iadd hk hF (dtX4_isTerm_0 26 (45, .iadd, 1) rfl) (fun v9 hF => ?_)
    refine r_putI hk (k := 7) (fsX4 X) cbX4 (by decide) fl_X4_95 (in_mo 0 (by decide)) (fun _ => rfl) rfl rfl (fun _ _ _ => rfl) (fun _ _ => (by decide : 7 < 11)) hF (dtX4_isTerm_0 27 (46, .putfield 95, 3) rfl) (fun m10 hF => ?_)
    refine r_aload_n hk 0 (dtX4_isTerm_0 28 (49, .aload_n 0, 1) rfl) rfl ?_
    refine r_bipush (v := 60) hk (dtX4_isTerm_0 29 (50, .bipush 60, 2) rfl) (by decide) ?_
    refine r_bipush (v := 62) hk (dtX4_isTerm_0 30 (52, .bipush 62, 2) rfl) (by decide) ?_
    refine r_callI hF (fun v11 h H locs ls hH hS hl => run_V (y := yX4_isAt) hk (in_mo 0 (by decide)) rfl rfl (c_X4_isAt (kl K) hk.2.2.2.2.2.2.2.2.2.2.2 X  60 62 m10 v11 h) lk_X4_102 me_X4_isAt yf_X4_isAt (by decide) (by decide) rfl (Nat.le_of_ble_eq_true rfl) rfl (dtX4_isTerm_0 31 (54, .invokevirtual 102, 3) rfl) hH hS hl) (fun v11 hF => ?_)
    refine r_if_ne hk 65 hF (dtX4_isTerm_0 32 (57, .ifCond .ne 8, 3) rfl) (by decide) (fun hF => ?_) (fun hF => ?_)
    · refine r_aload_n hk 0 (dtX4_isTerm_0 36 (65, .aload_n 0, 1) rfl) rfl ?_
      refine r_getR hk (k := 9) (fsX4 X) cbX4 (by decide) fl_X4_22 (in_mo 0 (by decide)) (fun _ => rfl) (fun _ _ => rfl) (dtX4_isTerm_0 37 (66, .getfield 22, 3) rfl) ?_
      refine r_iconst (v := 3) hk (dtX4_isTerm_0 38 (69, .iconst 3, 1) rfl) (by decide) ?_
      refine r_aload_n hk 0 (dtX4_isTerm_0 39 (70, .aload_n 0, 1) rfl) rfl ?_
      refine r_getI hk (k := 10) (fsX4 X) cbX4 (by decide) fl_X4_109 (in_mo 0 (by decide)) (fun _ => rfl) (fun _ _ => rfl) hF (dtX4_isTerm_0 40 (71, .getfield 109, 3) rfl) (fun v12 hF => ?_)
      refine r_imul hk hF (dtX4_isTerm_0 41 (74, .imul, 1) rfl) (fun v13 hF => ?_)
      refine r_iconst (v := 1) hk (dtX4_isTerm_0 42 (75, .iconst 1, 1) rfl) (by decide) ?_
      refine r_iadd hk hF (dtX4_isTerm_0 43 (76, .iadd, 1) rfl) (fun v14 hF => ?_)
      refine r_aload_n hk 0 (dtX4_isTerm_0 44 (77, .aload_n 0, 1) rfl) rfl ?_
      refine r_getR hk (k := 4) (fsX4 X) cbX4 (by decide) fl_X4_19 (in_mo 0 (by decide)) (fun _ => rfl) (fun _ _ => rfl) (dtX4_isTerm_0 45 (78, .getfield 19, 3) rfl) ?_
      refine r_aload_n hk 0 (dtX4_isTerm_0 46 (81, .aload_n 0, 1) rfl) rfl ?_
      refine r_getI hk (k := 7) (fsX4 X) cbX4 (by decide) fl_X4_95 (in_mo 0 (by decide)) (fun _ => rfl) (fun _ _ => rfl) hF (dtX4_isTerm_0 47 (82, .getfield 95, 3) rfl) (fun v15 hF => ?_)
      refine r_iald hk (in_mo 4 (by decide)) (fun _ => rfl) hF (dtX4_isTerm_0 48 (85, .iaload, 1) rfl) (fun v16 hF => ?_)
      refine r_iast hk (in_mo 5 (by decide)) (fun _ => rfl) hF (dtX4_isTerm_0 49 (86, .iastore, 1) rfl) (fun m17 hF => ?_)
      refine r_aload_n hk 0 (dtX4_isTerm_0 50 (87, .aload_n 0, 1) rfl) rfl ?_
      refine r_dup hk (dtX4_isTerm_0 51 (88, .dup, 1) rfl) rfl ?_
      refine r_getI hk (k := 7) (fsX4 X) cbX4 (by decide) fl_X4_95 (in_mo 0 (by decide)) (fun _ => rfl) (fun _ _ => rfl) hF (dtX4_isTerm_0 52 (89, .getfield 95, 3) rfl) (fun v18 hF => ?_)
      refine r_iconst (v := 1) hk (dtX4_isTerm_0 53 (92, .iconst 1, 1) rfl) (by decide) ?_
      refine r_iadd hk hF (dtX4_isTerm_0 54 (93, .iadd, 1) rfl) (fun v19 hF => ?_)
      refine r_putI hk (k := 7) (fsX4 X) cbX4 (by decide) fl_X4_95 (in_mo 0 (by decide)) (fun _ => rfl) rfl rfl (fun _ _ _ => rfl) (fun _ _ => (by decide : 7 < 11)) hF (dtX4_isTerm_0 55 (94, .putfield 95, 3) rfl) (fun m20 hF => ?_)
      refine r_aload_n hk 0 (dtX4_isTerm_0 56 (97, .aload_n 0, 1) rfl) rfl ?_
      refine r_bipush (v := 45) hk (dtX4_isTerm_0 57 (98, .bipush 45, 2) rfl) (by decide) ?_
      refine r_bipush (v := 45) hk (dtX4_isTerm_0 58 (100, .bipush 45, 2) rfl) (by decide) ?_
      refine r_callI hF (fun v21 h H locs ls hH hS hl => run_V (y := yX4_isAt) hk (in_mo 0 (by decide)) rfl rfl (c_X4_isAt (kl K) hk.2.2.2.2.2.2.2.2.2.2.2 X  45 45 m20 v21 h) lk_X4_102 me_X4_isAt yf_X4_isAt (by decide) (by decide) rfl (Nat.le_of_ble_eq_true rfl) rfl (dtX4_isTerm_0 59 (102, .invokevirtual 102, 3) rfl) hH hS hl) (fun v21 hF => ?_)
      refine r_istore_n hk [(1, .int v21), (0, .ref (xad X (3, 0, 0, 0)))] (dtX4_isTerm_0 60 (105, .istore_n 1, 1) rfl) (by decide) rfl ?_
      refine r_aload_n hk 1 (dtX4_isTerm_0 61 (106, .aload_n 0, 1) rfl) rfl ?_
      refine r_dup hk (dtX4_isTerm_0 62 (107, .dup, 1) rfl) rfl ?_
      refine r_getI hk (k := 7) (fsX4 X) cbX4 (by decide) fl_X4_95 (in_mo 0 (by decide)) (fun _ => rfl) (fun _ _ => rfl) hF (dtX4_isTerm_0 63 (108, .getfield 95, 3) rfl) (fun v22 hF => ?_)
      refine r_iload_n hk 0 (dtX4_isTerm_1 0 (111, .iload_n 1, 1) rfl) rfl ?_
      have j120_24 : ∀ (v23 : Int32), (J_X4_isTerm_120 m20 v21 v22) v23 = some (rv, mE) → G X K 120 [(0, .ref (xad X (3, 0, 0, 0))), (1, .int v21)] [.int v23, .int v22, .ref (xad X (3, 0, 0, 0))] m20 := by
        intro v23 hF
        unfold J_X4_isTerm_120 at hF
        refine r_iadd hk hF (dtX4_isTerm_1 5 (120, .iadd, 1) rfl) (fun v25 hF => ?_)
        refine r_putI hk (k := 7) (fsX4 X) cbX4 (by decide) fl_X4_95 (in_mo 0 (by decide)) (fun _ => rfl) rfl rfl (fun _ _ _ => rfl) (fun _ _ => (by decide : 7 < 11)) hF (dtX4_isTerm_1 6 (121, .putfield 95, 3) rfl) (fun m26 hF => ?_)
        refine r_aload_n hk 0 (dtX4_isTerm_1 7 (124, .aload_n 0, 1) rfl) rfl ?_
        refine r_bipush (v := 48) hk (dtX4_isTerm_1 8 (125, .bipush 48, 2) rfl) (by decide) ?_
        refine r_bipush (v := 57) hk (dtX4_isTerm_1 9 (127, .bipush 57, 2) rfl) (by decide) ?_
        refine r_callI hF (fun v27 h H locs ls hH hS hl => run_V (y := yX4_isAt) hk (in_mo 0 (by decide)) rfl rfl (c_X4_isAt (kl K) hk.2.2.2.2.2.2.2.2.2.2.2 X  48 57 m26 v27 h) lk_X4_102 me_X4_isAt yf_X4_isAt (by decide) (by decide) rfl (Nat.le_of_ble_eq_true rfl) rfl (dtX4_isTerm_1 10 (129, .invokevirtual 102, 3) rfl) hH hS hl) (fun v27 hF => ?_)
        refine r_if_ne hk 140 hF (dtX4_isTerm_1 11 (132, .ifCond .ne 8, 3) rfl) (by decide) (fun hF => ?_) (fun hF => ?_)
        · refine r_aload_n hk 0 (dtX4_isTerm_1 15 (140, .aload_n 0, 1) rfl) rfl ?_
          refine r_getR hk (k := 4) (fsX4 X) cbX4 (by decide) fl_X4_19 (in_mo 0 (by decide)) (fun _ => rfl) (fun _ _ => rfl) (dtX4_isTerm_1 16 (141, .getfield 19, 3) rfl) ?_
          refine r_aload_n hk 0 (dtX4_isTerm_1 17 (144, .aload_n 0, 1) rfl) rfl ?_
          refine r_getI hk (k := 7) (fsX4 X) cbX4 (by decide) fl_X4_95 (in_mo 0 (by decide)) (fun _ => rfl) (fun _ _ => rfl) hF (dtX4_isTerm_1 18 (145, .getfield 95, 3) rfl) (fun v28 hF => ?_)
          refine r_iald hk (in_mo 4 (by decide)) (fun _ => rfl) hF (dtX4_isTerm_1 19 (148, .iaload, 1) rfl) (fun v29 hF => ?_)
          refine r_bipush (v := 48) hk (dtX4_isTerm_1 20 (149, .bipush 48, 2) rfl) (by decide) ?_
          refine r_isub hk hF (dtX4_isTerm_1 21 (151, .isub, 1) rfl) (fun v30 hF => ?_)
          refine r_istore_n hk [(2, .int v30), (0, .ref (xad X (3, 0, 0, 0))), (1, .int v21)] (dtX4_isTerm_1 22 (152, .istore_n 2, 1) rfl) (by decide) rfl ?_
          refine r_aload_n hk 1 (dtX4_isTerm_1 23 (153, .aload_n 0, 1) rfl) rfl ?_
          refine r_dup hk (dtX4_isTerm_1 24 (154, .dup, 1) rfl) rfl ?_
          refine r_getI hk (k := 7) (fsX4 X) cbX4 (by decide) fl_X4_95 (in_mo 0 (by decide)) (fun _ => rfl) (fun _ _ => rfl) hF (dtX4_isTerm_1 25 (155, .getfield 95, 3) rfl) (fun v31 hF => ?_)
          refine r_iconst (v := 1) hk (dtX4_isTerm_1 26 (158, .iconst 1, 1) rfl) (by decide) ?_
          refine r_iadd hk hF (dtX4_isTerm_1 27 (159, .iadd, 1) rfl) (fun v32 hF => ?_)
          refine r_putI hk (k := 7) (fsX4 X) cbX4 (by decide) fl_X4_95 (in_mo 0 (by decide)) (fun _ => rfl) rfl rfl (fun _ _ _ => rfl) (fun _ _ => (by decide : 7 < 11)) hF (dtX4_isTerm_1 28 (160, .putfield 95, 3) rfl) (fun m33 hF => ?_)
          have e216_36 : ∀ (v34 : Int32) (m35 : Mem), (C_X4_isTerm_216 v21) v34 m35 = some (rv, mE) → G X K 216 [(0, .ref (xad X (3, 0, 0, 0))), (1, .int v21), (2, .int v34)] [] m35 := by
            intro v34 m35 hF
            unfold C_X4_isTerm_216 at hF
            refine r_aload_n hk 0 (dtX4_isTerm_1 58 (216, .aload_n 0, 1) rfl) rfl ?_
            refine r_getR hk (k := 9) (fsX4 X) cbX4 (by decide) fl_X4_22 (in_mo 0 (by decide)) (fun _ => rfl) (fun _ _ => rfl) (dtX4_isTerm_1 59 (217, .getfield 22, 3) rfl) ?_
            refine r_iconst (v := 3) hk (dtX4_isTerm_1 60 (220, .iconst 3, 1) rfl) (by decide) ?_
            refine r_aload_n hk 0 (dtX4_isTerm_1 61 (221, .aload_n 0, 1) rfl) rfl ?_
            refine r_getI hk (k := 10) (fsX4 X) cbX4 (by decide) fl_X4_109 (in_mo 0 (by decide)) (fun _ => rfl) (fun _ _ => rfl) hF (dtX4_isTerm_1 62 (222, .getfield 109, 3) rfl) (fun v37 hF => ?_)
            refine r_imul hk hF (dtX4_isTerm_1 63 (225, .imul, 1) rfl) (fun v38 hF => ?_)
            refine r_iconst (v := 2) hk (dtX4_isTerm_2 0 (226, .iconst 2, 1) rfl) (by decide) ?_
            refine r_iadd hk hF (dtX4_isTerm_2 1 (227, .iadd, 1) rfl) (fun v39 hF => ?_)
            refine r_iload_n hk 1 (dtX4_isTerm_2 2 (228, .iload_n 1, 1) rfl) rfl ?_
            have j238_41 : ∀ (v40 : Int32), (J_X4_isTerm_238 m35 v39) v40 = some (rv, mE) → G X K 238 [] [.int v40, .int v39, .ref (xad X (3, 0, 0, 5))] m35 := by
              intro v40 hF
              unfold J_X4_isTerm_238 at hF
              refine r_iast hk (in_mo 5 (by decide)) (fun _ => rfl) hF (dtX4_isTerm_2 8 (238, .iastore, 1) rfl) (fun m42 hF => ?_)
              refine r_iconst (v := 1) hk (dtX4_isTerm_2 9 (239, .iconst 1, 1) rfl) (by decide) ?_
              obtain ⟨hz, hF⟩ := ck_some hF
              cases Option.some.inj hF
              exact hR _ _ hz (dtX4_isTerm_2 10 (240, .ireturn, 1) rfl)
            refine r_if_eq hk 237 hF (dtX4_isTerm_2 3 (229, .ifCond .eq 8, 3) rfl) (by decide) (fun hF => ?_) (fun hF => ?_)
            · refine r_iload_n hk 2 (dtX4_isTerm_2 7 (237, .iload_n 2, 1) rfl) rfl ?_
              exact r_sub hk [] rfl (j238_41 v34 hF)
            · refine r_iload_n hk 2 (dtX4_isTerm_2 4 (232, .iload_n 2, 1) rfl) rfl ?_
              refine r_ineg hk hF (dtX4_isTerm_2 5 (233, .ineg, 1) rfl) (fun v43 hF => ?_)
              refine r_goto hk 238 (dtX4_isTerm_2 6 (234, .goto 4, 3) rfl) (by decide) ?_
              exact r_sub hk [] rfl (j238_41 v43 hF)
          have l47 : ∀ (n47 : Nat) (v44 : Int32) (m45 : Mem), L_X4_isTerm_163 v21 n47 v44 m45 = some (rv, mE) → G X K 163 [(0, .ref (xad X (3, 0, 0, 0))), (1, .int v21), (2, .int v44)] [] m45 := by
            intro n47
            induction n47 with
            | zero => intro v44 m45 hF; exact nomatch (show (none : Option (Int32 × Mem)) = some (rv, mE) from hF)
            | succ n47 ih47 =>
              intro v44 m45 hF
              rw [L_X4_isTerm_163] at hF
              refine r_iload_n hk 2 (dtX4_isTerm_1 29 (163, .iload_n 2, 1) rfl) rfl ?_
              refine r_if_le hk 216 hF (dtX4_isTerm_1 30 (164, .ifCond .le 52, 3) rfl) (by decide) (fun hF => ?_) (fun hF => ?_)
              · exact r_sub hk [0, 1, 2] rfl (e216_36 v44 m45 hF)
              · refine r_iload_n hk 2 (dtX4_isTerm_1 31 (167, .iload_n 2, 1) rfl) rfl ?_
                refine r_sipush (v := 1000) hk (dtX4_isTerm_1 32 (168, .sipush 1000, 3) rfl) (by decide) ?_
                refine r_icmp_ge hk 216 hF (dtX4_isTerm_1 33 (171, .if_icmp .ge 45, 3) rfl) (by decide) (fun hF => ?_) (fun hF => ?_)
                · exact r_sub hk [0, 1, 2] rfl (e216_36 v44 m45 hF)
                · refine r_aload_n hk 0 (dtX4_isTerm_1 34 (174, .aload_n 0, 1) rfl) rfl ?_
                  refine r_bipush (v := 48) hk (dtX4_isTerm_1 35 (175, .bipush 48, 2) rfl) (by decide) ?_
                  refine r_bipush (v := 57) hk (dtX4_isTerm_1 36 (177, .bipush 57, 2) rfl) (by decide) ?_
                  refine r_callI hF (fun v48 h H locs ls hH hS hl => run_V (y := yX4_isAt) hk (in_mo 0 (by decide)) rfl rfl (c_X4_isAt (kl K) hk.2.2.2.2.2.2.2.2.2.2.2 X  48 57 m45 v48 h) lk_X4_102 me_X4_isAt yf_X4_isAt (by decide) (by decide) rfl (Nat.le_of_ble_eq_true rfl) rfl (dtX4_isTerm_1 37 (179, .invokevirtual 102, 3) rfl) hH hS hl) (fun v48 hF => ?_)
                  refine r_if_eq hk 216 hF (dtX4_isTerm_1 38 (182, .ifCond .eq 34, 3) rfl) (by decide) (fun hF => ?_) (fun hF => ?_)
                  · exact r_sub hk [0, 1, 2] rfl (e216_36 v44 m45 hF)
                  · refine r_bipush (v := 10) hk (dtX4_isTerm_1 39 (185, .bipush 10, 2) rfl) (by decide) ?_
                    refine r_iload_n hk 2 (dtX4_isTerm_1 40 (187, .iload_n 2, 1) rfl) rfl ?_
                    refine r_imul hk hF (dtX4_isTerm_1 41 (188, .imul, 1) rfl) (fun v49 hF => ?_)
                    refine r_aload_n hk 0 (dtX4_isTerm_1 42 (189, .aload_n 0, 1) rfl) rfl ?_
                    refine r_getR hk (k := 4) (fsX4 X) cbX4 (by decide) fl_X4_19 (in_mo 0 (by decide)) (fun _ => rfl) (fun _ _ => rfl) (dtX4_isTerm_1 43 (190, .getfield 19, 3) rfl) ?_
                    refine r_aload_n hk 0 (dtX4_isTerm_1 44 (193, .aload_n 0, 1) rfl) rfl ?_
                    refine r_getI hk (k := 7) (fsX4 X) cbX4 (by decide) fl_X4_95 (in_mo 0 (by decide)) (fun _ => rfl) (fun _ _ => rfl) hF (dtX4_isTerm_1 45 (194, .getfield 95, 3) rfl) (fun v50 hF => ?_)
                    refine r_iald hk (in_mo 4 (by decide)) (fun _ => rfl) hF (dtX4_isTerm_1 46 (197, .iaload, 1) rfl) (fun v51 hF => ?_)
                    refine r_iadd hk hF (dtX4_isTerm_1 47 (198, .iadd, 1) rfl) (fun v52 hF => ?_)
                    refine r_bipush (v := 48) hk (dtX4_isTerm_1 48 (199, .bipush 48, 2) rfl) (by decide) ?_
                    refine r_isub hk hF (dtX4_isTerm_1 49 (201, .isub, 1) rfl) (fun v53 hF => ?_)
                    refine r_istore_n hk [(2, .int v53), (0, .ref (xad X (3, 0, 0, 0))), (1, .int v21)] (dtX4_isTerm_1 50 (202, .istore_n 2, 1) rfl) (by decide) rfl ?_
                    refine r_aload_n hk 1 (dtX4_isTerm_1 51 (203, .aload_n 0, 1) rfl) rfl ?_
                    refine r_dup hk (dtX4_isTerm_1 52 (204, .dup, 1) rfl) rfl ?_
                    refine r_getI hk (k := 7) (fsX4 X) cbX4 (by decide) fl_X4_95 (in_mo 0 (by decide)) (fun _ => rfl) (fun _ _ => rfl) hF (dtX4_isTerm_1 53 (205, .getfield 95, 3) rfl) (fun v54 hF => ?_)
                    refine r_iconst (v := 1) hk (dtX4_isTerm_1 54 (208, .iconst 1, 1) rfl) (by decide) ?_
                    refine r_iadd hk hF (dtX4_isTerm_1 55 (209, .iadd, 1) rfl) (fun v55 hF => ?_)
                    refine r_putI hk (k := 7) (fsX4 X) cbX4 (by decide) fl_X4_95 (in_mo 0 (by decide)) (fun _ => rfl) rfl rfl (fun _ _ _ => rfl) (fun _ _ => (by decide : 7 < 11)) hF (dtX4_isTerm_1 56 (210, .putfield 95, 3) rfl) (fun m56 hF => ?_)
                    refine r_goto hk 163 (dtX4_isTerm_1 57 (213, .goto (-50), 3) rfl) (by decide) ?_
                    exact r_sub hk [1, 2, 0] rfl (ih47 v53 m56 hF)
          exact r_sub hk [1, 2, 0] rfl (l47 fu v30 m33 hF)
        · refine r_aload_n hk 0 (dtX4_isTerm_1 12 (135, .aload_n 0, 1) rfl) rfl ?_
          refine r_callIm hF (fun v57 m58 h H locs ls hH hS hl => run_V (y := yX4_stops) hk (in_mo 0 (by decide)) rfl rfl (c_X4_stops (kl K) hk.2.2.2.2.2.2.2.2.2.2.2 X   m26 v57 m58 h) lk_X4_105 me_X4_stops yf_X4_stops (by decide) (by decide) rfl (Nat.le_of_ble_eq_true rfl) rfl (dtX4_isTerm_1 13 (136, .invokevirtual 105, 3) rfl) hH hS hl) (fun v57 m58 hF => ?_)
          obtain ⟨hz, hF⟩ := ck_some hF
          cases Option.some.inj hF
          exact hR _ _ hz (dtX4_isTerm_1 14 (139, .ireturn, 1) rfl)
      refine r_if_eq hk 119 hF (dtX4_isTerm_1 1 (112, .ifCond .eq 7, 3) rfl) (by decide) (fun hF => ?_) (fun hF => ?_)
      · refine r_iconst (v := 0) hk (dtX4_isTerm_1 4 (119, .iconst 0, 1) rfl) (by decide) ?_
        exact r_sub hk [1, 0] rfl (j120_24 0 hF)
      · refine r_iconst (v := 1) hk (dtX4_isTerm_1 2 (115, .iconst 1, 1) rfl) (by decide) ?_
        refine r_goto hk 120 (dtX4_isTerm_1 3 (116, .goto 4, 3) rfl) (by decide) ?_
        exact r_sub hk [1, 0] rfl (j120_24 1 hF)
    · refine r_aload_n hk 0 (dtX4_isTerm_0 33 (60, .aload_n 0, 1) rfl) rfl ?_
      refine r_callIm hF (fun v59 m60 h H locs ls hH hS hl => run_V (y := yX4_stops) hk (in_mo 0 (by decide)) rfl rfl (c_X4_stops (kl K) hk.2.2.2.2.2.2.2.2.2.2.2 X   m10 v59 m60 h) lk_X4_105 me_X4_stops yf_X4_stops (by decide) (by decide) rfl (Nat.le_of_ble_eq_true rfl) rfl (dtX4_isTerm_0 34 (61, .invokevirtual 105, 3) rfl) hH hS hl) (fun v59 m60 hF => ?_)
      obtain ⟨hz, hF⟩ := ck_some hF
      cases Option.some.inj hF
      exact hR _ _ hz (dtX4_isTerm_0 35 (64, .ireturn, 1) rfl)
  · refine r_aload_n hk 0 (dtX4_isTerm_0 5 (11, .aload_n 0, 1) rfl) rfl ?_
    refine r_callIm hF (fun v61 m62 h H locs ls hH hS hl => run_V (y := yX4_stops) hk (in_mo 0 (by decide)) rfl rfl (c_X4_stops (kl K) hk.2.2.2.2.2.2.2.2.2.2.2 X   m0 v61 m62 h) lk_X4_105 me_X4_stops yf_X4_stops (by decide) (by decide) rfl (Nat.le_of_ble_eq_true rfl) rfl (dtX4_isTerm_0 6 (12, .invokevirtual 105, 3) rfl) hH hS hl) (fun v61 m62 hF => ?_)
    obtain ⟨hz, hF⟩ := ck_some hF
    cases Option.some.inj hF
    exact hR _ _ hz (dtX4_isTerm_0 7 (15, .ireturn, 1) rfl)
set_option maxHeartbeats 4000000 in
set_option maxRecDepth 100000 in
theorem c_X4_isText (l : Launch) (hlf : l.stackTraces = false) (X : XW)   (m0 : Mem) (rv : Int32) (mE : Mem) (hF : F_X4_isText m0 = some (rv, mE)) : MX X l yX4_isText cX4_isText 2 (some .boolean) 3 [.ref (xad X (3, 0, 0, 0))] m0 (QI X rv mE) := by
  refine startZ hlf (by decide +kernel) rfl [(0, .ref (xad X (3, 0, 0, 0)))] rfl (Nat.le_of_ble_eq_true rfl) (fun K hk hR => ?_)
  unfold F_X4_isText at hF
  refine r_aload_n hk 0 (dtX4_isText_0 0 (0, .aload_n 0, 1) rfl) rfl ?_
  refine r_iconst (v := 0) hk (dtX4_isText_0 1 (1, .iconst 0, 1) rfl) (by decide) ?_
  refine r_putI hk (k := 7) (fsX4 X) cbX4 (by decide) fl_X4_95 (in_mo 0 (by decide)) (fun _ => rfl) rfl rfl (fun _ _ _ => rfl) (fun _ _ => (by decide : 7 < 11)) hF (dtX4_isText_0 2 (2, .putfield 95, 3) rfl) (fun m1 hF => ?_)
  refine r_aload_n hk 0 (dtX4_isText_0 3 (5, .aload_n 0, 1) rfl) rfl ?_
  refine r_iconst (v := 0) hk (dtX4_isText_0 4 (6, .iconst 0, 1) rfl) (by decide) ?_
  refine r_putI hk (k := 10) (fsX4 X) cbX4 (by decide) fl_X4_109 (in_mo 0 (by decide)) (fun _ => rfl) rfl rfl (fun _ _ _ => rfl) (fun _ _ => (by decide : 10 < 11)) hF (dtX4_isText_0 5 (7, .putfield 109, 3) rfl) (fun m2 hF => ?_)
  refine r_aload_n hk 0 (dtX4_isText_0 6 (10, .aload_n 0, 1) rfl) rfl ?_
  refine r_iconst (v := 0) hk (dtX4_isText_0 7 (11, .iconst 0, 1) rfl) (by decide) ?_
  refine r_putZ hk (k := 8) (fsX4 X) cbX4 (by decide) fl_X4_98 (in_mo 0 (by decide)) (fun _ => rfl) rfl rfl (fun _ _ _ => rfl) (fun _ _ => (by decide : 8 < 11)) hF (dtX4_isText_0 8 (12, .putfield 98, 3) rfl) (fun m3 hF => ?_)
  refine r_iconst (v := 1) hk (dtX4_isText_0 9 (15, .iconst 1, 1) rfl) (by decide) ?_
  refine r_istore_n hk [(1, .int 1), (0, .ref (xad X (3, 0, 0, 0)))] (dtX4_isText_0 10 (16, .istore_n 1, 1) rfl) (by decide) rfl ?_
  have e70_5 : ∀ (m4 : Mem), C_X4_isText_70 m4 = some (rv, mE) → G X K 70 [(0, .ref (xad X (3, 0, 0, 0)))] [] m4 := by
    intro m4 hF
    unfold C_X4_isText_70 at hF
    refine r_aload_n hk 0 (dtX4_isText_0 40 (70, .aload_n 0, 1) rfl) rfl ?_
    refine r_aload_n hk 0 (dtX4_isText_0 41 (71, .aload_n 0, 1) rfl) rfl ?_
    refine r_getI hk (k := 7) (fsX4 X) cbX4 (by decide) fl_X4_95 (in_mo 0 (by decide)) (fun _ => rfl) (fun _ _ => rfl) hF (dtX4_isText_0 42 (72, .getfield 95, 3) rfl) (fun v6 hF => ?_)
    refine r_aload_n hk 0 (dtX4_isText_0 43 (75, .aload_n 0, 1) rfl) rfl ?_
    refine r_getI hk (k := 5) (fsX4 X) cbX4 (by decide) fl_X4_92 (in_mo 0 (by decide)) (fun _ => rfl) (fun _ _ => rfl) hF (dtX4_isText_0 44 (76, .getfield 92, 3) rfl) (fun v7 hF => ?_)
    have j87_9 : ∀ (v8 : Int32), (J_X4_isText_87 m4) v8 = some (rv, mE) → G X K 87 [(0, .ref (xad X (3, 0, 0, 0)))] [.int v8, .ref (xad X (3, 0, 0, 0))] m4 := by
      intro v8 hF
      unfold J_X4_isText_87 at hF
      refine r_putZ hk (k := 8) (fsX4 X) cbX4 (by decide) fl_X4_98 (in_mo 0 (by decide)) (fun _ => rfl) rfl rfl (fun _ _ _ => rfl) (fun _ _ => (by decide : 8 < 11)) hF (dtX4_isText_0 49 (87, .putfield 98, 3) rfl) (fun m10 hF => ?_)
      refine r_aload_n hk 0 (dtX4_isText_0 50 (90, .aload_n 0, 1) rfl) rfl ?_
      refine r_getI hk (k := 7) (fsX4 X) cbX4 (by decide) fl_X4_95 (in_mo 0 (by decide)) (fun _ => rfl) (fun _ _ => rfl) hF (dtX4_isText_0 51 (91, .getfield 95, 3) rfl) (fun v11 hF => ?_)
      refine r_aload_n hk 0 (dtX4_isText_0 52 (94, .aload_n 0, 1) rfl) rfl ?_
      refine r_getI hk (k := 5) (fsX4 X) cbX4 (by decide) fl_X4_92 (in_mo 0 (by decide)) (fun _ => rfl) (fun _ _ => rfl) hF (dtX4_isText_0 53 (95, .getfield 92, 3) rfl) (fun v12 hF => ?_)
      have j106_14 : ∀ (v13 : Int32), (J_X4_isText_106 m10) v13 = some (rv, mE) → G X K 106 [] [.int v13] m10 := by
        intro v13 hF
        unfold J_X4_isText_106 at hF
        obtain ⟨hz, hF⟩ := ck_some hF
        cases Option.some.inj hF
        exact hR _ _ hz (dtX4_isText_0 58 (106, .ireturn, 1) rfl)
      refine r_icmp_ne hk 105 hF (dtX4_isText_0 54 (98, .if_icmp .ne 7, 3) rfl) (by decide) (fun hF => ?_) (fun hF => ?_)
      · refine r_iconst (v := 0) hk (dtX4_isText_0 57 (105, .iconst 0, 1) rfl) (by decide) ?_
        exact r_sub hk [] rfl (j106_14 0 hF)
      · refine r_iconst (v := 1) hk (dtX4_isText_0 55 (101, .iconst 1, 1) rfl) (by decide) ?_
        refine r_goto hk 106 (dtX4_isText_0 56 (102, .goto 4, 3) rfl) (by decide) ?_
        exact r_sub hk [] rfl (j106_14 1 hF)
    refine r_icmp_ge hk 86 hF (dtX4_isText_0 45 (79, .if_icmp .ge 7, 3) rfl) (by decide) (fun hF => ?_) (fun hF => ?_)
    · refine r_iconst (v := 0) hk (dtX4_isText_0 48 (86, .iconst 0, 1) rfl) (by decide) ?_
      exact r_sub hk [0] rfl (j87_9 0 hF)
    · refine r_iconst (v := 1) hk (dtX4_isText_0 46 (82, .iconst 1, 1) rfl) (by decide) ?_
      refine r_goto hk 87 (dtX4_isText_0 47 (83, .goto 4, 3) rfl) (by decide) ?_
      exact r_sub hk [0] rfl (j87_9 1 hF)
  have l18 : ∀ (n18 : Nat) (v15 : Int32) (m16 : Mem), L_X4_isText_17 n18 v15 m16 = some (rv, mE) → G X K 17 [(0, .ref (xad X (3, 0, 0, 0))), (1, .int v15)] [] m16 := by
    intro n18
    induction n18 with
    | zero => intro v15 m16 hF; exact nomatch (show (none : Option (Int32 × Mem)) = some (rv, mE) from hF)
    | succ n18 ih18 =>
      intro v15 m16 hF
      rw [L_X4_isText_17] at hF
      refine r_iload_n hk 1 (dtX4_isText_0 11 (17, .iload_n 1, 1) rfl) rfl ?_
      refine r_if_eq hk 70 hF (dtX4_isText_0 12 (18, .ifCond .eq 52, 3) rfl) (by decide) (fun hF => ?_) (fun hF => ?_)
      · exact r_sub hk [0] rfl (e70_5 m16 hF)
      · refine r_aload_n hk 0 (dtX4_isText_0 13 (21, .aload_n 0, 1) rfl) rfl ?_
        refine r_callIm hF (fun v19 m20 h H locs ls hH hS hl => run_V (y := yX4_isTerm) hk (in_mo 0 (by decide)) rfl rfl (c_X4_isTerm (kl K) hk.2.2.2.2.2.2.2.2.2.2.2 X   m16 v19 m20 h) lk_X4_112 me_X4_isTerm yf_X4_isTerm (by decide) (by decide) rfl (Nat.le_of_ble_eq_true rfl) rfl (dtX4_isText_0 14 (22, .invokevirtual 112, 3) rfl) hH hS hl) (fun v19 m20 hF => ?_)
        refine r_if_ne hk 30 hF (dtX4_isText_0 15 (25, .ifCond .ne 5, 3) rfl) (by decide) (fun hF => ?_) (fun hF => ?_)
        · refine r_aload_n hk 0 (dtX4_isText_0 18 (30, .aload_n 0, 1) rfl) rfl ?_
          refine r_dup hk (dtX4_isText_0 19 (31, .dup, 1) rfl) rfl ?_
          refine r_getI hk (k := 10) (fsX4 X) cbX4 (by decide) fl_X4_109 (in_mo 0 (by decide)) (fun _ => rfl) (fun _ _ => rfl) hF (dtX4_isText_0 20 (32, .getfield 109, 3) rfl) (fun v21 hF => ?_)
          refine r_iconst (v := 1) hk (dtX4_isText_0 21 (35, .iconst 1, 1) rfl) (by decide) ?_
          refine r_iadd hk hF (dtX4_isText_0 22 (36, .iadd, 1) rfl) (fun v22 hF => ?_)
          refine r_putI hk (k := 10) (fsX4 X) cbX4 (by decide) fl_X4_109 (in_mo 0 (by decide)) (fun _ => rfl) rfl rfl (fun _ _ _ => rfl) (fun _ _ => (by decide : 10 < 11)) hF (dtX4_isText_0 23 (37, .putfield 109, 3) rfl) (fun m23 hF => ?_)
          refine r_aload_n hk 0 (dtX4_isText_0 24 (40, .aload_n 0, 1) rfl) rfl ?_
          refine r_bipush (v := 38) hk (dtX4_isText_0 25 (41, .bipush 38, 2) rfl) (by decide) ?_
          refine r_bipush (v := 38) hk (dtX4_isText_0 26 (43, .bipush 38, 2) rfl) (by decide) ?_
          refine r_callI hF (fun v24 h H locs ls hH hS hl => run_V (y := yX4_isAt) hk (in_mo 0 (by decide)) rfl rfl (c_X4_isAt (kl K) hk.2.2.2.2.2.2.2.2.2.2.2 X  38 38 m23 v24 h) lk_X4_102 me_X4_isAt yf_X4_isAt (by decide) (by decide) rfl (Nat.le_of_ble_eq_true rfl) rfl (dtX4_isText_0 27 (45, .invokevirtual 102, 3) rfl) hH hS hl) (fun v24 hF => ?_)
          refine r_istore_n hk [(1, .int v24), (0, .ref (xad X (3, 0, 0, 0)))] (dtX4_isText_0 28 (48, .istore_n 1, 1) rfl) (by decide) rfl ?_
          refine r_aload_n hk 1 (dtX4_isText_0 29 (49, .aload_n 0, 1) rfl) rfl ?_
          refine r_dup hk (dtX4_isText_0 30 (50, .dup, 1) rfl) rfl ?_
          refine r_getI hk (k := 7) (fsX4 X) cbX4 (by decide) fl_X4_95 (in_mo 0 (by decide)) (fun _ => rfl) (fun _ _ => rfl) hF (dtX4_isText_0 31 (51, .getfield 95, 3) rfl) (fun v25 hF => ?_)
          refine r_iload_n hk 0 (dtX4_isText_0 32 (54, .iload_n 1, 1) rfl) rfl ?_
          have j63_27 : ∀ (v26 : Int32), (J_X4_isText_63 (fun w0 w1 => L_X4_isText_17 n18 w0 w1) m23 v24 v25) v26 = some (rv, mE) → G X K 63 [(0, .ref (xad X (3, 0, 0, 0))), (1, .int v24)] [.int v26, .int v25, .ref (xad X (3, 0, 0, 0))] m23 := by
            intro v26 hF
            unfold J_X4_isText_63 at hF
            refine r_iadd hk hF (dtX4_isText_0 37 (63, .iadd, 1) rfl) (fun v28 hF => ?_)
            refine r_putI hk (k := 7) (fsX4 X) cbX4 (by decide) fl_X4_95 (in_mo 0 (by decide)) (fun _ => rfl) rfl rfl (fun _ _ _ => rfl) (fun _ _ => (by decide : 7 < 11)) hF (dtX4_isText_0 38 (64, .putfield 95, 3) rfl) (fun m29 hF => ?_)
            refine r_goto hk 17 (dtX4_isText_0 39 (67, .goto (-50), 3) rfl) (by decide) ?_
            exact r_sub hk [0, 1] rfl (ih18 v24 m29 hF)
          refine r_if_eq hk 62 hF (dtX4_isText_0 33 (55, .ifCond .eq 7, 3) rfl) (by decide) (fun hF => ?_) (fun hF => ?_)
          · refine r_iconst (v := 0) hk (dtX4_isText_0 36 (62, .iconst 0, 1) rfl) (by decide) ?_
            exact r_sub hk [1, 0] rfl (j63_27 0 hF)
          · refine r_iconst (v := 1) hk (dtX4_isText_0 34 (58, .iconst 1, 1) rfl) (by decide) ?_
            refine r_goto hk 63 (dtX4_isText_0 35 (59, .goto 4, 3) rfl) (by decide) ?_
            exact r_sub hk [1, 0] rfl (j63_27 1 hF)
        · refine r_iconst (v := 0) hk (dtX4_isText_0 16 (28, .iconst 0, 1) rfl) (by decide) ?_
          obtain ⟨hz, hF⟩ := ck_some hF
          cases Option.some.inj hF
          exact hR _ _ hz (dtX4_isText_0 17 (29, .ireturn, 1) rfl)
  exact r_sub hk [1, 0] rfl (l18 fu 1 m3 hF)
set_option maxHeartbeats 4000000 in
set_option maxRecDepth 100000 in
theorem c_X4_firstError (l : Launch) (hlf : l.stackTraces = false) (X : XW)   (m0 : Mem) (rv : Int32) (mE : Mem) (hF : F_X4_firstError m0 = some (rv, mE)) : MX X l yX4_firstError cX4_firstError 2 (some .int) 4 [.ref (xad X (3, 0, 0, 0))] m0 (QI X rv mE) := by
  refine startI hlf (by decide +kernel) rfl [(0, .ref (xad X (3, 0, 0, 0)))] rfl (Nat.le_of_ble_eq_true rfl) (fun K hk hR => ?_)
  unfold F_X4_firstError at hF
  refine r_aload_n hk 0 (dtX4_firstError_0 0 (0, .aload_n 0, 1) rfl) rfl ?_
  refine r_iconst (v := 0) hk (dtX4_firstError_0 1 (1, .iconst 0, 1) rfl) (by decide) ?_
  refine r_putI hk (k := 6) (fsX4 X) cbX4 (by decide) fl_X4_25 (in_mo 0 (by decide)) (fun _ => rfl) rfl rfl (fun _ _ _ => rfl) (fun _ _ => (by decide : 6 < 11)) hF (dtX4_firstError_0 2 (2, .putfield 25, 3) rfl) (fun m1 hF => ?_)
  refine r_aload_n hk 0 (dtX4_firstError_0 3 (5, .aload_n 0, 1) rfl) rfl ?_
  refine r_callIm hF (fun v2 m3 h H locs ls hH hS hl => run_V (y := yX4_isText) hk (in_mo 0 (by decide)) rfl rfl (c_X4_isText (kl K) hk.2.2.2.2.2.2.2.2.2.2.2 X   m1 v2 m3 h) lk_X4_115 me_X4_isText yf_X4_isText (by decide) (by decide) rfl (Nat.le_of_ble_eq_true rfl) rfl (dtX4_firstError_0 4 (6, .invokevirtual 115, 3) rfl) hH hS hl) (fun v2 m3 hF => ?_)
  refine r_istore_n hk [(1, .int v2), (0, .ref (xad X (3, 0, 0, 0)))] (dtX4_firstError_0 5 (9, .istore_n 1, 1) rfl) (by decide) rfl ?_
  refine r_iload_n hk 0 (dtX4_firstError_0 6 (10, .iload_n 1, 1) rfl) rfl ?_
  have j32_5 : ∀ (v4 : Int32), (J_X4_firstError_32 m3) v4 = some (rv, mE) → G X K 32 [] [.int v4] m3 := by
    intro v4 hF
    unfold J_X4_firstError_32 at hF
    cases Option.some.inj hF
    exact hR _ _ (dtX4_firstError_0 16 (32, .ireturn, 1) rfl)
  have j28_6 : (J_X4_firstError_28 m3) = some (rv, mE) → G X K 28 [(0, .ref (xad X (3, 0, 0, 0)))] [] m3 := by
    intro hF
    unfold J_X4_firstError_28 at hF
    refine r_aload_n hk 0 (dtX4_firstError_0 14 (28, .aload_n 0, 1) rfl) rfl ?_
    refine r_getI hk (k := 5) (fsX4 X) cbX4 (by decide) fl_X4_92 (in_mo 0 (by decide)) (fun _ => rfl) (fun _ _ => rfl) hF (dtX4_firstError_0 15 (29, .getfield 92, 3) rfl) (fun v7 hF => ?_)
    exact r_sub hk [] rfl (j32_5 v7 hF)
  refine r_if_ne hk 28 hF (dtX4_firstError_0 7 (11, .ifCond .ne 17, 3) rfl) (by decide) (fun hF => ?_) (fun hF => ?_)
  · exact r_sub hk [1] rfl (j28_6 hF)
  · refine r_aload_n hk 1 (dtX4_firstError_0 8 (14, .aload_n 0, 1) rfl) rfl ?_
    refine r_getI hk (k := 8) (fsX4 X) cbX4 (by decide) fl_X4_98 (in_mo 0 (by decide)) (fun _ => rfl) (fun _ _ => rfl) hF (dtX4_firstError_0 9 (15, .getfield 98, 3) rfl) (fun v8 hF => ?_)
    refine r_if_eq hk 28 hF (dtX4_firstError_0 10 (18, .ifCond .eq 10, 3) rfl) (by decide) (fun hF => ?_) (fun hF => ?_)
    · exact r_sub hk [1] rfl (j28_6 hF)
    · refine r_aload_n hk 1 (dtX4_firstError_0 11 (21, .aload_n 0, 1) rfl) rfl ?_
      refine r_getI hk (k := 7) (fsX4 X) cbX4 (by decide) fl_X4_95 (in_mo 0 (by decide)) (fun _ => rfl) (fun _ _ => rfl) hF (dtX4_firstError_0 12 (22, .getfield 95, 3) rfl) (fun v9 hF => ?_)
      refine r_goto hk 32 (dtX4_firstError_0 13 (25, .goto 7, 3) rfl) (by decide) ?_
      exact r_sub hk [] rfl (j32_5 v9 hF)
set_option maxHeartbeats 4000000 in
set_option maxRecDepth 100000 in
theorem c_X4_valueOf (l : Launch) (hlf : l.stackTraces = false) (X : XW)  (p1 : Int32) (p2 : Int32) (m0 : Mem) (rv : Int32) (hF : F_X4_valueOf p1 p2 m0 = some rv) : MX X l yX4_valueOf cX4_valueOf 3 (some .int) 0 [.ref (xad X (3, 0, 0, 0)), .int p1, .int p2] m0 (QI X rv m0) := by
  refine startI hlf (by decide +kernel) rfl [(0, .ref (xad X (3, 0, 0, 0))), (1, .int p1), (2, .int p2)] rfl (Nat.le_of_ble_eq_true rfl) (fun K hk hR => ?_)
  unfold F_X4_valueOf at hF
  refine r_iload_n hk 2 (dtX4_valueOf_0 0 (0, .iload_n 2, 1) rfl) rfl ?_
  refine r_iconst (v := (-1)) hk (dtX4_valueOf_0 1 (1, .iconst (-1), 1) rfl) (by decide) ?_
  have j23_2 : ∀ (v1 : Int32), J_X4_valueOf_23 v1 = some rv → G X K 23 [] [.int v1] m0 := by
    intro v1 hF
    unfold J_X4_valueOf_23 at hF
    cases Option.some.inj hF
    exact hR _ _ (dtX4_valueOf_0 15 (23, .ireturn, 1) rfl)
  refine r_icmp_ne hk 10 hF (dtX4_valueOf_0 2 (2, .if_icmp .ne 8, 3) rfl) (by decide) (fun hF => ?_) (fun hF => ?_)
  · refine r_aload_n hk 0 (dtX4_valueOf_0 5 (10, .aload_n 0, 1) rfl) rfl ?_
    refine r_getR hk (k := 0) (fsX4 X) cbX4 (by decide) fl_X4_7 (in_mo 0 (by decide)) (fun _ => rfl) (fun _ _ => rfl) (dtX4_valueOf_0 6 (11, .getfield 7, 3) rfl) ?_
    refine r_bipush (v := 9) hk (dtX4_valueOf_0 7 (14, .bipush 9, 2) rfl) (by decide) ?_
    refine r_iload_n hk 1 (dtX4_valueOf_0 8 (16, .iload_n 1, 1) rfl) rfl ?_
    refine r_imul hk hF (dtX4_valueOf_0 9 (17, .imul, 1) rfl) (fun v3 hF => ?_)
    refine r_iconst (v := 1) hk (dtX4_valueOf_0 10 (18, .iconst 1, 1) rfl) (by decide) ?_
    refine r_iadd hk hF (dtX4_valueOf_0 11 (19, .iadd, 1) rfl) (fun v4 hF => ?_)
    refine r_iload_n hk 2 (dtX4_valueOf_0 12 (20, .iload_n 2, 1) rfl) rfl ?_
    refine r_iadd hk hF (dtX4_valueOf_0 13 (21, .iadd, 1) rfl) (fun v5 hF => ?_)
    refine r_iald hk (in_mo 1 (by decide)) (fun _ => rfl) hF (dtX4_valueOf_0 14 (22, .iaload, 1) rfl) (fun v6 hF => ?_)
    exact r_sub hk [] rfl (j23_2 v6 hF)
  · refine r_ldc hk cn_X4_33 (dtX4_valueOf_0 3 (5, .ldc 33, 2) rfl) ?_
    refine r_goto hk 23 (dtX4_valueOf_0 4 (7, .goto 16, 3) rfl) (by decide) ?_
    exact r_sub hk [] rfl (j23_2 (-100000) hF)
set_option maxHeartbeats 4000000 in
set_option maxRecDepth 100000 in
theorem c_X4_isAnswer (l : Launch) (hlf : l.stackTraces = false) (X : XW)  (p1 : Int32) (p2 : Int32) (m0 : Mem) (rv : Int32) (hF : F_X4_isAnswer p1 p2 m0 = some rv) : MX X l yX4_isAnswer cX4_isAnswer 8 (some .boolean) 1 [.ref (xad X (3, 0, 0, 0)), .int p1, .int p2] m0 (QI X rv m0) := by
  refine startZ hlf (by decide +kernel) rfl [(0, .ref (xad X (3, 0, 0, 0))), (1, .int p1), (2, .int p2)] rfl (Nat.le_of_ble_eq_true rfl) (fun K hk hR => ?_)
  unfold F_X4_isAnswer at hF
  refine r_aload_n hk 0 (dtX4_isAnswer_0 0 (0, .aload_n 0, 1) rfl) rfl ?_
  refine r_iload_n hk 2 (dtX4_isAnswer_0 1 (1, .iload_n 2, 1) rfl) rfl ?_
  refine r_callI hF (fun v1 h H locs ls hH hS hl => run_V (y := yX4_tenantOf) hk (in_mo 0 (by decide)) rfl rfl (c_X4_tenantOf (kl K) hk.2.2.2.2.2.2.2.2.2.2.2 X  p2 m0 v1 h) lk_X4_41 me_X4_tenantOf yf_X4_tenantOf (by decide) (by decide) rfl (Nat.le_of_ble_eq_true rfl) rfl (dtX4_isAnswer_0 2 (2, .invokevirtual 41, 3) rfl) hH hS hl) (fun v1 hF => ?_)
  refine r_iload_n hk 1 (dtX4_isAnswer_0 3 (5, .iload_n 1, 1) rfl) rfl ?_
  have j14_3 : ∀ (v2 : Int32), (J_X4_isAnswer_14 p1 p2 m0) v2 = some rv → G X K 14 [(0, .ref (xad X (3, 0, 0, 0))), (1, .int p1), (2, .int p2)] [.int v2] m0 := by
    intro v2 hF
    unfold J_X4_isAnswer_14 at hF
    refine r_istore_n hk [(3, .int v2), (0, .ref (xad X (3, 0, 0, 0))), (1, .int p1), (2, .int p2)] (dtX4_isAnswer_0 8 (14, .istore_n 3, 1) rfl) (by decide) rfl ?_
    refine r_iconst (v := 0) hk (dtX4_isAnswer_0 9 (15, .iconst 0, 1) rfl) (by decide) ?_
    refine r_istore hk [(4, .int 0), (3, .int v2), (0, .ref (xad X (3, 0, 0, 0))), (1, .int p1), (2, .int p2)] (dtX4_isAnswer_0 10 (16, .istore 4, 2) rfl) (by decide) rfl ?_
    have e138_5 : ∀ (v4 : Int32), C_X4_isAnswer_138 v4 = some rv → G X K 138 [(3, .int v4)] [] m0 := by
      intro v4 hF
      unfold C_X4_isAnswer_138 at hF
      refine r_iload_n hk 0 (dtX4_isAnswer_1 10 (138, .iload_n 3, 1) rfl) rfl ?_
      obtain ⟨hz, hF⟩ := ck_some hF
      cases Option.some.inj hF
      exact hR _ _ hz (dtX4_isAnswer_1 11 (139, .ireturn, 1) rfl)
    have l9 : ∀ (n9 : Nat) (v6 : Int32) (v7 : Int32), L_X4_isAnswer_18 p1 p2 m0 n9 v6 v7 = some rv → G X K 18 [(0, .ref (xad X (3, 0, 0, 0))), (1, .int p1), (2, .int p2), (3, .int v6), (4, .int v7)] [] m0 := by
      intro n9
      induction n9 with
      | zero => intro v6 v7 hF; exact nomatch (show (none : Option Int32) = some rv from hF)
      | succ n9 ih9 =>
        intro v6 v7 hF
        rw [L_X4_isAnswer_18] at hF
        refine r_iload hk 4 (dtX4_isAnswer_0 11 (18, .iload 4, 2) rfl) rfl ?_
        refine r_aload_n hk 0 (dtX4_isAnswer_0 12 (20, .aload_n 0, 1) rfl) rfl ?_
        refine r_getI hk (k := 10) (fsX4 X) cbX4 (by decide) fl_X4_109 (in_mo 0 (by decide)) (fun _ => rfl) (fun _ _ => rfl) hF (dtX4_isAnswer_0 13 (21, .getfield 109, 3) rfl) (fun v10 hF => ?_)
        refine r_icmp_ge hk 138 hF (dtX4_isAnswer_0 14 (24, .if_icmp .ge 114, 3) rfl) (by decide) (fun hF => ?_) (fun hF => ?_)
        · exact r_sub hk [3] rfl (e138_5 v6 hF)
        · refine r_iload_n hk 3 (dtX4_isAnswer_0 15 (27, .iload_n 3, 1) rfl) rfl ?_
          refine r_if_eq hk 138 hF (dtX4_isAnswer_0 16 (28, .ifCond .eq 110, 3) rfl) (by decide) (fun hF => ?_) (fun hF => ?_)
          · exact r_sub hk [3] rfl (e138_5 v6 hF)
          · refine r_aload_n hk 0 (dtX4_isAnswer_0 17 (31, .aload_n 0, 1) rfl) rfl ?_
            refine r_iload_n hk 2 (dtX4_isAnswer_0 18 (32, .iload_n 2, 1) rfl) rfl ?_
            refine r_aload_n hk 0 (dtX4_isAnswer_0 19 (33, .aload_n 0, 1) rfl) rfl ?_
            refine r_iload_n hk 1 (dtX4_isAnswer_0 20 (34, .iload_n 1, 1) rfl) rfl ?_
            refine r_aload_n hk 0 (dtX4_isAnswer_0 21 (35, .aload_n 0, 1) rfl) rfl ?_
            refine r_getR hk (k := 9) (fsX4 X) cbX4 (by decide) fl_X4_22 (in_mo 0 (by decide)) (fun _ => rfl) (fun _ _ => rfl) (dtX4_isAnswer_0 22 (36, .getfield 22, 3) rfl) ?_
            refine r_iconst (v := 3) hk (dtX4_isAnswer_0 23 (39, .iconst 3, 1) rfl) (by decide) ?_
            refine r_iload hk 4 (dtX4_isAnswer_0 24 (40, .iload 4, 2) rfl) rfl ?_
            refine r_imul hk hF (dtX4_isAnswer_0 25 (42, .imul, 1) rfl) (fun v11 hF => ?_)
            refine r_iald hk (in_mo 5 (by decide)) (fun _ => rfl) hF (dtX4_isAnswer_0 26 (43, .iaload, 1) rfl) (fun v12 hF => ?_)
            refine r_callI hF (fun v13 h H locs ls hH hS hl => run_V (y := yX4_columnOf) hk (in_mo 0 (by decide)) rfl rfl (c_X4_columnOf (kl K) hk.2.2.2.2.2.2.2.2.2.2.2 X  p1 v12 m0 v13 h) lk_X4_64 me_X4_columnOf yf_X4_columnOf (by decide) (by decide) rfl (Nat.le_of_ble_eq_true rfl) rfl (dtX4_isAnswer_0 27 (44, .invokevirtual 64, 3) rfl) hH hS hl) (fun v13 hF => ?_)
            refine r_callI hF (fun v14 h H locs ls hH hS hl => run_V (y := yX4_valueOf) hk (in_mo 0 (by decide)) rfl rfl (c_X4_valueOf (kl K) hk.2.2.2.2.2.2.2.2.2.2.2 X  p2 v13 m0 v14 h) lk_X4_118 me_X4_valueOf yf_X4_valueOf (by decide) (by decide) rfl (Nat.le_of_ble_eq_true rfl) rfl (dtX4_isAnswer_0 28 (47, .invokevirtual 118, 3) rfl) hH hS hl) (fun v14 hF => ?_)
            refine r_istore hk [(5, .int v14), (0, .ref (xad X (3, 0, 0, 0))), (1, .int p1), (2, .int p2), (3, .int v6), (4, .int v7)] (dtX4_isAnswer_0 29 (50, .istore 5, 2) rfl) (by decide) rfl ?_
            refine r_aload_n hk 1 (dtX4_isAnswer_0 30 (52, .aload_n 0, 1) rfl) rfl ?_
            refine r_getR hk (k := 9) (fsX4 X) cbX4 (by decide) fl_X4_22 (in_mo 0 (by decide)) (fun _ => rfl) (fun _ _ => rfl) (dtX4_isAnswer_0 31 (53, .getfield 22, 3) rfl) ?_
            refine r_iconst (v := 3) hk (dtX4_isAnswer_0 32 (56, .iconst 3, 1) rfl) (by decide) ?_
            refine r_iload hk 5 (dtX4_isAnswer_0 33 (57, .iload 4, 2) rfl) rfl ?_
            refine r_imul hk hF (dtX4_isAnswer_0 34 (59, .imul, 1) rfl) (fun v15 hF => ?_)
            refine r_iconst (v := 2) hk (dtX4_isAnswer_0 35 (60, .iconst 2, 1) rfl) (by decide) ?_
            refine r_iadd hk hF (dtX4_isAnswer_0 36 (61, .iadd, 1) rfl) (fun v16 hF => ?_)
            refine r_iald hk (in_mo 5 (by decide)) (fun _ => rfl) hF (dtX4_isAnswer_0 37 (62, .iaload, 1) rfl) (fun v17 hF => ?_)
            refine r_istore hk [(6, .int v17), (5, .int v14), (0, .ref (xad X (3, 0, 0, 0))), (1, .int p1), (2, .int p2), (3, .int v6), (4, .int v7)] (dtX4_isAnswer_0 38 (63, .istore 6, 2) rfl) (by decide) rfl ?_
            refine r_aload_n hk 2 (dtX4_isAnswer_0 39 (65, .aload_n 0, 1) rfl) rfl ?_
            refine r_getR hk (k := 9) (fsX4 X) cbX4 (by decide) fl_X4_22 (in_mo 0 (by decide)) (fun _ => rfl) (fun _ _ => rfl) (dtX4_isAnswer_0 40 (66, .getfield 22, 3) rfl) ?_
            refine r_iconst (v := 3) hk (dtX4_isAnswer_0 41 (69, .iconst 3, 1) rfl) (by decide) ?_
            refine r_iload hk 6 (dtX4_isAnswer_0 42 (70, .iload 4, 2) rfl) rfl ?_
            refine r_imul hk hF (dtX4_isAnswer_0 43 (72, .imul, 1) rfl) (fun v18 hF => ?_)
            refine r_iconst (v := 1) hk (dtX4_isAnswer_0 44 (73, .iconst 1, 1) rfl) (by decide) ?_
            refine r_iadd hk hF (dtX4_isAnswer_0 45 (74, .iadd, 1) rfl) (fun v19 hF => ?_)
            refine r_iald hk (in_mo 5 (by decide)) (fun _ => rfl) hF (dtX4_isAnswer_0 46 (75, .iaload, 1) rfl) (fun v20 hF => ?_)
            refine r_istore hk [(7, .int v20), (6, .int v17), (5, .int v14), (0, .ref (xad X (3, 0, 0, 0))), (1, .int p1), (2, .int p2), (3, .int v6), (4, .int v7)] (dtX4_isAnswer_0 47 (76, .istore 7, 2) rfl) (by decide) rfl ?_
            refine r_iload hk 2 (dtX4_isAnswer_0 48 (78, .iload 5, 2) rfl) rfl ?_
            refine r_ldc hk cn_X4_33 (dtX4_isAnswer_0 49 (80, .ldc 33, 2) rfl) ?_
            have j131_22 : ∀ (v21 : Int32), (J_X4_isAnswer_131 v7 (fun w0 w1 => L_X4_isAnswer_18 p1 p2 m0 n9 w0 w1)) v21 = some rv → G X K 131 [(0, .ref (xad X (3, 0, 0, 0))), (1, .int p1), (2, .int p2), (4, .int v7)] [.int v21] m0 := by
              intro v21 hF
              unfold J_X4_isAnswer_131 at hF
              refine r_istore_n hk [(3, .int v21), (0, .ref (xad X (3, 0, 0, 0))), (1, .int p1), (2, .int p2), (4, .int v7)] (dtX4_isAnswer_1 7 (131, .istore_n 3, 1) rfl) (by decide) rfl ?_
              refine r_iinc hk 1 4 (fun v23 => [(4, .int v23), (3, .int v21), (0, .ref (xad X (3, 0, 0, 0))), (1, .int p1), (2, .int p2)]) hF (dtX4_isAnswer_1 8 (132, .iinc 4 1, 3) rfl) rfl (by decide) (by decide) (fun _ => rfl) (fun v23 hF => ?_)
              refine r_goto hk 18 (dtX4_isAnswer_1 9 (135, .goto (-117), 3) rfl) (by decide) ?_
              exact r_sub hk [2, 3, 4, 1, 0] rfl (ih9 v21 v23 hF)
            have j130_24 : (J_X4_isAnswer_130 v7 (fun w0 w1 => L_X4_isAnswer_18 p1 p2 m0 n9 w0 w1)) = some rv → G X K 130 [(0, .ref (xad X (3, 0, 0, 0))), (1, .int p1), (2, .int p2), (4, .int v7)] [] m0 := by
              intro hF
              unfold J_X4_isAnswer_130 at hF
              refine r_iconst (v := 0) hk (dtX4_isAnswer_1 6 (130, .iconst 0, 1) rfl) (by decide) ?_
              exact r_sub hk [0, 1, 2, 3] rfl (j131_22 0 hF)
            refine r_icmp_eq hk 130 hF (dtX4_isAnswer_0 50 (82, .if_icmp .eq 48, 3) rfl) (by decide) (fun hF => ?_) (fun hF => ?_)
            · exact r_sub hk [3, 4, 5, 7] rfl (j130_24 hF)
            · refine r_iload hk 0 (dtX4_isAnswer_0 51 (85, .iload 7, 2) rfl) rfl ?_
              refine r_bipush (v := 61) hk (dtX4_isAnswer_0 52 (87, .bipush 61, 2) rfl) (by decide) ?_
              have j126_25 : (J_X4_isAnswer_126 v7 (fun w0 w1 => L_X4_isAnswer_18 p1 p2 m0 n9 w0 w1)) = some rv → G X K 126 [(0, .ref (xad X (3, 0, 0, 0))), (1, .int p1), (2, .int p2), (4, .int v7)] [] m0 := by
                intro hF
                unfold J_X4_isAnswer_126 at hF
                refine r_iconst (v := 1) hk (dtX4_isAnswer_1 4 (126, .iconst 1, 1) rfl) (by decide) ?_
                refine r_goto hk 131 (dtX4_isAnswer_1 5 (127, .goto 4, 3) rfl) (by decide) ?_
                exact r_sub hk [0, 1, 2, 3] rfl (j131_22 1 hF)
              refine r_icmp_ne hk 102 hF (dtX4_isAnswer_0 53 (89, .if_icmp .ne 13, 3) rfl) (by decide) (fun hF => ?_) (fun hF => ?_)
              · refine r_iload hk 0 (dtX4_isAnswer_0 58 (102, .iload 7, 2) rfl) rfl ?_
                refine r_bipush (v := 60) hk (dtX4_isAnswer_0 59 (104, .bipush 60, 2) rfl) (by decide) ?_
                refine r_icmp_ne hk 119 hF (dtX4_isAnswer_0 60 (106, .if_icmp .ne 13, 3) rfl) (by decide) (fun hF => ?_) (fun hF => ?_)
                · refine r_iload hk 2 (dtX4_isAnswer_1 1 (119, .iload 5, 2) rfl) rfl ?_
                  refine r_iload hk 1 (dtX4_isAnswer_1 2 (121, .iload 6, 2) rfl) rfl ?_
                  refine r_icmp_le hk 130 hF (dtX4_isAnswer_1 3 (123, .if_icmp .le 7, 3) rfl) (by decide) (fun hF => ?_) (fun hF => ?_)
                  · exact r_sub hk [3, 4, 5, 7] rfl (j130_24 hF)
                  · exact r_sub hk [3, 4, 5, 7] rfl (j126_25 hF)
                · refine r_iload hk 2 (dtX4_isAnswer_0 61 (109, .iload 5, 2) rfl) rfl ?_
                  refine r_iload hk 1 (dtX4_isAnswer_0 62 (111, .iload 6, 2) rfl) rfl ?_
                  refine r_icmp_ge hk 130 hF (dtX4_isAnswer_0 63 (113, .if_icmp .ge 17, 3) rfl) (by decide) (fun hF => ?_) (fun hF => ?_)
                  · exact r_sub hk [3, 4, 5, 7] rfl (j130_24 hF)
                  · refine r_goto hk 126 (dtX4_isAnswer_1 0 (116, .goto 10, 3) rfl) (by decide) ?_
                    exact r_sub hk [3, 4, 5, 7] rfl (j126_25 hF)
              · refine r_iload hk 2 (dtX4_isAnswer_0 54 (92, .iload 5, 2) rfl) rfl ?_
                refine r_iload hk 1 (dtX4_isAnswer_0 55 (94, .iload 6, 2) rfl) rfl ?_
                refine r_icmp_ne hk 130 hF (dtX4_isAnswer_0 56 (96, .if_icmp .ne 34, 3) rfl) (by decide) (fun hF => ?_) (fun hF => ?_)
                · exact r_sub hk [3, 4, 5, 7] rfl (j130_24 hF)
                · refine r_goto hk 126 (dtX4_isAnswer_0 57 (99, .goto 27, 3) rfl) (by decide) ?_
                  exact r_sub hk [3, 4, 5, 7] rfl (j126_25 hF)
    exact r_sub hk [2, 3, 4, 1, 0] rfl (l9 fu v2 0 hF)
  refine r_icmp_ne hk 13 hF (dtX4_isAnswer_0 4 (6, .if_icmp .ne 7, 3) rfl) (by decide) (fun hF => ?_) (fun hF => ?_)
  · refine r_iconst (v := 0) hk (dtX4_isAnswer_0 7 (13, .iconst 0, 1) rfl) (by decide) ?_
    exact r_sub hk [0, 1, 2] rfl (j14_3 0 hF)
  · refine r_iconst (v := 1) hk (dtX4_isAnswer_0 5 (9, .iconst 1, 1) rfl) (by decide) ?_
    refine r_goto hk 14 (dtX4_isAnswer_0 6 (10, .goto 4, 3) rfl) (by decide) ?_
    exact r_sub hk [0, 1, 2] rfl (j14_3 1 hF)
set_option maxHeartbeats 4000000 in
set_option maxRecDepth 100000 in
theorem c_X4_answers (l : Launch) (hlf : l.stackTraces = false) (X : XW)  (p1 : Int32) (m0 : Mem) (rv : Int32) (hF : F_X4_answers p1 m0 = some rv) : MX X l yX4_answers cX4_answers 4 (some .int) 2 [.ref (xad X (3, 0, 0, 0)), .int p1] m0 (QI X rv m0) := by
  refine startI hlf (by decide +kernel) rfl [(0, .ref (xad X (3, 0, 0, 0))), (1, .int p1)] rfl (Nat.le_of_ble_eq_true rfl) (fun K hk hR => ?_)
  unfold F_X4_answers at hF
  refine r_iconst (v := 0) hk (dtX4_answers_0 0 (0, .iconst 0, 1) rfl) (by decide) ?_
  refine r_istore_n hk [(2, .int 0), (0, .ref (xad X (3, 0, 0, 0))), (1, .int p1)] (dtX4_answers_0 1 (1, .istore_n 2, 1) rfl) (by decide) rfl ?_
  refine r_iconst (v := 0) hk (dtX4_answers_0 2 (2, .iconst 0, 1) rfl) (by decide) ?_
  refine r_istore_n hk [(3, .int 0), (2, .int 0), (0, .ref (xad X (3, 0, 0, 0))), (1, .int p1)] (dtX4_answers_0 3 (3, .istore_n 3, 1) rfl) (by decide) rfl ?_
  have e39_2 : ∀ (v1 : Int32), C_X4_answers_39 v1 = some rv → G X K 39 [(2, .int v1)] [] m0 := by
    intro v1 hF
    unfold C_X4_answers_39 at hF
    refine r_iload_n hk 0 (dtX4_answers_0 23 (39, .iload_n 2, 1) rfl) rfl ?_
    cases Option.some.inj hF
    exact hR _ _ (dtX4_answers_0 24 (40, .ireturn, 1) rfl)
  have l6 : ∀ (n6 : Nat) (v3 : Int32) (v4 : Int32), L_X4_answers_4 p1 m0 n6 v3 v4 = some rv → G X K 4 [(0, .ref (xad X (3, 0, 0, 0))), (1, .int p1), (2, .int v3), (3, .int v4)] [] m0 := by
    intro n6
    induction n6 with
    | zero => intro v3 v4 hF; exact nomatch (show (none : Option Int32) = some rv from hF)
    | succ n6 ih6 =>
      intro v3 v4 hF
      rw [L_X4_answers_4] at hF
      refine r_iload_n hk 3 (dtX4_answers_0 4 (4, .iload_n 3, 1) rfl) rfl ?_
      refine r_aload_n hk 0 (dtX4_answers_0 5 (5, .aload_n 0, 1) rfl) rfl ?_
      refine r_getR hk (k := 0) (fsX4 X) cbX4 (by decide) fl_X4_7 (in_mo 0 (by decide)) (fun _ => rfl) (fun _ _ => rfl) (dtX4_answers_0 6 (6, .getfield 7, 3) rfl) ?_
      refine r_sipush (v := 1080) hk (dtX4_answers_0 7 (9, .sipush 1080, 3) rfl) (by decide) ?_
      refine r_iald hk (in_mo 1 (by decide)) (fun _ => rfl) hF (dtX4_answers_0 8 (12, .iaload, 1) rfl) (fun v7 hF => ?_)
      refine r_icmp_ge hk 39 hF (dtX4_answers_0 9 (13, .if_icmp .ge 26, 3) rfl) (by decide) (fun hF => ?_) (fun hF => ?_)
      · exact r_sub hk [2] rfl (e39_2 v3 hF)
      · refine r_iload_n hk 2 (dtX4_answers_0 10 (16, .iload_n 2, 1) rfl) rfl ?_
        refine r_aload_n hk 0 (dtX4_answers_0 11 (17, .aload_n 0, 1) rfl) rfl ?_
        refine r_iload_n hk 1 (dtX4_answers_0 12 (18, .iload_n 1, 1) rfl) rfl ?_
        refine r_iload_n hk 3 (dtX4_answers_0 13 (19, .iload_n 3, 1) rfl) rfl ?_
        refine r_callI hF (fun v8 h H locs ls hH hS hl => run_V (y := yX4_isAnswer) hk (in_mo 0 (by decide)) rfl rfl (c_X4_isAnswer (kl K) hk.2.2.2.2.2.2.2.2.2.2.2 X  p1 v4 m0 v8 h) lk_X4_121 me_X4_isAnswer yf_X4_isAnswer (by decide) (by decide) rfl (Nat.le_of_ble_eq_true rfl) rfl (dtX4_answers_0 14 (20, .invokevirtual 121, 3) rfl) hH hS hl) (fun v8 hF => ?_)
        have j31_10 : ∀ (v9 : Int32), (J_X4_answers_31 v3 v4 (fun w0 w1 => L_X4_answers_4 p1 m0 n6 w0 w1)) v9 = some rv → G X K 31 [(0, .ref (xad X (3, 0, 0, 0))), (1, .int p1), (3, .int v4)] [.int v9, .int v3] m0 := by
          intro v9 hF
          unfold J_X4_answers_31 at hF
          refine r_iadd hk hF (dtX4_answers_0 19 (31, .iadd, 1) rfl) (fun v11 hF => ?_)
          refine r_istore_n hk [(2, .int v11), (0, .ref (xad X (3, 0, 0, 0))), (1, .int p1), (3, .int v4)] (dtX4_answers_0 20 (32, .istore_n 2, 1) rfl) (by decide) rfl ?_
          refine r_iinc hk 1 3 (fun v12 => [(3, .int v12), (2, .int v11), (0, .ref (xad X (3, 0, 0, 0))), (1, .int p1)]) hF (dtX4_answers_0 21 (33, .iinc 3 1, 3) rfl) rfl (by decide) (by decide) (fun _ => rfl) (fun v12 hF => ?_)
          refine r_goto hk 4 (dtX4_answers_0 22 (36, .goto (-32), 3) rfl) (by decide) ?_
          exact r_sub hk [2, 3, 1, 0] rfl (ih6 v11 v12 hF)
        refine r_if_eq hk 30 hF (dtX4_answers_0 15 (23, .ifCond .eq 7, 3) rfl) (by decide) (fun hF => ?_) (fun hF => ?_)
        · refine r_iconst (v := 0) hk (dtX4_answers_0 18 (30, .iconst 0, 1) rfl) (by decide) ?_
          exact r_sub hk [0, 1, 3] rfl (j31_10 0 hF)
        · refine r_iconst (v := 1) hk (dtX4_answers_0 16 (26, .iconst 1, 1) rfl) (by decide) ?_
          refine r_goto hk 31 (dtX4_answers_0 17 (27, .goto 4, 3) rfl) (by decide) ?_
          exact r_sub hk [0, 1, 3] rfl (j31_10 1 hF)
  exact r_sub hk [2, 3, 1, 0] rfl (l6 fu 0 0 hF)
set_option maxHeartbeats 4000000 in
set_option maxRecDepth 100000 in
theorem c_X4_having (l : Launch) (hlf : l.stackTraces = false) (X : XW)  (p1 : Int32) (p2 : Int32) (m0 : Mem) (rv : Int32) (hF : F_X4_having p1 p2 m0 = some rv) : MX X l yX4_having cX4_having 6 (some .int) 1 [.ref (xad X (3, 0, 0, 0)), .int p1, .int p2] m0 (QI X rv m0) := by
  refine startI hlf (by decide +kernel) rfl [(0, .ref (xad X (3, 0, 0, 0))), (1, .int p1), (2, .int p2)] rfl (Nat.le_of_ble_eq_true rfl) (fun K hk hR => ?_)
  unfold F_X4_having at hF
  refine r_aload_n hk 0 (dtX4_having_0 0 (0, .aload_n 0, 1) rfl) rfl ?_
  refine r_iload_n hk 1 (dtX4_having_0 1 (1, .iload_n 1, 1) rfl) rfl ?_
  refine r_aload_n hk 0 (dtX4_having_0 2 (2, .aload_n 0, 1) rfl) rfl ?_
  refine r_getR hk (k := 9) (fsX4 X) cbX4 (by decide) fl_X4_22 (in_mo 0 (by decide)) (fun _ => rfl) (fun _ _ => rfl) (dtX4_having_0 3 (3, .getfield 22, 3) rfl) ?_
  refine r_iconst (v := 3) hk (dtX4_having_0 4 (6, .iconst 3, 1) rfl) (by decide) ?_
  refine r_iload_n hk 2 (dtX4_having_0 5 (7, .iload_n 2, 1) rfl) rfl ?_
  refine r_imul hk hF (dtX4_having_0 6 (8, .imul, 1) rfl) (fun v1 hF => ?_)
  refine r_iald hk (in_mo 5 (by decide)) (fun _ => rfl) hF (dtX4_having_0 7 (9, .iaload, 1) rfl) (fun v2 hF => ?_)
  refine r_callI hF (fun v3 h H locs ls hH hS hl => run_V (y := yX4_columnOf) hk (in_mo 0 (by decide)) rfl rfl (c_X4_columnOf (kl K) hk.2.2.2.2.2.2.2.2.2.2.2 X  p1 v2 m0 v3 h) lk_X4_64 me_X4_columnOf yf_X4_columnOf (by decide) (by decide) rfl (Nat.le_of_ble_eq_true rfl) rfl (dtX4_having_0 8 (10, .invokevirtual 64, 3) rfl) hH hS hl) (fun v3 hF => ?_)
  refine r_istore_n hk [(3, .int v3), (0, .ref (xad X (3, 0, 0, 0))), (1, .int p1), (2, .int p2)] (dtX4_having_0 9 (13, .istore_n 3, 1) rfl) (by decide) rfl ?_
  refine r_iconst (v := 0) hk (dtX4_having_0 10 (14, .iconst 0, 1) rfl) (by decide) ?_
  refine r_istore hk [(4, .int 0), (3, .int v3), (0, .ref (xad X (3, 0, 0, 0))), (1, .int p1), (2, .int p2)] (dtX4_having_0 11 (15, .istore 4, 2) rfl) (by decide) rfl ?_
  refine r_iconst (v := 0) hk (dtX4_having_0 12 (17, .iconst 0, 1) rfl) (by decide) ?_
  refine r_istore hk [(5, .int 0), (4, .int 0), (3, .int v3), (0, .ref (xad X (3, 0, 0, 0))), (1, .int p1), (2, .int p2)] (dtX4_having_0 13 (18, .istore 5, 2) rfl) (by decide) rfl ?_
  have e79_5 : ∀ (v4 : Int32), C_X4_having_79 v4 = some rv → G X K 79 [(4, .int v4)] [] m0 := by
    intro v4 hF
    unfold C_X4_having_79 at hF
    refine r_iload hk 0 (dtX4_having_0 46 (79, .iload 4, 2) rfl) rfl ?_
    cases Option.some.inj hF
    exact hR _ _ (dtX4_having_0 47 (81, .ireturn, 1) rfl)
  have l9 : ∀ (n9 : Nat) (v6 : Int32) (v7 : Int32), L_X4_having_20 p1 p2 m0 v3 n9 v6 v7 = some rv → G X K 20 [(0, .ref (xad X (3, 0, 0, 0))), (1, .int p1), (2, .int p2), (3, .int v3), (4, .int v6), (5, .int v7)] [] m0 := by
    intro n9
    induction n9 with
    | zero => intro v6 v7 hF; exact nomatch (show (none : Option Int32) = some rv from hF)
    | succ n9 ih9 =>
      intro v6 v7 hF
      rw [L_X4_having_20] at hF
      refine r_iload hk 5 (dtX4_having_0 14 (20, .iload 5, 2) rfl) rfl ?_
      refine r_aload_n hk 0 (dtX4_having_0 15 (22, .aload_n 0, 1) rfl) rfl ?_
      refine r_getR hk (k := 0) (fsX4 X) cbX4 (by decide) fl_X4_7 (in_mo 0 (by decide)) (fun _ => rfl) (fun _ _ => rfl) (dtX4_having_0 16 (23, .getfield 7, 3) rfl) ?_
      refine r_sipush (v := 1080) hk (dtX4_having_0 17 (26, .sipush 1080, 3) rfl) (by decide) ?_
      refine r_iald hk (in_mo 1 (by decide)) (fun _ => rfl) hF (dtX4_having_0 18 (29, .iaload, 1) rfl) (fun v10 hF => ?_)
      refine r_icmp_ge hk 79 hF (dtX4_having_0 19 (30, .if_icmp .ge 49, 3) rfl) (by decide) (fun hF => ?_) (fun hF => ?_)
      · exact r_sub hk [4] rfl (e79_5 v6 hF)
      · refine r_iload hk 4 (dtX4_having_0 20 (33, .iload 4, 2) rfl) rfl ?_
        refine r_aload_n hk 0 (dtX4_having_0 21 (35, .aload_n 0, 1) rfl) rfl ?_
        refine r_iload hk 5 (dtX4_having_0 22 (36, .iload 5, 2) rfl) rfl ?_
        refine r_callI hF (fun v11 h H locs ls hH hS hl => run_V (y := yX4_tenantOf) hk (in_mo 0 (by decide)) rfl rfl (c_X4_tenantOf (kl K) hk.2.2.2.2.2.2.2.2.2.2.2 X  v7 m0 v11 h) lk_X4_41 me_X4_tenantOf yf_X4_tenantOf (by decide) (by decide) rfl (Nat.le_of_ble_eq_true rfl) rfl (dtX4_having_0 23 (38, .invokevirtual 41, 3) rfl) hH hS hl) (fun v11 hF => ?_)
        refine r_iload_n hk 1 (dtX4_having_0 24 (41, .iload_n 1, 1) rfl) rfl ?_
        have j70_13 : ∀ (v12 : Int32), (J_X4_having_70 v6 v7 (fun w0 w1 => L_X4_having_20 p1 p2 m0 v3 n9 w0 w1)) v12 = some rv → G X K 70 [(0, .ref (xad X (3, 0, 0, 0))), (1, .int p1), (2, .int p2), (3, .int v3), (5, .int v7)] [.int v12, .int v6] m0 := by
          intro v12 hF
          unfold J_X4_having_70 at hF
          refine r_iadd hk hF (dtX4_having_0 42 (70, .iadd, 1) rfl) (fun v14 hF => ?_)
          refine r_istore hk [(4, .int v14), (0, .ref (xad X (3, 0, 0, 0))), (1, .int p1), (2, .int p2), (3, .int v3), (5, .int v7)] (dtX4_having_0 43 (71, .istore 4, 2) rfl) (by decide) rfl ?_
          refine r_iinc hk 1 5 (fun v15 => [(5, .int v15), (4, .int v14), (0, .ref (xad X (3, 0, 0, 0))), (1, .int p1), (2, .int p2), (3, .int v3)]) hF (dtX4_having_0 44 (73, .iinc 5 1, 3) rfl) rfl (by decide) (by decide) (fun _ => rfl) (fun v15 hF => ?_)
          refine r_goto hk 20 (dtX4_having_0 45 (76, .goto (-56), 3) rfl) (by decide) ?_
          exact r_sub hk [2, 3, 4, 5, 1, 0] rfl (ih9 v14 v15 hF)
        have j69_16 : (J_X4_having_69 v6 v7 (fun w0 w1 => L_X4_having_20 p1 p2 m0 v3 n9 w0 w1)) = some rv → G X K 69 [(0, .ref (xad X (3, 0, 0, 0))), (1, .int p1), (2, .int p2), (3, .int v3), (5, .int v7)] [.int v6] m0 := by
          intro hF
          unfold J_X4_having_69 at hF
          refine r_iconst (v := 0) hk (dtX4_having_0 41 (69, .iconst 0, 1) rfl) (by decide) ?_
          exact r_sub hk [0, 1, 2, 3, 4] rfl (j70_13 0 hF)
        refine r_icmp_ne hk 69 hF (dtX4_having_0 25 (42, .if_icmp .ne 27, 3) rfl) (by decide) (fun hF => ?_) (fun hF => ?_)
        · exact r_sub hk [0, 1, 2, 3, 5] rfl (j69_16 hF)
        · refine r_aload_n hk 0 (dtX4_having_0 26 (45, .aload_n 0, 1) rfl) rfl ?_
          refine r_iload hk 5 (dtX4_having_0 27 (46, .iload 5, 2) rfl) rfl ?_
          refine r_iload_n hk 3 (dtX4_having_0 28 (48, .iload_n 3, 1) rfl) rfl ?_
          refine r_callI hF (fun v17 h H locs ls hH hS hl => run_V (y := yX4_valueOf) hk (in_mo 0 (by decide)) rfl rfl (c_X4_valueOf (kl K) hk.2.2.2.2.2.2.2.2.2.2.2 X  v7 v3 m0 v17 h) lk_X4_118 me_X4_valueOf yf_X4_valueOf (by decide) (by decide) rfl (Nat.le_of_ble_eq_true rfl) rfl (dtX4_having_0 29 (49, .invokevirtual 118, 3) rfl) hH hS hl) (fun v17 hF => ?_)
          refine r_aload_n hk 0 (dtX4_having_0 30 (52, .aload_n 0, 1) rfl) rfl ?_
          refine r_getR hk (k := 9) (fsX4 X) cbX4 (by decide) fl_X4_22 (in_mo 0 (by decide)) (fun _ => rfl) (fun _ _ => rfl) (dtX4_having_0 31 (53, .getfield 22, 3) rfl) ?_
          refine r_iconst (v := 3) hk (dtX4_having_0 32 (56, .iconst 3, 1) rfl) (by decide) ?_
          refine r_iload_n hk 2 (dtX4_having_0 33 (57, .iload_n 2, 1) rfl) rfl ?_
          refine r_imul hk hF (dtX4_having_0 34 (58, .imul, 1) rfl) (fun v18 hF => ?_)
          refine r_iconst (v := 2) hk (dtX4_having_0 35 (59, .iconst 2, 1) rfl) (by decide) ?_
          refine r_iadd hk hF (dtX4_having_0 36 (60, .iadd, 1) rfl) (fun v19 hF => ?_)
          refine r_iald hk (in_mo 5 (by decide)) (fun _ => rfl) hF (dtX4_having_0 37 (61, .iaload, 1) rfl) (fun v20 hF => ?_)
          refine r_icmp_ne hk 69 hF (dtX4_having_0 38 (62, .if_icmp .ne 7, 3) rfl) (by decide) (fun hF => ?_) (fun hF => ?_)
          · exact r_sub hk [0, 1, 2, 3, 5] rfl (j69_16 hF)
          · refine r_iconst (v := 1) hk (dtX4_having_0 39 (65, .iconst 1, 1) rfl) (by decide) ?_
            refine r_goto hk 70 (dtX4_having_0 40 (66, .goto 4, 3) rfl) (by decide) ?_
            exact r_sub hk [0, 1, 2, 3, 5] rfl (j70_13 1 hF)
  exact r_sub hk [3, 4, 5, 2, 1, 0] rfl (l9 fu 0 0 hF)
set_option maxHeartbeats 4000000 in
set_option maxRecDepth 100000 in
theorem c_X4_looks (l : Launch) (hlf : l.stackTraces = false) (X : XW)  (p1 : Int32) (p2 : Int32) (m0 : Mem) (rv : Int32) (hF : F_X4_looks p1 p2 m0 = some rv) : MX X l yX4_looks cX4_looks 7 (some .int) 3 [.ref (xad X (3, 0, 0, 0)), .int p1, .int p2] m0 (QI X rv m0) := by
  refine startI hlf (by decide +kernel) rfl [(0, .ref (xad X (3, 0, 0, 0))), (1, .int p1), (2, .int p2)] rfl (Nat.le_of_ble_eq_true rfl) (fun K hk hR => ?_)
  unfold F_X4_looks at hF
  refine r_iload_n hk 2 (dtX4_looks_0 0 (0, .iload_n 2, 1) rfl) rfl ?_
  have j18_1 : (J_X4_looks_18 p1 m0) = some rv → G X K 18 [(0, .ref (xad X (3, 0, 0, 0))), (1, .int p1)] [] m0 := by
    intro hF
    unfold J_X4_looks_18 at hF
    refine r_aload_n hk 0 (dtX4_looks_0 10 (18, .aload_n 0, 1) rfl) rfl ?_
    refine r_iload_n hk 1 (dtX4_looks_0 11 (19, .iload_n 1, 1) rfl) rfl ?_
    refine r_callI hF (fun v2 h H locs ls hH hS hl => run_V (y := yX4_rowsOf) hk (in_mo 0 (by decide)) rfl rfl (c_X4_rowsOf (kl K) hk.2.2.2.2.2.2.2.2.2.2.2 X  p1 m0 v2 h) lk_X4_44 me_X4_rowsOf yf_X4_rowsOf (by decide) (by decide) rfl (Nat.le_of_ble_eq_true rfl) rfl (dtX4_looks_0 12 (20, .invokevirtual 44, 3) rfl) hH hS hl) (fun v2 hF => ?_)
    cases Option.some.inj hF
    exact hR _ _ (dtX4_looks_0 13 (23, .ireturn, 1) rfl)
  refine r_if_ne hk 18 hF (dtX4_looks_0 1 (1, .ifCond .ne 17, 3) rfl) (by decide) (fun hF => ?_) (fun hF => ?_)
  · exact r_sub hk [0, 1] rfl (j18_1 hF)
  · refine r_aload_n hk 0 (dtX4_looks_0 2 (4, .aload_n 0, 1) rfl) rfl ?_
    refine r_getR hk (k := 0) (fsX4 X) cbX4 (by decide) fl_X4_7 (in_mo 0 (by decide)) (fun _ => rfl) (fun _ _ => rfl) (dtX4_looks_0 3 (5, .getfield 7, 3) rfl) ?_
    refine r_sipush (v := 1159) hk (dtX4_looks_0 4 (8, .sipush 1159, 3) rfl) (by decide) ?_
    refine r_iload_n hk 1 (dtX4_looks_0 5 (11, .iload_n 1, 1) rfl) rfl ?_
    refine r_iadd hk hF (dtX4_looks_0 6 (12, .iadd, 1) rfl) (fun v3 hF => ?_)
    refine r_iald hk (in_mo 1 (by decide)) (fun _ => rfl) hF (dtX4_looks_0 7 (13, .iaload, 1) rfl) (fun v4 hF => ?_)
    refine r_iconst (v := 1) hk (dtX4_looks_0 8 (14, .iconst 1, 1) rfl) (by decide) ?_
    refine r_icmp_ne hk 24 hF (dtX4_looks_0 9 (15, .if_icmp .ne 9, 3) rfl) (by decide) (fun hF => ?_) (fun hF => ?_)
    · refine r_iconst (v := (-1)) hk (dtX4_looks_0 14 (24, .iconst (-1), 1) rfl) (by decide) ?_
      refine r_istore_n hk [(3, .int (-1)), (0, .ref (xad X (3, 0, 0, 0))), (1, .int p1), (2, .int p2)] (dtX4_looks_0 15 (25, .istore_n 3, 1) rfl) (by decide) rfl ?_
      refine r_iconst (v := 0) hk (dtX4_looks_0 16 (26, .iconst 0, 1) rfl) (by decide) ?_
      refine r_istore hk [(4, .int 0), (3, .int (-1)), (0, .ref (xad X (3, 0, 0, 0))), (1, .int p1), (2, .int p2)] (dtX4_looks_0 17 (27, .istore 4, 2) rfl) (by decide) rfl ?_
      have e129_6 : ∀ (v5 : Int32), (C_X4_looks_129 m0) v5 = some rv → G X K 129 [(0, .ref (xad X (3, 0, 0, 0))), (3, .int v5)] [] m0 := by
        intro v5 hF
        unfold C_X4_looks_129 at hF
        refine r_iload_n hk 1 (dtX4_looks_1 10 (129, .iload_n 3, 1) rfl) rfl ?_
        refine r_iconst (v := (-1)) hk (dtX4_looks_1 11 (130, .iconst (-1), 1) rfl) (by decide) ?_
        have j142_8 : ∀ (v7 : Int32), J_X4_looks_142 v7 = some rv → G X K 142 [] [.int v7] m0 := by
          intro v7 hF
          unfold J_X4_looks_142 at hF
          cases Option.some.inj hF
          exact hR _ _ (dtX4_looks_1 17 (142, .ireturn, 1) rfl)
        refine r_icmp_ne hk 141 hF (dtX4_looks_1 12 (131, .if_icmp .ne 10, 3) rfl) (by decide) (fun hF => ?_) (fun hF => ?_)
        · refine r_iload_n hk 1 (dtX4_looks_1 16 (141, .iload_n 3, 1) rfl) rfl ?_
          exact r_sub hk [] rfl (j142_8 v5 hF)
        · refine r_aload_n hk 0 (dtX4_looks_1 13 (134, .aload_n 0, 1) rfl) rfl ?_
          refine r_callI hF (fun v9 h H locs ls hH hS hl => run_V (y := yX4_inTable) hk (in_mo 0 (by decide)) rfl rfl (c_X4_inTable (kl K) hk.2.2.2.2.2.2.2.2.2.2.2 X   m0 v9 h) lk_X4_74 me_X4_inTable yf_X4_inTable (by decide) (by decide) rfl (Nat.le_of_ble_eq_true rfl) rfl (dtX4_looks_1 14 (135, .invokevirtual 74, 3) rfl) hH hS hl) (fun v9 hF => ?_)
          refine r_goto hk 142 (dtX4_looks_1 15 (138, .goto 4, 3) rfl) (by decide) ?_
          exact r_sub hk [] rfl (j142_8 v9 hF)
      have l13 : ∀ (n13 : Nat) (v10 : Int32) (v11 : Int32), L_X4_looks_29 p1 m0 n13 v10 v11 = some rv → G X K 29 [(0, .ref (xad X (3, 0, 0, 0))), (1, .int p1), (3, .int v10), (4, .int v11)] [] m0 := by
        intro n13
        induction n13 with
        | zero => intro v10 v11 hF; exact nomatch (show (none : Option Int32) = some rv from hF)
        | succ n13 ih13 =>
          intro v10 v11 hF
          rw [L_X4_looks_29] at hF
          refine r_iload hk 3 (dtX4_looks_0 18 (29, .iload 4, 2) rfl) rfl ?_
          refine r_aload_n hk 0 (dtX4_looks_0 19 (31, .aload_n 0, 1) rfl) rfl ?_
          refine r_getI hk (k := 10) (fsX4 X) cbX4 (by decide) fl_X4_109 (in_mo 0 (by decide)) (fun _ => rfl) (fun _ _ => rfl) hF (dtX4_looks_0 20 (32, .getfield 109, 3) rfl) (fun v14 hF => ?_)
          refine r_icmp_ge hk 129 hF (dtX4_looks_0 21 (35, .if_icmp .ge 94, 3) rfl) (by decide) (fun hF => ?_) (fun hF => ?_)
          · exact r_sub hk [0, 2] rfl (e129_6 v10 hF)
          · refine r_aload_n hk 0 (dtX4_looks_0 22 (38, .aload_n 0, 1) rfl) rfl ?_
            refine r_iload_n hk 1 (dtX4_looks_0 23 (39, .iload_n 1, 1) rfl) rfl ?_
            refine r_aload_n hk 0 (dtX4_looks_0 24 (40, .aload_n 0, 1) rfl) rfl ?_
            refine r_getR hk (k := 9) (fsX4 X) cbX4 (by decide) fl_X4_22 (in_mo 0 (by decide)) (fun _ => rfl) (fun _ _ => rfl) (dtX4_looks_0 25 (41, .getfield 22, 3) rfl) ?_
            refine r_iconst (v := 3) hk (dtX4_looks_0 26 (44, .iconst 3, 1) rfl) (by decide) ?_
            refine r_iload hk 3 (dtX4_looks_0 27 (45, .iload 4, 2) rfl) rfl ?_
            refine r_imul hk hF (dtX4_looks_0 28 (47, .imul, 1) rfl) (fun v15 hF => ?_)
            refine r_iald hk (in_mo 5 (by decide)) (fun _ => rfl) hF (dtX4_looks_0 29 (48, .iaload, 1) rfl) (fun v16 hF => ?_)
            refine r_callI hF (fun v17 h H locs ls hH hS hl => run_V (y := yX4_columnOf) hk (in_mo 0 (by decide)) rfl rfl (c_X4_columnOf (kl K) hk.2.2.2.2.2.2.2.2.2.2.2 X  p1 v16 m0 v17 h) lk_X4_64 me_X4_columnOf yf_X4_columnOf (by decide) (by decide) rfl (Nat.le_of_ble_eq_true rfl) rfl (dtX4_looks_0 30 (49, .invokevirtual 64, 3) rfl) hH hS hl) (fun v17 hF => ?_)
            refine r_istore hk [(5, .int v17), (0, .ref (xad X (3, 0, 0, 0))), (1, .int p1), (3, .int v10), (4, .int v11)] (dtX4_looks_0 31 (52, .istore 5, 2) rfl) (by decide) rfl ?_
            refine r_aload_n hk 1 (dtX4_looks_0 32 (54, .aload_n 0, 1) rfl) rfl ?_
            refine r_getR hk (k := 9) (fsX4 X) cbX4 (by decide) fl_X4_22 (in_mo 0 (by decide)) (fun _ => rfl) (fun _ _ => rfl) (dtX4_looks_0 33 (55, .getfield 22, 3) rfl) ?_
            refine r_iconst (v := 3) hk (dtX4_looks_0 34 (58, .iconst 3, 1) rfl) (by decide) ?_
            refine r_iload hk 4 (dtX4_looks_0 35 (59, .iload 4, 2) rfl) rfl ?_
            refine r_imul hk hF (dtX4_looks_0 36 (61, .imul, 1) rfl) (fun v18 hF => ?_)
            refine r_iconst (v := 1) hk (dtX4_looks_0 37 (62, .iconst 1, 1) rfl) (by decide) ?_
            refine r_iadd hk hF (dtX4_looks_0 38 (63, .iadd, 1) rfl) (fun v19 hF => ?_)
            refine r_iald hk (in_mo 5 (by decide)) (fun _ => rfl) hF (dtX4_looks_0 39 (64, .iaload, 1) rfl) (fun v20 hF => ?_)
            refine r_bipush (v := 61) hk (dtX4_looks_0 40 (65, .bipush 61, 2) rfl) (by decide) ?_
            have j123_22 : ∀ (v21 : Int32), (J_X4_looks_123 v11 (fun w0 w1 => L_X4_looks_29 p1 m0 n13 w0 w1)) v21 = some rv → G X K 123 [(0, .ref (xad X (3, 0, 0, 0))), (1, .int p1), (3, .int v21), (4, .int v11)] [] m0 := by
              intro v21 hF
              unfold J_X4_looks_123 at hF
              refine r_iinc hk 1 3 (fun v23 => [(4, .int v23), (0, .ref (xad X (3, 0, 0, 0))), (1, .int p1), (3, .int v21)]) hF (dtX4_looks_1 8 (123, .iinc 4 1, 3) rfl) rfl (by decide) (by decide) (fun _ => rfl) (fun v23 hF => ?_)
              refine r_goto hk 29 (dtX4_looks_1 9 (126, .goto (-97), 3) rfl) (by decide) ?_
              exact r_sub hk [1, 2, 3, 0] rfl (ih13 v21 v23 hF)
            refine r_icmp_ne hk 123 hF (dtX4_looks_0 41 (67, .if_icmp .ne 56, 3) rfl) (by decide) (fun hF => ?_) (fun hF => ?_)
            · exact r_sub hk [1, 2, 3, 4] rfl (j123_22 v10 hF)
            · refine r_iload hk 0 (dtX4_looks_0 42 (70, .iload 5, 2) rfl) rfl ?_
              refine r_iconst (v := (-1)) hk (dtX4_looks_0 43 (72, .iconst (-1), 1) rfl) (by decide) ?_
              refine r_icmp_eq hk 123 hF (dtX4_looks_0 44 (73, .if_icmp .eq 50, 3) rfl) (by decide) (fun hF => ?_) (fun hF => ?_)
              · exact r_sub hk [1, 2, 3, 4] rfl (j123_22 v10 hF)
              · refine r_aload_n hk 1 (dtX4_looks_0 45 (76, .aload_n 0, 1) rfl) rfl ?_
                refine r_getR hk (k := 0) (fsX4 X) cbX4 (by decide) fl_X4_7 (in_mo 0 (by decide)) (fun _ => rfl) (fun _ _ => rfl) (dtX4_looks_0 46 (77, .getfield 7, 3) rfl) ?_
                refine r_sipush (v := 1129) hk (dtX4_looks_0 47 (80, .sipush 1129, 3) rfl) (by decide) ?_
                refine r_bipush (v := 8) hk (dtX4_looks_0 48 (83, .bipush 8, 2) rfl) (by decide) ?_
                refine r_iload_n hk 2 (dtX4_looks_0 49 (85, .iload_n 1, 1) rfl) rfl ?_
                refine r_imul hk hF (dtX4_looks_0 50 (86, .imul, 1) rfl) (fun v24 hF => ?_)
                refine r_iadd hk hF (dtX4_looks_0 51 (87, .iadd, 1) rfl) (fun v25 hF => ?_)
                refine r_iload hk 0 (dtX4_looks_0 52 (88, .iload 5, 2) rfl) rfl ?_
                refine r_iadd hk hF (dtX4_looks_0 53 (90, .iadd, 1) rfl) (fun v26 hF => ?_)
                refine r_iald hk (in_mo 1 (by decide)) (fun _ => rfl) hF (dtX4_looks_0 54 (91, .iaload, 1) rfl) (fun v27 hF => ?_)
                refine r_iconst (v := 1) hk (dtX4_looks_0 55 (92, .iconst 1, 1) rfl) (by decide) ?_
                refine r_icmp_ne hk 123 hF (dtX4_looks_0 56 (93, .if_icmp .ne 30, 3) rfl) (by decide) (fun hF => ?_) (fun hF => ?_)
                · exact r_sub hk [1, 2, 3, 4] rfl (j123_22 v10 hF)
                · refine r_aload_n hk 1 (dtX4_looks_0 57 (96, .aload_n 0, 1) rfl) rfl ?_
                  refine r_iload_n hk 2 (dtX4_looks_0 58 (97, .iload_n 1, 1) rfl) rfl ?_
                  refine r_iload hk 4 (dtX4_looks_0 59 (98, .iload 4, 2) rfl) rfl ?_
                  refine r_callI hF (fun v28 h H locs ls hH hS hl => run_V (y := yX4_having) hk (in_mo 0 (by decide)) rfl rfl (c_X4_having (kl K) hk.2.2.2.2.2.2.2.2.2.2.2 X  p1 v11 m0 v28 h) lk_X4_124 me_X4_having yf_X4_having (by decide) (by decide) rfl (Nat.le_of_ble_eq_true rfl) rfl (dtX4_looks_0 60 (100, .invokevirtual 124, 3) rfl) hH hS hl) (fun v28 hF => ?_)
                  refine r_istore hk [(6, .int v28), (5, .int v17), (0, .ref (xad X (3, 0, 0, 0))), (1, .int p1), (3, .int v10), (4, .int v11)] (dtX4_looks_0 61 (103, .istore 6, 2) rfl) (by decide) rfl ?_
                  refine r_iload_n hk 4 (dtX4_looks_0 62 (105, .iload_n 3, 1) rfl) rfl ?_
                  refine r_iconst (v := (-1)) hk (dtX4_looks_0 63 (106, .iconst (-1), 1) rfl) (by decide) ?_
                  have j122_30 : ∀ (v29 : Int32), (J_X4_looks_122 v11 (fun w0 w1 => L_X4_looks_29 p1 m0 n13 w0 w1)) v29 = some rv → G X K 122 [(0, .ref (xad X (3, 0, 0, 0))), (1, .int p1), (4, .int v11)] [.int v29] m0 := by
                    intro v29 hF
                    unfold J_X4_looks_122 at hF
                    refine r_istore_n hk [(3, .int v29), (0, .ref (xad X (3, 0, 0, 0))), (1, .int p1), (4, .int v11)] (dtX4_looks_1 7 (122, .istore_n 3, 1) rfl) (by decide) rfl ?_
                    exact r_sub hk [1, 2, 0, 3] rfl (j123_22 v29 hF)
                  have j116_31 : (J_X4_looks_116 v11 (fun w0 w1 => L_X4_looks_29 p1 m0 n13 w0 w1) v28) = some rv → G X K 116 [(0, .ref (xad X (3, 0, 0, 0))), (1, .int p1), (4, .int v11), (6, .int v28)] [] m0 := by
                    intro hF
                    unfold J_X4_looks_116 at hF
                    refine r_iload hk 3 (dtX4_looks_1 4 (116, .iload 6, 2) rfl) rfl ?_
                    refine r_goto hk 122 (dtX4_looks_1 5 (118, .goto 4, 3) rfl) (by decide) ?_
                    exact r_sub hk [0, 1, 2] rfl (j122_30 v28 hF)
                  refine r_icmp_eq hk 116 hF (dtX4_looks_1 0 (107, .if_icmp .eq 9, 3) rfl) (by decide) (fun hF => ?_) (fun hF => ?_)
                  · exact r_sub hk [2, 3, 5, 0] rfl (j116_31 hF)
                  · refine r_iload hk 0 (dtX4_looks_1 1 (110, .iload 6, 2) rfl) rfl ?_
                    refine r_iload_n hk 4 (dtX4_looks_1 2 (112, .iload_n 3, 1) rfl) rfl ?_
                    refine r_icmp_ge hk 121 hF (dtX4_looks_1 3 (113, .if_icmp .ge 8, 3) rfl) (by decide) (fun hF => ?_) (fun hF => ?_)
                    · refine r_iload_n hk 4 (dtX4_looks_1 6 (121, .iload_n 3, 1) rfl) rfl ?_
                      exact r_sub hk [2, 3, 5] rfl (j122_30 v10 hF)
                    · exact r_sub hk [2, 3, 5, 0] rfl (j116_31 hF)
      exact r_sub hk [2, 3, 1, 0] rfl (l13 fu (-1) 0 hF)
    · exact r_sub hk [0, 1] rfl (j18_1 hF)
set_option maxHeartbeats 4000000 in
set_option maxRecDepth 100000 in
theorem c_X4_ask (l : Launch) (hlf : l.stackTraces = false) (X : XW)  (p1 : Int32) (m0 : Mem) (rv : Int32) (mE : Mem) (hF : F_X4_ask p1 m0 = some (rv, mE)) : MX X l yX4_ask cX4_ask 3 (some .int) 4 [.ref (xad X (3, 0, 0, 0)), .int p1] m0 (QI X rv mE) := by
  refine startI hlf (by decide +kernel) rfl [(0, .ref (xad X (3, 0, 0, 0))), (1, .int p1)] rfl (Nat.le_of_ble_eq_true rfl) (fun K hk hR => ?_)
  unfold F_X4_ask at hF
  refine r_aload_n hk 0 (dtX4_ask_0 0 (0, .aload_n 0, 1) rfl) rfl ?_
  refine r_iconst (v := 0) hk (dtX4_ask_0 1 (1, .iconst 0, 1) rfl) (by decide) ?_
  refine r_putI hk (k := 6) (fsX4 X) cbX4 (by decide) fl_X4_25 (in_mo 0 (by decide)) (fun _ => rfl) rfl rfl (fun _ _ _ => rfl) (fun _ _ => (by decide : 6 < 11)) hF (dtX4_ask_0 2 (2, .putfield 25, 3) rfl) (fun m1 hF => ?_)
  refine r_iload_n hk 1 (dtX4_ask_0 3 (5, .iload_n 1, 1) rfl) rfl ?_
  refine r_callI hF (fun v2 h H locs ls hH hS hl => run_S hk (c_X4_isTenant (kl K) hk.2.2.2.2.2.2.2.2.2.2.2 X  p1 m1 v2 h) lk_X4_47 me_X4_isTenant yf_X4_isTenant (by decide) (by decide) rfl (Nat.le_of_ble_eq_true rfl) rfl (dtX4_ask_0 4 (6, .invokestatic 47, 3) rfl) hH hS hl) (fun v2 hF => ?_)
  have j19_4 : ∀ (m3 : Mem), J_X4_ask_19 m3 = some (rv, mE) → G X K 19 [(0, .ref (xad X (3, 0, 0, 0)))] [] m3 := by
    intro m3 hF
    unfold J_X4_ask_19 at hF
    refine r_aload_n hk 0 (dtX4_ask_0 9 (19, .aload_n 0, 1) rfl) rfl ?_
    refine r_iconst (v := 1) hk (dtX4_ask_0 10 (20, .iconst 1, 1) rfl) (by decide) ?_
    refine r_callIm hF (fun v5 m6 h H locs ls hH hS hl => run_V (y := yX4_fails) hk (in_mo 0 (by decide)) rfl rfl (c_X4_fails (kl K) hk.2.2.2.2.2.2.2.2.2.2.2 X  1 m3 v5 m6 h) lk_X4_37 me_X4_fails yf_X4_fails (by decide) (by decide) rfl (Nat.le_of_ble_eq_true rfl) rfl (dtX4_ask_0 11 (21, .invokevirtual 37, 3) rfl) hH hS hl) (fun v5 m6 hF => ?_)
    cases Option.some.inj hF
    exact hR _ _ (dtX4_ask_0 12 (24, .ireturn, 1) rfl)
  refine r_if_eq hk 19 hF (dtX4_ask_0 5 (9, .ifCond .eq 10, 3) rfl) (by decide) (fun hF => ?_) (fun hF => ?_)
  · exact r_sub hk [0] rfl (j19_4 m1 hF)
  · refine r_aload_n hk 0 (dtX4_ask_0 6 (12, .aload_n 0, 1) rfl) rfl ?_
    refine r_callIm hF (fun v7 m8 h H locs ls hH hS hl => run_V (y := yX4_isText) hk (in_mo 0 (by decide)) rfl rfl (c_X4_isText (kl K) hk.2.2.2.2.2.2.2.2.2.2.2 X   m1 v7 m8 h) lk_X4_115 me_X4_isText yf_X4_isText (by decide) (by decide) rfl (Nat.le_of_ble_eq_true rfl) rfl (dtX4_ask_0 7 (13, .invokevirtual 115, 3) rfl) hH hS hl) (fun v7 m8 hF => ?_)
    refine r_if_ne hk 25 hF (dtX4_ask_0 8 (16, .ifCond .ne 9, 3) rfl) (by decide) (fun hF => ?_) (fun hF => ?_)
    · refine r_aload_n hk 0 (dtX4_ask_0 13 (25, .aload_n 0, 1) rfl) rfl ?_
      refine r_callVm hF (fun w m9 h H locs ls hH hS hl => run_V (y := yX4_saves) hk (in_mo 0 (by decide)) rfl rfl (c_X4_saves (kl K) hk.2.2.2.2.2.2.2.2.2.2.2 X   m8 w m9 h) lk_X4_54 me_X4_saves yf_X4_saves (by decide) (by decide) rfl (Nat.le_of_ble_eq_true rfl) rfl (dtX4_ask_0 14 (26, .invokevirtual 54, 3) rfl) hH hS hl) (fun _ m9 hF => ?_)
      refine r_aload_n hk 0 (dtX4_ask_0 15 (29, .aload_n 0, 1) rfl) rfl ?_
      refine r_iload_n hk 1 (dtX4_ask_0 16 (30, .iload_n 1, 1) rfl) rfl ?_
      refine r_callI hF (fun v10 h H locs ls hH hS hl => run_V (y := yX4_answers) hk (in_mo 0 (by decide)) rfl rfl (c_X4_answers (kl K) hk.2.2.2.2.2.2.2.2.2.2.2 X  p1 m9 v10 h) lk_X4_127 me_X4_answers yf_X4_answers (by decide) (by decide) rfl (Nat.le_of_ble_eq_true rfl) rfl (dtX4_ask_0 17 (31, .invokevirtual 127, 3) rfl) hH hS hl) (fun v10 hF => ?_)
      refine r_istore_n hk [(2, .int v10), (0, .ref (xad X (3, 0, 0, 0))), (1, .int p1)] (dtX4_ask_0 18 (34, .istore_n 2, 1) rfl) (by decide) rfl ?_
      refine r_aload_n hk 1 (dtX4_ask_0 19 (35, .aload_n 0, 1) rfl) rfl ?_
      refine r_getR hk (k := 0) (fsX4 X) cbX4 (by decide) fl_X4_7 (in_mo 0 (by decide)) (fun _ => rfl) (fun _ _ => rfl) (dtX4_ask_0 20 (36, .getfield 7, 3) rfl) ?_
      refine r_sipush (v := 1162) hk (dtX4_ask_0 21 (39, .sipush 1162, 3) rfl) (by decide) ?_
      refine r_iload_n hk 2 (dtX4_ask_0 22 (42, .iload_n 1, 1) rfl) rfl ?_
      refine r_iadd hk hF (dtX4_ask_0 23 (43, .iadd, 1) rfl) (fun v11 hF => ?_)
      refine r_dup2 hk (dtX4_ask_0 24 (44, .dup2, 1) rfl) rfl rfl ?_
      refine r_iald hk (in_mo 1 (by decide)) (fun _ => rfl) hF (dtX4_ask_0 25 (45, .iaload, 1) rfl) (fun v12 hF => ?_)
      refine r_iconst (v := 1) hk (dtX4_ask_0 26 (46, .iconst 1, 1) rfl) (by decide) ?_
      refine r_iadd hk hF (dtX4_ask_0 27 (47, .iadd, 1) rfl) (fun v13 hF => ?_)
      refine r_iast hk (in_mo 1 (by decide)) (fun _ => rfl) hF (dtX4_ask_0 28 (48, .iastore, 1) rfl) (fun m14 hF => ?_)
      refine r_aload_n hk 1 (dtX4_ask_0 29 (49, .aload_n 0, 1) rfl) rfl ?_
      refine r_getR hk (k := 0) (fsX4 X) cbX4 (by decide) fl_X4_7 (in_mo 0 (by decide)) (fun _ => rfl) (fun _ _ => rfl) (dtX4_ask_0 30 (50, .getfield 7, 3) rfl) ?_
      refine r_sipush (v := 1165) hk (dtX4_ask_0 31 (53, .sipush 1165, 3) rfl) (by decide) ?_
      refine r_iload_n hk 2 (dtX4_ask_0 32 (56, .iload_n 1, 1) rfl) rfl ?_
      refine r_iadd hk hF (dtX4_ask_0 33 (57, .iadd, 1) rfl) (fun v15 hF => ?_)
      refine r_dup2 hk (dtX4_ask_0 34 (58, .dup2, 1) rfl) rfl rfl ?_
      refine r_iald hk (in_mo 1 (by decide)) (fun _ => rfl) hF (dtX4_ask_0 35 (59, .iaload, 1) rfl) (fun v16 hF => ?_)
      refine r_aload_n hk 1 (dtX4_ask_0 36 (60, .aload_n 0, 1) rfl) rfl ?_
      refine r_iload_n hk 2 (dtX4_ask_0 37 (61, .iload_n 1, 1) rfl) rfl ?_
      refine r_iconst (v := 0) hk (dtX4_ask_0 38 (62, .iconst 0, 1) rfl) (by decide) ?_
      refine r_callI hF (fun v17 h H locs ls hH hS hl => run_V (y := yX4_looks) hk (in_mo 0 (by decide)) rfl rfl (c_X4_looks (kl K) hk.2.2.2.2.2.2.2.2.2.2.2 X  p1 0 m14 v17 h) lk_X4_130 me_X4_looks yf_X4_looks (by decide) (by decide) rfl (Nat.le_of_ble_eq_true rfl) rfl (dtX4_ask_0 39 (63, .invokevirtual 130, 3) rfl) hH hS hl) (fun v17 hF => ?_)
      refine r_iadd hk hF (dtX4_ask_0 40 (66, .iadd, 1) rfl) (fun v18 hF => ?_)
      refine r_iast hk (in_mo 1 (by decide)) (fun _ => rfl) hF (dtX4_ask_0 41 (67, .iastore, 1) rfl) (fun m19 hF => ?_)
      refine r_aload_n hk 1 (dtX4_ask_0 42 (68, .aload_n 0, 1) rfl) rfl ?_
      refine r_getR hk (k := 0) (fsX4 X) cbX4 (by decide) fl_X4_7 (in_mo 0 (by decide)) (fun _ => rfl) (fun _ _ => rfl) (dtX4_ask_0 43 (69, .getfield 7, 3) rfl) ?_
      refine r_sipush (v := 1168) hk (dtX4_ask_0 44 (72, .sipush 1168, 3) rfl) (by decide) ?_
      refine r_iload_n hk 2 (dtX4_ask_0 45 (75, .iload_n 1, 1) rfl) rfl ?_
      refine r_iadd hk hF (dtX4_ask_0 46 (76, .iadd, 1) rfl) (fun v20 hF => ?_)
      refine r_dup2 hk (dtX4_ask_0 47 (77, .dup2, 1) rfl) rfl rfl ?_
      refine r_iald hk (in_mo 1 (by decide)) (fun _ => rfl) hF (dtX4_ask_0 48 (78, .iaload, 1) rfl) (fun v21 hF => ?_)
      refine r_iload_n hk 0 (dtX4_ask_0 49 (79, .iload_n 2, 1) rfl) rfl ?_
      refine r_iadd hk hF (dtX4_ask_0 50 (80, .iadd, 1) rfl) (fun v22 hF => ?_)
      refine r_iast hk (in_mo 1 (by decide)) (fun _ => rfl) hF (dtX4_ask_0 51 (81, .iastore, 1) rfl) (fun m23 hF => ?_)
      refine r_iload_n hk 0 (dtX4_ask_0 52 (82, .iload_n 2, 1) rfl) rfl ?_
      cases Option.some.inj hF
      exact hR _ _ (dtX4_ask_0 53 (83, .ireturn, 1) rfl)
    · exact r_sub hk [0] rfl (j19_4 m8 hF)
set_option maxHeartbeats 4000000 in
set_option maxRecDepth 100000 in
theorem c_X4_purge (l : Launch) (hlf : l.stackTraces = false) (X : XW)  (p1 : Int32) (m0 : Mem) (rv : Int32) (mE : Mem) (hF : F_X4_purge p1 m0 = some (rv, mE)) : MX X l yX4_purge cX4_purge 4 (some .int) 4 [.ref (xad X (3, 0, 0, 0)), .int p1] m0 (QI X rv mE) := by
  refine startI hlf (by decide +kernel) rfl [(0, .ref (xad X (3, 0, 0, 0))), (1, .int p1)] rfl (Nat.le_of_ble_eq_true rfl) (fun K hk hR => ?_)
  unfold F_X4_purge at hF
  refine r_aload_n hk 0 (dtX4_purge_0 0 (0, .aload_n 0, 1) rfl) rfl ?_
  refine r_iconst (v := 0) hk (dtX4_purge_0 1 (1, .iconst 0, 1) rfl) (by decide) ?_
  refine r_putI hk (k := 6) (fsX4 X) cbX4 (by decide) fl_X4_25 (in_mo 0 (by decide)) (fun _ => rfl) rfl rfl (fun _ _ _ => rfl) (fun _ _ => (by decide : 6 < 11)) hF (dtX4_purge_0 2 (2, .putfield 25, 3) rfl) (fun m1 hF => ?_)
  refine r_iload_n hk 1 (dtX4_purge_0 3 (5, .iload_n 1, 1) rfl) rfl ?_
  refine r_callI hF (fun v2 h H locs ls hH hS hl => run_S hk (c_X4_isTenant (kl K) hk.2.2.2.2.2.2.2.2.2.2.2 X  p1 m1 v2 h) lk_X4_47 me_X4_isTenant yf_X4_isTenant (by decide) (by decide) rfl (Nat.le_of_ble_eq_true rfl) rfl (dtX4_purge_0 4 (6, .invokestatic 47, 3) rfl) hH hS hl) (fun v2 hF => ?_)
  have j19_4 : ∀ (m3 : Mem), J_X4_purge_19 m3 = some (rv, mE) → G X K 19 [(0, .ref (xad X (3, 0, 0, 0)))] [] m3 := by
    intro m3 hF
    unfold J_X4_purge_19 at hF
    refine r_aload_n hk 0 (dtX4_purge_0 9 (19, .aload_n 0, 1) rfl) rfl ?_
    refine r_iconst (v := 1) hk (dtX4_purge_0 10 (20, .iconst 1, 1) rfl) (by decide) ?_
    refine r_callIm hF (fun v5 m6 h H locs ls hH hS hl => run_V (y := yX4_fails) hk (in_mo 0 (by decide)) rfl rfl (c_X4_fails (kl K) hk.2.2.2.2.2.2.2.2.2.2.2 X  1 m3 v5 m6 h) lk_X4_37 me_X4_fails yf_X4_fails (by decide) (by decide) rfl (Nat.le_of_ble_eq_true rfl) rfl (dtX4_purge_0 11 (21, .invokevirtual 37, 3) rfl) hH hS hl) (fun v5 m6 hF => ?_)
    cases Option.some.inj hF
    exact hR _ _ (dtX4_purge_0 12 (24, .ireturn, 1) rfl)
  refine r_if_eq hk 19 hF (dtX4_purge_0 5 (9, .ifCond .eq 10, 3) rfl) (by decide) (fun hF => ?_) (fun hF => ?_)
  · exact r_sub hk [0] rfl (j19_4 m1 hF)
  · refine r_aload_n hk 0 (dtX4_purge_0 6 (12, .aload_n 0, 1) rfl) rfl ?_
    refine r_callIm hF (fun v7 m8 h H locs ls hH hS hl => run_V (y := yX4_isText) hk (in_mo 0 (by decide)) rfl rfl (c_X4_isText (kl K) hk.2.2.2.2.2.2.2.2.2.2.2 X   m1 v7 m8 h) lk_X4_115 me_X4_isText yf_X4_isText (by decide) (by decide) rfl (Nat.le_of_ble_eq_true rfl) rfl (dtX4_purge_0 7 (13, .invokevirtual 115, 3) rfl) hH hS hl) (fun v7 m8 hF => ?_)
    refine r_if_ne hk 25 hF (dtX4_purge_0 8 (16, .ifCond .ne 9, 3) rfl) (by decide) (fun hF => ?_) (fun hF => ?_)
    · refine r_aload_n hk 0 (dtX4_purge_0 13 (25, .aload_n 0, 1) rfl) rfl ?_
      refine r_callVm hF (fun w m9 h H locs ls hH hS hl => run_V (y := yX4_saves) hk (in_mo 0 (by decide)) rfl rfl (c_X4_saves (kl K) hk.2.2.2.2.2.2.2.2.2.2.2 X   m8 w m9 h) lk_X4_54 me_X4_saves yf_X4_saves (by decide) (by decide) rfl (Nat.le_of_ble_eq_true rfl) rfl (dtX4_purge_0 14 (26, .invokevirtual 54, 3) rfl) hH hS hl) (fun _ m9 hF => ?_)
      refine r_iconst (v := 0) hk (dtX4_purge_0 15 (29, .iconst 0, 1) rfl) (by decide) ?_
      refine r_istore_n hk [(2, .int 0), (0, .ref (xad X (3, 0, 0, 0))), (1, .int p1)] (dtX4_purge_0 16 (30, .istore_n 2, 1) rfl) (by decide) rfl ?_
      refine r_aload_n hk 1 (dtX4_purge_0 17 (31, .aload_n 0, 1) rfl) rfl ?_
      refine r_getR hk (k := 0) (fsX4 X) cbX4 (by decide) fl_X4_7 (in_mo 0 (by decide)) (fun _ => rfl) (fun _ _ => rfl) (dtX4_purge_0 18 (32, .getfield 7, 3) rfl) ?_
      refine r_sipush (v := 1080) hk (dtX4_purge_0 19 (35, .sipush 1080, 3) rfl) (by decide) ?_
      refine r_iald hk (in_mo 1 (by decide)) (fun _ => rfl) hF (dtX4_purge_0 20 (38, .iaload, 1) rfl) (fun v10 hF => ?_)
      refine r_iconst (v := 1) hk (dtX4_purge_0 21 (39, .iconst 1, 1) rfl) (by decide) ?_
      refine r_isub hk hF (dtX4_purge_0 22 (40, .isub, 1) rfl) (fun v11 hF => ?_)
      refine r_istore_n hk [(3, .int v11), (2, .int 0), (0, .ref (xad X (3, 0, 0, 0))), (1, .int p1)] (dtX4_purge_0 23 (41, .istore_n 3, 1) rfl) (by decide) rfl ?_
      have e69_14 : ∀ (v12 : Int32) (m13 : Mem), C_X4_purge_69 v12 m13 = some (rv, mE) → G X K 69 [(2, .int v12)] [] m13 := by
        intro v12 m13 hF
        unfold C_X4_purge_69 at hF
        refine r_iload_n hk 0 (dtX4_purge_0 37 (69, .iload_n 2, 1) rfl) rfl ?_
        cases Option.some.inj hF
        exact hR _ _ (dtX4_purge_0 38 (70, .ireturn, 1) rfl)
      have l19 : ∀ (n19 : Nat) (v15 : Int32) (v16 : Int32) (m17 : Mem), L_X4_purge_42 p1 n19 v15 v16 m17 = some (rv, mE) → G X K 42 [(0, .ref (xad X (3, 0, 0, 0))), (1, .int p1), (2, .int v15), (3, .int v16)] [] m17 := by
        intro n19
        induction n19 with
        | zero => intro v15 v16 m17 hF; exact nomatch (show (none : Option (Int32 × Mem)) = some (rv, mE) from hF)
        | succ n19 ih19 =>
          intro v15 v16 m17 hF
          rw [L_X4_purge_42] at hF
          refine r_iload_n hk 3 (dtX4_purge_0 24 (42, .iload_n 3, 1) rfl) rfl ?_
          refine r_if_lt hk 69 hF (dtX4_purge_0 25 (43, .ifCond .lt 26, 3) rfl) (by decide) (fun hF => ?_) (fun hF => ?_)
          · exact r_sub hk [2] rfl (e69_14 v15 m17 hF)
          · refine r_aload_n hk 0 (dtX4_purge_0 26 (46, .aload_n 0, 1) rfl) rfl ?_
            refine r_iload_n hk 1 (dtX4_purge_0 27 (47, .iload_n 1, 1) rfl) rfl ?_
            refine r_iload_n hk 3 (dtX4_purge_0 28 (48, .iload_n 3, 1) rfl) rfl ?_
            refine r_callI hF (fun v20 h H locs ls hH hS hl => run_V (y := yX4_isAnswer) hk (in_mo 0 (by decide)) rfl rfl (c_X4_isAnswer (kl K) hk.2.2.2.2.2.2.2.2.2.2.2 X  p1 v16 m17 v20 h) lk_X4_121 me_X4_isAnswer yf_X4_isAnswer (by decide) (by decide) rfl (Nat.le_of_ble_eq_true rfl) rfl (dtX4_purge_0 29 (49, .invokevirtual 121, 3) rfl) hH hS hl) (fun v20 hF => ?_)
            have j63_23 : ∀ (v21 : Int32) (m22 : Mem), (J_X4_purge_63 v16 (fun w0 w1 w2 => L_X4_purge_42 p1 n19 w0 w1 w2)) v21 m22 = some (rv, mE) → G X K 63 [(0, .ref (xad X (3, 0, 0, 0))), (1, .int p1), (2, .int v21), (3, .int v16)] [] m22 := by
              intro v21 m22 hF
              unfold J_X4_purge_63 at hF
              refine r_iinc hk (-1) 3 (fun v24 => [(3, .int v24), (0, .ref (xad X (3, 0, 0, 0))), (1, .int p1), (2, .int v21)]) hF (dtX4_purge_0 35 (63, .iinc 3 (-1), 3) rfl) rfl (by decide) (by decide) (fun _ => rfl) (fun v24 hF => ?_)
              refine r_goto hk 42 (dtX4_purge_0 36 (66, .goto (-24), 3) rfl) (by decide) ?_
              exact r_sub hk [1, 2, 3, 0] rfl (ih19 v21 v24 m22 hF)
            refine r_if_eq hk 63 hF (dtX4_purge_0 30 (52, .ifCond .eq 11, 3) rfl) (by decide) (fun hF => ?_) (fun hF => ?_)
            · exact r_sub hk [0, 1, 2, 3] rfl (j63_23 v15 m17 hF)
            · refine r_aload_n hk 0 (dtX4_purge_0 31 (55, .aload_n 0, 1) rfl) rfl ?_
              refine r_iload_n hk 3 (dtX4_purge_0 32 (56, .iload_n 3, 1) rfl) rfl ?_
              refine r_callVm hF (fun w m25 h H locs ls hH hS hl => run_V (y := yX4_goesOut) hk (in_mo 0 (by decide)) rfl rfl (c_X4_goesOut (kl K) hk.2.2.2.2.2.2.2.2.2.2.2 X  v16 m17 w m25 h) lk_X4_88 me_X4_goesOut yf_X4_goesOut (by decide) (by decide) rfl (Nat.le_of_ble_eq_true rfl) rfl (dtX4_purge_0 33 (57, .invokevirtual 88, 3) rfl) hH hS hl) (fun _ m25 hF => ?_)
              refine r_iinc hk 1 2 (fun v26 => [(2, .int v26), (0, .ref (xad X (3, 0, 0, 0))), (1, .int p1), (3, .int v16)]) hF (dtX4_purge_0 34 (60, .iinc 2 1, 3) rfl) rfl (by decide) (by decide) (fun _ => rfl) (fun v26 hF => ?_)
              exact r_sub hk [1, 2, 0, 3] rfl (j63_23 v26 m25 hF)
      exact r_sub hk [2, 3, 1, 0] rfl (l19 fu 0 v11 m9 hF)
    · exact r_sub hk [0] rfl (j19_4 m8 hF)
set_option maxHeartbeats 4000000 in
set_option maxRecDepth 100000 in
theorem c_X4_values (l : Launch) (hlf : l.stackTraces = false) (X : XW)  (p1 : Int32) (m0 : Mem) (rv : Int32) (hF : F_X4_values p1 m0 = some rv) : MX X l yX4_values cX4_values 4 (some .int) 1 [.ref (xad X (3, 0, 0, 0)), .int p1] m0 (QI X rv m0) := by
  refine startI hlf (by decide +kernel) rfl [(0, .ref (xad X (3, 0, 0, 0))), (1, .int p1)] rfl (Nat.le_of_ble_eq_true rfl) (fun K hk hR => ?_)
  unfold F_X4_values at hF
  refine r_iconst (v := 0) hk (dtX4_values_0 0 (0, .iconst 0, 1) rfl) (by decide) ?_
  refine r_istore_n hk [(2, .int 0), (0, .ref (xad X (3, 0, 0, 0))), (1, .int p1)] (dtX4_values_0 1 (1, .istore_n 2, 1) rfl) (by decide) rfl ?_
  refine r_iconst (v := 0) hk (dtX4_values_0 2 (2, .iconst 0, 1) rfl) (by decide) ?_
  refine r_istore_n hk [(3, .int 0), (2, .int 0), (0, .ref (xad X (3, 0, 0, 0))), (1, .int p1)] (dtX4_values_0 3 (3, .istore_n 3, 1) rfl) (by decide) rfl ?_
  have e35_2 : ∀ (v1 : Int32), C_X4_values_35 v1 = some rv → G X K 35 [(2, .int v1)] [] m0 := by
    intro v1 hF
    unfold C_X4_values_35 at hF
    refine r_iload_n hk 0 (dtX4_values_0 21 (35, .iload_n 2, 1) rfl) rfl ?_
    cases Option.some.inj hF
    exact hR _ _ (dtX4_values_0 22 (36, .ireturn, 1) rfl)
  have l6 : ∀ (n6 : Nat) (v3 : Int32) (v4 : Int32), L_X4_values_4 p1 m0 n6 v3 v4 = some rv → G X K 4 [(0, .ref (xad X (3, 0, 0, 0))), (1, .int p1), (2, .int v3), (3, .int v4)] [] m0 := by
    intro n6
    induction n6 with
    | zero => intro v3 v4 hF; exact nomatch (show (none : Option Int32) = some rv from hF)
    | succ n6 ih6 =>
      intro v3 v4 hF
      rw [L_X4_values_4] at hF
      refine r_iload_n hk 3 (dtX4_values_0 4 (4, .iload_n 3, 1) rfl) rfl ?_
      refine r_bipush (v := 8) hk (dtX4_values_0 5 (5, .bipush 8, 2) rfl) (by decide) ?_
      refine r_icmp_ge hk 35 hF (dtX4_values_0 6 (7, .if_icmp .ge 28, 3) rfl) (by decide) (fun hF => ?_) (fun hF => ?_)
      · exact r_sub hk [2] rfl (e35_2 v3 hF)
      · refine r_iload_n hk 2 (dtX4_values_0 7 (10, .iload_n 2, 1) rfl) rfl ?_
        refine r_aload_n hk 0 (dtX4_values_0 8 (11, .aload_n 0, 1) rfl) rfl ?_
        refine r_iload_n hk 1 (dtX4_values_0 9 (12, .iload_n 1, 1) rfl) rfl ?_
        refine r_iload_n hk 3 (dtX4_values_0 10 (13, .iload_n 3, 1) rfl) rfl ?_
        refine r_callI hF (fun v7 h H locs ls hH hS hl => run_V (y := yX4_valueOf) hk (in_mo 0 (by decide)) rfl rfl (c_X4_valueOf (kl K) hk.2.2.2.2.2.2.2.2.2.2.2 X  p1 v4 m0 v7 h) lk_X4_118 me_X4_valueOf yf_X4_valueOf (by decide) (by decide) rfl (Nat.le_of_ble_eq_true rfl) rfl (dtX4_values_0 11 (14, .invokevirtual 118, 3) rfl) hH hS hl) (fun v7 hF => ?_)
        refine r_ldc hk cn_X4_33 (dtX4_values_0 12 (17, .ldc 33, 2) rfl) ?_
        have j27_9 : ∀ (v8 : Int32), (J_X4_values_27 v3 v4 (fun w0 w1 => L_X4_values_4 p1 m0 n6 w0 w1)) v8 = some rv → G X K 27 [(0, .ref (xad X (3, 0, 0, 0))), (1, .int p1), (3, .int v4)] [.int v8, .int v3] m0 := by
          intro v8 hF
          unfold J_X4_values_27 at hF
          refine r_iadd hk hF (dtX4_values_0 17 (27, .iadd, 1) rfl) (fun v10 hF => ?_)
          refine r_istore_n hk [(2, .int v10), (0, .ref (xad X (3, 0, 0, 0))), (1, .int p1), (3, .int v4)] (dtX4_values_0 18 (28, .istore_n 2, 1) rfl) (by decide) rfl ?_
          refine r_iinc hk 1 3 (fun v11 => [(3, .int v11), (2, .int v10), (0, .ref (xad X (3, 0, 0, 0))), (1, .int p1)]) hF (dtX4_values_0 19 (29, .iinc 3 1, 3) rfl) rfl (by decide) (by decide) (fun _ => rfl) (fun v11 hF => ?_)
          refine r_goto hk 4 (dtX4_values_0 20 (32, .goto (-28), 3) rfl) (by decide) ?_
          exact r_sub hk [2, 3, 1, 0] rfl (ih6 v10 v11 hF)
        refine r_icmp_ne hk 26 hF (dtX4_values_0 13 (19, .if_icmp .ne 7, 3) rfl) (by decide) (fun hF => ?_) (fun hF => ?_)
        · refine r_iconst (v := 1) hk (dtX4_values_0 16 (26, .iconst 1, 1) rfl) (by decide) ?_
          exact r_sub hk [0, 1, 3] rfl (j27_9 1 hF)
        · refine r_iconst (v := 0) hk (dtX4_values_0 14 (22, .iconst 0, 1) rfl) (by decide) ?_
          refine r_goto hk 27 (dtX4_values_0 15 (23, .goto 4, 3) rfl) (by decide) ?_
          exact r_sub hk [0, 1, 3] rfl (j27_9 0 hF)
  exact r_sub hk [2, 3, 1, 0] rfl (l6 fu 0 0 hF)
