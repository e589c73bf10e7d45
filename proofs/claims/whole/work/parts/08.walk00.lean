/-! the walks (written by dec.py) -/
set_option maxHeartbeats 4000000 in
set_option maxRecDepth 100000 in
theorem c_X3_clearBuffer (l : Launch) (hlf : l.stackTraces = false) (X : XW)   (m0 : Mem) (rv : Int32) (mE : Mem) (hF : F_X3_clearBuffer m0 = some (rv, mE)) : MX X l yX3_clearBuffer cX3_clearBuffer 2 (some .int) 0 [.ref (xad X (0, 0, 0, 0))] m0 (QI X rv mE) := by
  refine startI hlf (by decide +kernel) rfl [(0, .ref (xad X (0, 0, 0, 0)))] rfl (Nat.le_of_ble_eq_true rfl) (fun K hk hR => ?_)
  unfold F_X3_clearBuffer at hF
  refine r_aload_n hk 0 (dtX3_clearBuffer_0 0 (0, .aload_n 0, 1) rfl) rfl ?_
  refine r_getI hk (k := 6) (fsX3 X) cbX3 (by decide) fl_X3_145 (in_main 0 (by decide)) (fun _ => rfl) (fun _ _ => rfl) hF (dtX3_clearBuffer_0 1 (1, .getfield 145, 3) rfl) (fun v1 hF => ?_)
  refine r_istore_n hk [(1, .int v1), (0, .ref (xad X (0, 0, 0, 0)))] (dtX3_clearBuffer_0 2 (4, .istore_n 1, 1) rfl) (by decide) rfl ?_
  refine r_aload_n hk 1 (dtX3_clearBuffer_0 3 (5, .aload_n 0, 1) rfl) rfl ?_
  refine r_iconst (v := 0) hk (dtX3_clearBuffer_0 4 (6, .iconst 0, 1) rfl) (by decide) ?_
  refine r_putI hk (k := 6) (fsX3 X) cbX3 (by decide) fl_X3_145 (in_main 0 (by decide)) (fun _ => rfl) rfl rfl (fun _ _ _ => rfl) (fun _ _ => (by decide : 6 < 7)) hF (dtX3_clearBuffer_0 5 (7, .putfield 145, 3) rfl) (fun m2 hF => ?_)
  refine r_iload_n hk 0 (dtX3_clearBuffer_0 6 (10, .iload_n 1, 1) rfl) rfl ?_
  cases Option.some.inj hF
  exact hR _ _ (dtX3_clearBuffer_0 7 (11, .ireturn, 1) rfl)
set_option maxHeartbeats 4000000 in
set_option maxRecDepth 100000 in
theorem c_X0_takeLetter (l : Launch) (hlf : l.stackTraces = false) (X : XW)  (p1 : Int32) (m0 : Mem) (rv : Int32) (mE : Mem) (hF : F_X0_takeLetter p1 m0 = some (rv, mE)) : MX X l yX0_takeLetter cX0_takeLetter 2 (some .boolean) 0 [.ref (xad X (0, 0, 0, 3)), .int p1] m0 (QI X rv mE) := by
  refine startZ hlf (by decide +kernel) rfl [(0, .ref (xad X (0, 0, 0, 3))), (1, .int p1)] rfl (Nat.le_of_ble_eq_true rfl) (fun K hk hR => ?_)
  unfold F_X0_takeLetter at hF
  refine r_iload_n hk 1 (dtX0_takeLetter_0 0 (0, .iload_n 1, 1) rfl) rfl ?_
  refine r_bipush (v := 97) hk (dtX0_takeLetter_0 1 (1, .bipush 97, 2) rfl) (by decide) ?_
  have j21_1 : (J_X0_takeLetter_21 m0) = some (rv, mE) → G X K 21 [] [] m0 := by
    intro hF
    unfold J_X0_takeLetter_21 at hF
    refine r_iconst (v := 0) hk (dtX0_takeLetter_0 10 (21, .iconst 0, 1) rfl) (by decide) ?_
    obtain ⟨hz, hF⟩ := ck_some hF
    cases Option.some.inj hF
    exact hR _ _ hz (dtX0_takeLetter_0 11 (22, .ireturn, 1) rfl)
  refine r_icmp_lt hk 21 hF (dtX0_takeLetter_0 2 (3, .if_icmp .lt 18, 3) rfl) (by decide) (fun hF => ?_) (fun hF => ?_)
  · exact r_sub hk [] rfl (j21_1 hF)
  · refine r_iload_n hk 1 (dtX0_takeLetter_0 3 (6, .iload_n 1, 1) rfl) rfl ?_
    refine r_bipush (v := 104) hk (dtX0_takeLetter_0 4 (7, .bipush 104, 2) rfl) (by decide) ?_
    refine r_icmp_gt hk 21 hF (dtX0_takeLetter_0 5 (9, .if_icmp .gt 12, 3) rfl) (by decide) (fun hF => ?_) (fun hF => ?_)
    · exact r_sub hk [] rfl (j21_1 hF)
    · refine r_aload_n hk 0 (dtX0_takeLetter_0 6 (12, .aload_n 0, 1) rfl) rfl ?_
      refine r_getI hk (k := 3) (fsX0 X) cbX0 (by decide) fl_X0_21 (in_main 3 (by decide)) (fun _ => rfl) (fun _ _ => rfl) hF (dtX0_takeLetter_0 7 (13, .getfield 21, 3) rfl) (fun v2 hF => ?_)
      refine r_bipush (v := 10) hk (dtX0_takeLetter_0 8 (16, .bipush 10, 2) rfl) (by decide) ?_
      refine r_icmp_lt hk 23 hF (dtX0_takeLetter_0 9 (18, .if_icmp .lt 5, 3) rfl) (by decide) (fun hF => ?_) (fun hF => ?_)
      · refine r_aload_n hk 0 (dtX0_takeLetter_0 12 (23, .aload_n 0, 1) rfl) rfl ?_
        refine r_getR hk (k := 0) (fsX0 X) cbX0 (by decide) fl_X0_9 (in_main 3 (by decide)) (fun _ => rfl) (fun _ _ => rfl) (dtX0_takeLetter_0 13 (24, .getfield 9, 3) rfl) ?_
        refine r_aload_n hk 0 (dtX0_takeLetter_0 14 (27, .aload_n 0, 1) rfl) rfl ?_
        refine r_getI hk (k := 3) (fsX0 X) cbX0 (by decide) fl_X0_21 (in_main 3 (by decide)) (fun _ => rfl) (fun _ _ => rfl) hF (dtX0_takeLetter_0 15 (28, .getfield 21, 3) rfl) (fun v3 hF => ?_)
        refine r_iload_n hk 1 (dtX0_takeLetter_0 16 (31, .iload_n 1, 1) rfl) rfl ?_
        refine r_bipush (v := 97) hk (dtX0_takeLetter_0 17 (32, .bipush 97, 2) rfl) (by decide) ?_
        refine r_isub hk hF (dtX0_takeLetter_0 18 (34, .isub, 1) rfl) (fun v4 hF => ?_)
        refine r_iast hk (in_main 5 (by decide)) (fun _ => rfl) hF (dtX0_takeLetter_0 19 (35, .iastore, 1) rfl) (fun m5 hF => ?_)
        refine r_aload_n hk 0 (dtX0_takeLetter_0 20 (36, .aload_n 0, 1) rfl) rfl ?_
        refine r_getR hk (k := 1) (fsX0 X) cbX0 (by decide) fl_X0_15 (in_main 3 (by decide)) (fun _ => rfl) (fun _ _ => rfl) (dtX0_takeLetter_0 21 (37, .getfield 15, 3) rfl) ?_
        refine r_aload_n hk 0 (dtX0_takeLetter_0 22 (40, .aload_n 0, 1) rfl) rfl ?_
        refine r_getI hk (k := 3) (fsX0 X) cbX0 (by decide) fl_X0_21 (in_main 3 (by decide)) (fun _ => rfl) (fun _ _ => rfl) hF (dtX0_takeLetter_0 23 (41, .getfield 21, 3) rfl) (fun v6 hF => ?_)
        refine r_iconst (v := 0) hk (dtX0_takeLetter_0 24 (44, .iconst 0, 1) rfl) (by decide) ?_
        refine r_iast hk (in_main 6 (by decide)) (fun _ => rfl) hF (dtX0_takeLetter_0 25 (45, .iastore, 1) rfl) (fun m7 hF => ?_)
        refine r_aload_n hk 0 (dtX0_takeLetter_0 26 (46, .aload_n 0, 1) rfl) rfl ?_
        refine r_getR hk (k := 2) (fsX0 X) cbX0 (by decide) fl_X0_18 (in_main 3 (by decide)) (fun _ => rfl) (fun _ _ => rfl) (dtX0_takeLetter_0 27 (47, .getfield 18, 3) rfl) ?_
        refine r_aload_n hk 0 (dtX0_takeLetter_0 28 (50, .aload_n 0, 1) rfl) rfl ?_
        refine r_getI hk (k := 3) (fsX0 X) cbX0 (by decide) fl_X0_21 (in_main 3 (by decide)) (fun _ => rfl) (fun _ _ => rfl) hF (dtX0_takeLetter_0 29 (51, .getfield 21, 3) rfl) (fun v8 hF => ?_)
        refine r_iconst (v := 0) hk (dtX0_takeLetter_0 30 (54, .iconst 0, 1) rfl) (by decide) ?_
        refine r_iast hk (in_main 7 (by decide)) (fun _ => rfl) hF (dtX0_takeLetter_0 31 (55, .iastore, 1) rfl) (fun m9 hF => ?_)
        refine r_aload_n hk 0 (dtX0_takeLetter_0 32 (56, .aload_n 0, 1) rfl) rfl ?_
        refine r_iconst (v := 0) hk (dtX0_takeLetter_0 33 (57, .iconst 0, 1) rfl) (by decide) ?_
        refine r_putZ hk (k := 5) (fsX0 X) cbX0 (by decide) fl_X0_51 (in_main 3 (by decide)) (fun _ => rfl) rfl rfl (fun _ _ _ => rfl) (fun _ _ => (by decide : 5 < 6)) hF (dtX0_takeLetter_0 34 (58, .putfield 51, 3) rfl) (fun m10 hF => ?_)
        refine r_aload_n hk 0 (dtX0_takeLetter_0 35 (61, .aload_n 0, 1) rfl) rfl ?_
        refine r_dup hk (dtX0_takeLetter_0 36 (62, .dup, 1) rfl) rfl ?_
        refine r_getI hk (k := 3) (fsX0 X) cbX0 (by decide) fl_X0_21 (in_main 3 (by decide)) (fun _ => rfl) (fun _ _ => rfl) hF (dtX0_takeLetter_0 37 (63, .getfield 21, 3) rfl) (fun v11 hF => ?_)
        refine r_iconst (v := 1) hk (dtX0_takeLetter_0 38 (66, .iconst 1, 1) rfl) (by decide) ?_
        refine r_iadd hk hF (dtX0_takeLetter_0 39 (67, .iadd, 1) rfl) (fun v12 hF => ?_)
        refine r_putI hk (k := 3) (fsX0 X) cbX0 (by decide) fl_X0_21 (in_main 3 (by decide)) (fun _ => rfl) rfl rfl (fun _ _ _ => rfl) (fun _ _ => (by decide : 3 < 6)) hF (dtX0_takeLetter_0 40 (68, .putfield 21, 3) rfl) (fun m13 hF => ?_)
        refine r_aload_n hk 0 (dtX0_takeLetter_0 41 (71, .aload_n 0, 1) rfl) rfl ?_
        refine r_iconst (v := 1) hk (dtX0_takeLetter_0 42 (72, .iconst 1, 1) rfl) (by decide) ?_
        refine r_putI hk (k := 4) (fsX0 X) cbX0 (by decide) fl_X0_25 (in_main 3 (by decide)) (fun _ => rfl) rfl rfl (fun _ _ _ => rfl) (fun _ _ => (by decide : 4 < 6)) hF (dtX0_takeLetter_0 43 (73, .putfield 25, 3) rfl) (fun m14 hF => ?_)
        refine r_iconst (v := 1) hk (dtX0_takeLetter_0 44 (76, .iconst 1, 1) rfl) (by decide) ?_
        obtain ⟨hz, hF⟩ := ck_some hF
        cases Option.some.inj hF
        exact hR _ _ hz (dtX0_takeLetter_0 45 (77, .ireturn, 1) rfl)
      · exact r_sub hk [] rfl (j21_1 hF)
set_option maxHeartbeats 4000000 in
set_option maxRecDepth 100000 in
theorem c_X0_takeSign (l : Launch) (hlf : l.stackTraces = false) (X : XW)  (p1 : Int32) (m0 : Mem) (rv : Int32) (mE : Mem) (hF : F_X0_takeSign p1 m0 = some (rv, mE)) : MX X l yX0_takeSign cX0_takeSign 2 (some .boolean) 0 [.ref (xad X (0, 0, 0, 3)), .int p1] m0 (QI X rv mE) := by
  refine startZ hlf (by decide +kernel) rfl [(0, .ref (xad X (0, 0, 0, 3))), (1, .int p1)] rfl (Nat.le_of_ble_eq_true rfl) (fun K hk hR => ?_)
  unfold F_X0_takeSign at hF
  refine r_aload_n hk 0 (dtX0_takeSign_0 0 (0, .aload_n 0, 1) rfl) rfl ?_
  refine r_getI hk (k := 3) (fsX0 X) cbX0 (by decide) fl_X0_21 (in_main 3 (by decide)) (fun _ => rfl) (fun _ _ => rfl) hF (dtX0_takeSign_0 1 (1, .getfield 21, 3) rfl) (fun v1 hF => ?_)
  have j25_2 : (J_X0_takeSign_25 m0) = some (rv, mE) → G X K 25 [] [] m0 := by
    intro hF
    unfold J_X0_takeSign_25 at hF
    refine r_iconst (v := 0) hk (dtX0_takeSign_0 12 (25, .iconst 0, 1) rfl) (by decide) ?_
    obtain ⟨hz, hF⟩ := ck_some hF
    cases Option.some.inj hF
    exact hR _ _ hz (dtX0_takeSign_0 13 (26, .ireturn, 1) rfl)
  refine r_if_le hk 25 hF (dtX0_takeSign_0 2 (4, .ifCond .le 21, 3) rfl) (by decide) (fun hF => ?_) (fun hF => ?_)
  · exact r_sub hk [] rfl (j25_2 hF)
  · refine r_iload_n hk 1 (dtX0_takeSign_0 3 (7, .iload_n 1, 1) rfl) rfl ?_
    refine r_bipush (v := 61) hk (dtX0_takeSign_0 4 (8, .bipush 61, 2) rfl) (by decide) ?_
    have j27_3 : (J_X0_takeSign_27 p1 m0) = some (rv, mE) → G X K 27 [(0, .ref (xad X (0, 0, 0, 3))), (1, .int p1)] [] m0 := by
      intro hF
      unfold J_X0_takeSign_27 at hF
      refine r_aload_n hk 0 (dtX0_takeSign_0 14 (27, .aload_n 0, 1) rfl) rfl ?_
      refine r_getR hk (k := 1) (fsX0 X) cbX0 (by decide) fl_X0_15 (in_main 3 (by decide)) (fun _ => rfl) (fun _ _ => rfl) (dtX0_takeSign_0 15 (28, .getfield 15, 3) rfl) ?_
      refine r_aload_n hk 0 (dtX0_takeSign_0 16 (31, .aload_n 0, 1) rfl) rfl ?_
      refine r_getI hk (k := 3) (fsX0 X) cbX0 (by decide) fl_X0_21 (in_main 3 (by decide)) (fun _ => rfl) (fun _ _ => rfl) hF (dtX0_takeSign_0 17 (32, .getfield 21, 3) rfl) (fun v4 hF => ?_)
      refine r_iconst (v := 1) hk (dtX0_takeSign_0 18 (35, .iconst 1, 1) rfl) (by decide) ?_
      refine r_isub hk hF (dtX0_takeSign_0 19 (36, .isub, 1) rfl) (fun v5 hF => ?_)
      refine r_iload_n hk 1 (dtX0_takeSign_0 20 (37, .iload_n 1, 1) rfl) rfl ?_
      refine r_iast hk (in_main 6 (by decide)) (fun _ => rfl) hF (dtX0_takeSign_0 21 (38, .iastore, 1) rfl) (fun m6 hF => ?_)
      refine r_aload_n hk 0 (dtX0_takeSign_0 22 (39, .aload_n 0, 1) rfl) rfl ?_
      refine r_iconst (v := 2) hk (dtX0_takeSign_0 23 (40, .iconst 2, 1) rfl) (by decide) ?_
      refine r_putI hk (k := 4) (fsX0 X) cbX0 (by decide) fl_X0_25 (in_main 3 (by decide)) (fun _ => rfl) rfl rfl (fun _ _ _ => rfl) (fun _ _ => (by decide : 4 < 6)) hF (dtX0_takeSign_0 24 (41, .putfield 25, 3) rfl) (fun m7 hF => ?_)
      refine r_iconst (v := 1) hk (dtX0_takeSign_0 25 (44, .iconst 1, 1) rfl) (by decide) ?_
      obtain ⟨hz, hF⟩ := ck_some hF
      cases Option.some.inj hF
      exact hR _ _ hz (dtX0_takeSign_0 26 (45, .ireturn, 1) rfl)
    refine r_icmp_eq hk 27 hF (dtX0_takeSign_0 5 (10, .if_icmp .eq 17, 3) rfl) (by decide) (fun hF => ?_) (fun hF => ?_)
    · exact r_sub hk [0, 1] rfl (j27_3 hF)
    · refine r_iload_n hk 1 (dtX0_takeSign_0 6 (13, .iload_n 1, 1) rfl) rfl ?_
      refine r_bipush (v := 60) hk (dtX0_takeSign_0 7 (14, .bipush 60, 2) rfl) (by decide) ?_
      refine r_icmp_eq hk 27 hF (dtX0_takeSign_0 8 (16, .if_icmp .eq 11, 3) rfl) (by decide) (fun hF => ?_) (fun hF => ?_)
      · exact r_sub hk [0, 1] rfl (j27_3 hF)
      · refine r_iload_n hk 1 (dtX0_takeSign_0 9 (19, .iload_n 1, 1) rfl) rfl ?_
        refine r_bipush (v := 62) hk (dtX0_takeSign_0 10 (20, .bipush 62, 2) rfl) (by decide) ?_
        refine r_icmp_eq hk 27 hF (dtX0_takeSign_0 11 (22, .if_icmp .eq 5, 3) rfl) (by decide) (fun hF => ?_) (fun hF => ?_)
        · exact r_sub hk [0, 1] rfl (j27_3 hF)
        · exact r_sub hk [] rfl (j25_2 hF)
set_option maxHeartbeats 4000000 in
set_option maxRecDepth 100000 in
theorem c_X0_takeMinus (l : Launch) (hlf : l.stackTraces = false) (X : XW)  (p1 : Int32) (m0 : Mem) (rv : Int32) (mE : Mem) (hF : F_X0_takeMinus p1 m0 = some (rv, mE)) : MX X l yX0_takeMinus cX0_takeMinus 2 (some .boolean) 0 [.ref (xad X (0, 0, 0, 3)), .int p1] m0 (QI X rv mE) := by
  refine startZ hlf (by decide +kernel) rfl [(0, .ref (xad X (0, 0, 0, 3))), (1, .int p1)] rfl (Nat.le_of_ble_eq_true rfl) (fun K hk hR => ?_)
  unfold F_X0_takeMinus at hF
  refine r_iload_n hk 1 (dtX0_takeMinus_0 0 (0, .iload_n 1, 1) rfl) rfl ?_
  refine r_bipush (v := 45) hk (dtX0_takeMinus_0 1 (1, .bipush 45, 2) rfl) (by decide) ?_
  refine r_icmp_eq hk 8 hF (dtX0_takeMinus_0 2 (3, .if_icmp .eq 5, 3) rfl) (by decide) (fun hF => ?_) (fun hF => ?_)
  · refine r_aload_n hk 0 (dtX0_takeMinus_0 5 (8, .aload_n 0, 1) rfl) rfl ?_
    refine r_iconst (v := 1) hk (dtX0_takeMinus_0 6 (9, .iconst 1, 1) rfl) (by decide) ?_
    refine r_putZ hk (k := 5) (fsX0 X) cbX0 (by decide) fl_X0_51 (in_main 3 (by decide)) (fun _ => rfl) rfl rfl (fun _ _ _ => rfl) (fun _ _ => (by decide : 5 < 6)) hF (dtX0_takeMinus_0 7 (10, .putfield 51, 3) rfl) (fun m1 hF => ?_)
    refine r_aload_n hk 0 (dtX0_takeMinus_0 8 (13, .aload_n 0, 1) rfl) rfl ?_
    refine r_iconst (v := 3) hk (dtX0_takeMinus_0 9 (14, .iconst 3, 1) rfl) (by decide) ?_
    refine r_putI hk (k := 4) (fsX0 X) cbX0 (by decide) fl_X0_25 (in_main 3 (by decide)) (fun _ => rfl) rfl rfl (fun _ _ _ => rfl) (fun _ _ => (by decide : 4 < 6)) hF (dtX0_takeMinus_0 10 (15, .putfield 25, 3) rfl) (fun m2 hF => ?_)
    refine r_iconst (v := 1) hk (dtX0_takeMinus_0 11 (18, .iconst 1, 1) rfl) (by decide) ?_
    obtain ⟨hz, hF⟩ := ck_some hF
    cases Option.some.inj hF
    exact hR _ _ hz (dtX0_takeMinus_0 12 (19, .ireturn, 1) rfl)
  · refine r_iconst (v := 0) hk (dtX0_takeMinus_0 3 (6, .iconst 0, 1) rfl) (by decide) ?_
    obtain ⟨hz, hF⟩ := ck_some hF
    cases Option.some.inj hF
    exact hR _ _ hz (dtX0_takeMinus_0 4 (7, .ireturn, 1) rfl)
set_option maxHeartbeats 4000000 in
set_option maxRecDepth 100000 in
theorem c_X0_takeDigit (l : Launch) (hlf : l.stackTraces = false) (X : XW)  (p1 : Int32) (m0 : Mem) (rv : Int32) (mE : Mem) (hF : F_X0_takeDigit p1 m0 = some (rv, mE)) : MX X l yX0_takeDigit cX0_takeDigit 3 (some .boolean) 0 [.ref (xad X (0, 0, 0, 3)), .int p1] m0 (QI X rv mE) := by
  refine startZ hlf (by decide +kernel) rfl [(0, .ref (xad X (0, 0, 0, 3))), (1, .int p1)] rfl (Nat.le_of_ble_eq_true rfl) (fun K hk hR => ?_)
  unfold F_X0_takeDigit at hF
  refine r_aload_n hk 0 (dtX0_takeDigit_0 0 (0, .aload_n 0, 1) rfl) rfl ?_
  refine r_getI hk (k := 3) (fsX0 X) cbX0 (by decide) fl_X0_21 (in_main 3 (by decide)) (fun _ => rfl) (fun _ _ => rfl) hF (dtX0_takeDigit_0 1 (1, .getfield 21, 3) rfl) (fun v1 hF => ?_)
  have j19_2 : (J_X0_takeDigit_19 m0) = some (rv, mE) → G X K 19 [] [] m0 := by
    intro hF
    unfold J_X0_takeDigit_19 at hF
    refine r_iconst (v := 0) hk (dtX0_takeDigit_0 9 (19, .iconst 0, 1) rfl) (by decide) ?_
    obtain ⟨hz, hF⟩ := ck_some hF
    cases Option.some.inj hF
    exact hR _ _ hz (dtX0_takeDigit_0 10 (20, .ireturn, 1) rfl)
  refine r_if_le hk 19 hF (dtX0_takeDigit_0 2 (4, .ifCond .le 15, 3) rfl) (by decide) (fun hF => ?_) (fun hF => ?_)
  · exact r_sub hk [] rfl (j19_2 hF)
  · refine r_iload_n hk 1 (dtX0_takeDigit_0 3 (7, .iload_n 1, 1) rfl) rfl ?_
    refine r_bipush (v := 48) hk (dtX0_takeDigit_0 4 (8, .bipush 48, 2) rfl) (by decide) ?_
    refine r_icmp_lt hk 19 hF (dtX0_takeDigit_0 5 (10, .if_icmp .lt 9, 3) rfl) (by decide) (fun hF => ?_) (fun hF => ?_)
    · exact r_sub hk [] rfl (j19_2 hF)
    · refine r_iload_n hk 1 (dtX0_takeDigit_0 6 (13, .iload_n 1, 1) rfl) rfl ?_
      refine r_bipush (v := 57) hk (dtX0_takeDigit_0 7 (14, .bipush 57, 2) rfl) (by decide) ?_
      refine r_icmp_le hk 21 hF (dtX0_takeDigit_0 8 (16, .if_icmp .le 5, 3) rfl) (by decide) (fun hF => ?_) (fun hF => ?_)
      · refine r_iload_n hk 1 (dtX0_takeDigit_0 11 (21, .iload_n 1, 1) rfl) rfl ?_
        refine r_bipush (v := 48) hk (dtX0_takeDigit_0 12 (22, .bipush 48, 2) rfl) (by decide) ?_
        refine r_isub hk hF (dtX0_takeDigit_0 13 (24, .isub, 1) rfl) (fun v3 hF => ?_)
        refine r_istore_n hk [(2, .int v3), (0, .ref (xad X (0, 0, 0, 3))), (1, .int p1)] (dtX0_takeDigit_0 14 (25, .istore_n 2, 1) rfl) (by decide) rfl ?_
        refine r_aload_n hk 1 (dtX0_takeDigit_0 15 (26, .aload_n 0, 1) rfl) rfl ?_
        refine r_getR hk (k := 2) (fsX0 X) cbX0 (by decide) fl_X0_18 (in_main 3 (by decide)) (fun _ => rfl) (fun _ _ => rfl) (dtX0_takeDigit_0 16 (27, .getfield 18, 3) rfl) ?_
        refine r_aload_n hk 1 (dtX0_takeDigit_0 17 (30, .aload_n 0, 1) rfl) rfl ?_
        refine r_getI hk (k := 3) (fsX0 X) cbX0 (by decide) fl_X0_21 (in_main 3 (by decide)) (fun _ => rfl) (fun _ _ => rfl) hF (dtX0_takeDigit_0 18 (31, .getfield 21, 3) rfl) (fun v4 hF => ?_)
        refine r_iconst (v := 1) hk (dtX0_takeDigit_0 19 (34, .iconst 1, 1) rfl) (by decide) ?_
        refine r_isub hk hF (dtX0_takeDigit_0 20 (35, .isub, 1) rfl) (fun v5 hF => ?_)
        refine r_aload_n hk 1 (dtX0_takeDigit_0 21 (36, .aload_n 0, 1) rfl) rfl ?_
        refine r_getR hk (k := 2) (fsX0 X) cbX0 (by decide) fl_X0_18 (in_main 3 (by decide)) (fun _ => rfl) (fun _ _ => rfl) (dtX0_takeDigit_0 22 (37, .getfield 18, 3) rfl) ?_
        refine r_aload_n hk 1 (dtX0_takeDigit_0 23 (40, .aload_n 0, 1) rfl) rfl ?_
        refine r_getI hk (k := 3) (fsX0 X) cbX0 (by decide) fl_X0_21 (in_main 3 (by decide)) (fun _ => rfl) (fun _ _ => rfl) hF (dtX0_takeDigit_0 24 (41, .getfield 21, 3) rfl) (fun v6 hF => ?_)
        refine r_iconst (v := 1) hk (dtX0_takeDigit_0 25 (44, .iconst 1, 1) rfl) (by decide) ?_
        refine r_isub hk hF (dtX0_takeDigit_0 26 (45, .isub, 1) rfl) (fun v7 hF => ?_)
        refine r_iald hk (in_main 7 (by decide)) (fun _ => rfl) hF (dtX0_takeDigit_0 27 (46, .iaload, 1) rfl) (fun v8 hF => ?_)
        refine r_bipush (v := 10) hk (dtX0_takeDigit_0 28 (47, .bipush 10, 2) rfl) (by decide) ?_
        refine r_imul hk hF (dtX0_takeDigit_0 29 (49, .imul, 1) rfl) (fun v9 hF => ?_)
        refine r_aload_n hk 1 (dtX0_takeDigit_0 30 (50, .aload_n 0, 1) rfl) rfl ?_
        refine r_getI hk (k := 5) (fsX0 X) cbX0 (by decide) fl_X0_51 (in_main 3 (by decide)) (fun _ => rfl) (fun _ _ => rfl) hF (dtX0_takeDigit_0 31 (51, .getfield 51, 3) rfl) (fun v10 hF => ?_)
        have j63_12 : ∀ (v11 : Int32), (J_X0_takeDigit_63 m0 v5 v9) v11 = some (rv, mE) → G X K 63 [(0, .ref (xad X (0, 0, 0, 3)))] [.int v11, .int v9, .int v5, .ref (xad X (0, 0, 0, 7))] m0 := by
          intro v11 hF
          unfold J_X0_takeDigit_63 at hF
          refine r_iadd hk hF (dtX0_takeDigit_0 37 (63, .iadd, 1) rfl) (fun v13 hF => ?_)
          refine r_iast hk (in_main 7 (by decide)) (fun _ => rfl) hF (dtX0_takeDigit_0 38 (64, .iastore, 1) rfl) (fun m14 hF => ?_)
          refine r_aload_n hk 0 (dtX0_takeDigit_0 39 (65, .aload_n 0, 1) rfl) rfl ?_
          refine r_iconst (v := 4) hk (dtX0_takeDigit_0 40 (66, .iconst 4, 1) rfl) (by decide) ?_
          refine r_putI hk (k := 4) (fsX0 X) cbX0 (by decide) fl_X0_25 (in_main 3 (by decide)) (fun _ => rfl) rfl rfl (fun _ _ _ => rfl) (fun _ _ => (by decide : 4 < 6)) hF (dtX0_takeDigit_0 41 (67, .putfield 25, 3) rfl) (fun m15 hF => ?_)
          refine r_iconst (v := 1) hk (dtX0_takeDigit_0 42 (70, .iconst 1, 1) rfl) (by decide) ?_
          obtain ⟨hz, hF⟩ := ck_some hF
          cases Option.some.inj hF
          exact hR _ _ hz (dtX0_takeDigit_0 43 (71, .ireturn, 1) rfl)
        refine r_if_eq hk 62 hF (dtX0_takeDigit_0 32 (54, .ifCond .eq 8, 3) rfl) (by decide) (fun hF => ?_) (fun hF => ?_)
        · refine r_iload_n hk 0 (dtX0_takeDigit_0 36 (62, .iload_n 2, 1) rfl) rfl ?_
          exact r_sub hk [1] rfl (j63_12 v3 hF)
        · refine r_iload_n hk 0 (dtX0_takeDigit_0 33 (57, .iload_n 2, 1) rfl) rfl ?_
          refine r_ineg hk hF (dtX0_takeDigit_0 34 (58, .ineg, 1) rfl) (fun v16 hF => ?_)
          refine r_goto hk 63 (dtX0_takeDigit_0 35 (59, .goto 4, 3) rfl) (by decide) ?_
          exact r_sub hk [1] rfl (j63_12 v16 hF)
      · exact r_sub hk [] rfl (j19_2 hF)
set_option maxHeartbeats 4000000 in
set_option maxRecDepth 100000 in
theorem c_X0_takeAnd (l : Launch) (hlf : l.stackTraces = false) (X : XW)  (p1 : Int32) (m0 : Mem) (rv : Int32) (mE : Mem) (hF : F_X0_takeAnd p1 m0 = some (rv, mE)) : MX X l yX0_takeAnd cX0_takeAnd 2 (some .boolean) 0 [.ref (xad X (0, 0, 0, 3)), .int p1] m0 (QI X rv mE) := by
  refine startZ hlf (by decide +kernel) rfl [(0, .ref (xad X (0, 0, 0, 3))), (1, .int p1)] rfl (Nat.le_of_ble_eq_true rfl) (fun K hk hR => ?_)
  unfold F_X0_takeAnd at hF
  refine r_iload_n hk 1 (dtX0_takeAnd_0 0 (0, .iload_n 1, 1) rfl) rfl ?_
  refine r_bipush (v := 38) hk (dtX0_takeAnd_0 1 (1, .bipush 38, 2) rfl) (by decide) ?_
  refine r_icmp_eq hk 8 hF (dtX0_takeAnd_0 2 (3, .if_icmp .eq 5, 3) rfl) (by decide) (fun hF => ?_) (fun hF => ?_)
  · refine r_aload_n hk 0 (dtX0_takeAnd_0 5 (8, .aload_n 0, 1) rfl) rfl ?_
    refine r_iconst (v := 0) hk (dtX0_takeAnd_0 6 (9, .iconst 0, 1) rfl) (by decide) ?_
    refine r_putI hk (k := 4) (fsX0 X) cbX0 (by decide) fl_X0_25 (in_main 3 (by decide)) (fun _ => rfl) rfl rfl (fun _ _ _ => rfl) (fun _ _ => (by decide : 4 < 6)) hF (dtX0_takeAnd_0 7 (10, .putfield 25, 3) rfl) (fun m1 hF => ?_)
    refine r_iconst (v := 1) hk (dtX0_takeAnd_0 8 (13, .iconst 1, 1) rfl) (by decide) ?_
    obtain ⟨hz, hF⟩ := ck_some hF
    cases Option.some.inj hF
    exact hR _ _ hz (dtX0_takeAnd_0 9 (14, .ireturn, 1) rfl)
  · refine r_iconst (v := 0) hk (dtX0_takeAnd_0 3 (6, .iconst 0, 1) rfl) (by decide) ?_
    obtain ⟨hz, hF⟩ := ck_some hF
    cases Option.some.inj hF
    exact hR _ _ hz (dtX0_takeAnd_0 4 (7, .ireturn, 1) rfl)
set_option maxHeartbeats 4000000 in
set_option maxRecDepth 100000 in
theorem c_X0_mayGrow (l : Launch) (hlf : l.stackTraces = false) (X : XW)   (m0 : Mem) (rv : Int32) (hF : F_X0_mayGrow m0 = some rv) : MX X l yX0_mayGrow cX0_mayGrow 2 (some .boolean) 1 [.ref (xad X (0, 0, 0, 3))] m0 (QI X rv m0) := by
  refine startZ hlf (by decide +kernel) rfl [(0, .ref (xad X (0, 0, 0, 3)))] rfl (Nat.le_of_ble_eq_true rfl) (fun K hk hR => ?_)
  unfold F_X0_mayGrow at hF
  refine r_aload_n hk 0 (dtX0_mayGrow_0 0 (0, .aload_n 0, 1) rfl) rfl ?_
  refine r_getI hk (k := 3) (fsX0 X) cbX0 (by decide) fl_X0_21 (in_main 3 (by decide)) (fun _ => rfl) (fun _ _ => rfl) hF (dtX0_mayGrow_0 1 (1, .getfield 21, 3) rfl) (fun v1 hF => ?_)
  have j25_3 : ∀ (v2 : Int32), J_X0_mayGrow_25 v2 = some rv → G X K 25 [] [.int v2] m0 := by
    intro v2 hF
    unfold J_X0_mayGrow_25 at hF
    refine r_istore_n hk [(1, .int v2)] (dtX0_mayGrow_0 13 (25, .istore_n 1, 1) rfl) (by decide) rfl ?_
    refine r_iload_n hk 0 (dtX0_mayGrow_0 14 (26, .iload_n 1, 1) rfl) rfl ?_
    have j42_5 : ∀ (v4 : Int32), J_X0_mayGrow_42 v4 = some rv → G X K 42 [] [.int v4] m0 := by
      intro v4 hF
      unfold J_X0_mayGrow_42 at hF
      obtain ⟨hz, hF⟩ := ck_some hF
      cases Option.some.inj hF
      exact hR _ _ hz (dtX0_mayGrow_0 22 (42, .ireturn, 1) rfl)
    have j41_6 : J_X0_mayGrow_41 = some rv → G X K 41 [] [] m0 := by
      intro hF
      unfold J_X0_mayGrow_41 at hF
      refine r_iconst (v := 0) hk (dtX0_mayGrow_0 21 (41, .iconst 0, 1) rfl) (by decide) ?_
      exact r_sub hk [] rfl (j42_5 0 hF)
    refine r_if_le hk 41 hF (dtX0_mayGrow_0 15 (27, .ifCond .le 14, 3) rfl) (by decide) (fun hF => ?_) (fun hF => ?_)
    · exact r_sub hk [] rfl (j41_6 hF)
    · refine r_iload_n hk 0 (dtX0_mayGrow_0 16 (30, .iload_n 1, 1) rfl) rfl ?_
      refine r_sipush (v := 1000) hk (dtX0_mayGrow_0 17 (31, .sipush 1000, 3) rfl) (by decide) ?_
      refine r_icmp_ge hk 41 hF (dtX0_mayGrow_0 18 (34, .if_icmp .ge 7, 3) rfl) (by decide) (fun hF => ?_) (fun hF => ?_)
      · exact r_sub hk [] rfl (j41_6 hF)
      · refine r_iconst (v := 1) hk (dtX0_mayGrow_0 19 (37, .iconst 1, 1) rfl) (by decide) ?_
        refine r_goto hk 42 (dtX0_mayGrow_0 20 (38, .goto 4, 3) rfl) (by decide) ?_
        exact r_sub hk [] rfl (j42_5 1 hF)
  refine r_if_gt hk 11 hF (dtX0_mayGrow_0 2 (4, .ifCond .gt 7, 3) rfl) (by decide) (fun hF => ?_) (fun hF => ?_)
  · refine r_aload_n hk 0 (dtX0_mayGrow_0 5 (11, .aload_n 0, 1) rfl) rfl ?_
    refine r_getR hk (k := 2) (fsX0 X) cbX0 (by decide) fl_X0_18 (in_main 3 (by decide)) (fun _ => rfl) (fun _ _ => rfl) (dtX0_mayGrow_0 6 (12, .getfield 18, 3) rfl) ?_
    refine r_aload_n hk 0 (dtX0_mayGrow_0 7 (15, .aload_n 0, 1) rfl) rfl ?_
    refine r_getI hk (k := 3) (fsX0 X) cbX0 (by decide) fl_X0_21 (in_main 3 (by decide)) (fun _ => rfl) (fun _ _ => rfl) hF (dtX0_mayGrow_0 8 (16, .getfield 21, 3) rfl) (fun v7 hF => ?_)
    refine r_iconst (v := 1) hk (dtX0_mayGrow_0 9 (19, .iconst 1, 1) rfl) (by decide) ?_
    refine r_isub hk hF (dtX0_mayGrow_0 10 (20, .isub, 1) rfl) (fun v8 hF => ?_)
    refine r_iald hk (in_main 7 (by decide)) (fun _ => rfl) hF (dtX0_mayGrow_0 11 (21, .iaload, 1) rfl) (fun v9 hF => ?_)
    refine r_mabs hk lk_X0_55 hF (by decide) (Nat.le_of_ble_eq_true rfl) (dtX0_mayGrow_0 12 (22, .invokestatic 55, 3) rfl) (fun v10 hF => ?_)
    exact r_sub hk [] rfl (j25_3 v10 hF)
  · refine r_iconst (v := 0) hk (dtX0_mayGrow_0 3 (7, .iconst 0, 1) rfl) (by decide) ?_
    refine r_goto hk 25 (dtX0_mayGrow_0 4 (8, .goto 17, 3) rfl) (by decide) ?_
    exact r_sub hk [] rfl (j25_3 0 hF)
set_option maxHeartbeats 4000000 in
set_option maxRecDepth 100000 in
theorem c_X0_take (l : Launch) (hlf : l.stackTraces = false) (X : XW)  (p1 : Int32) (m0 : Mem) (rv : Int32) (mE : Mem) (hF : F_X0_take p1 m0 = some (rv, mE)) : MX X l yX0_take cX0_take 2 (some .boolean) 2 [.ref (xad X (0, 0, 0, 3)), .int p1] m0 (QI X rv mE) := by
  refine startZ hlf (by decide +kernel) rfl [(0, .ref (xad X (0, 0, 0, 3))), (1, .int p1)] rfl (Nat.le_of_ble_eq_true rfl) (fun K hk hR => ?_)
  unfold F_X0_take at hF
  refine r_aload_n hk 0 (dtX0_take_0 0 (0, .aload_n 0, 1) rfl) rfl ?_
  refine r_getI hk (k := 4) (fsX0 X) cbX0 (by decide) fl_X0_25 (in_main 3 (by decide)) (fun _ => rfl) (fun _ _ => rfl) hF (dtX0_take_0 1 (1, .getfield 25, 3) rfl) (fun v1 hF => ?_)
  by_cases hs4_0 : v1 = 0
  · rw [if_pos hs4_0] at hF
    refine r_tabIn hk 40 (dtX0_take_0 2 (4, .tableswitch 105 0 4 #[36, 42, 48, 70, 76], 36) rfl) (by rw [hs4_0]; decide) (by rw [hs4_0]; decide) (by rw [hs4_0]; rfl) (by decide) ?_
    refine r_aload_n hk 0 (dtX0_take_0 3 (40, .aload_n 0, 1) rfl) rfl ?_
    refine r_iload_n hk 1 (dtX0_take_0 4 (41, .iload_n 1, 1) rfl) rfl ?_
    refine r_callIm hF (fun v2 m3 h H locs ls hH hS hl => run_V (y := yX0_takeLetter) hk (in_main 3 (by decide)) rfl rfl (c_X0_takeLetter (kl K) hk.2.2.2.2.2.2.2.2.2.2.2 X  p1 m0 v2 m3 h) lk_X0_32 me_X0_takeLetter yf_X0_takeLetter (by decide) (by decide) rfl (Nat.le_of_ble_eq_true rfl) rfl (dtX0_take_0 5 (42, .invokevirtual 32, 3) rfl) hH hS hl) (fun v2 m3 hF => ?_)
    obtain ⟨hz, hF⟩ := ck_some hF
    cases Option.some.inj hF
    exact hR _ _ hz (dtX0_take_0 6 (45, .ireturn, 1) rfl)
  · rw [if_neg hs4_0] at hF
    by_cases hs4_1 : v1 = 1
    · rw [if_pos hs4_1] at hF
      refine r_tabIn hk 46 (dtX0_take_0 2 (4, .tableswitch 105 0 4 #[36, 42, 48, 70, 76], 36) rfl) (by rw [hs4_1]; decide) (by rw [hs4_1]; decide) (by rw [hs4_1]; rfl) (by decide) ?_
      refine r_aload_n hk 0 (dtX0_take_0 7 (46, .aload_n 0, 1) rfl) rfl ?_
      refine r_iload_n hk 1 (dtX0_take_0 8 (47, .iload_n 1, 1) rfl) rfl ?_
      refine r_callIm hF (fun v4 m5 h H locs ls hH hS hl => run_V (y := yX0_takeSign) hk (in_main 3 (by decide)) rfl rfl (c_X0_takeSign (kl K) hk.2.2.2.2.2.2.2.2.2.2.2 X  p1 m0 v4 m5 h) lk_X0_35 me_X0_takeSign yf_X0_takeSign (by decide) (by decide) rfl (Nat.le_of_ble_eq_true rfl) rfl (dtX0_take_0 9 (48, .invokevirtual 35, 3) rfl) hH hS hl) (fun v4 m5 hF => ?_)
      obtain ⟨hz, hF⟩ := ck_some hF
      cases Option.some.inj hF
      exact hR _ _ hz (dtX0_take_0 10 (51, .ireturn, 1) rfl)
    · rw [if_neg hs4_1] at hF
      by_cases hs4_2 : v1 = 2
      · rw [if_pos hs4_2] at hF
        refine r_tabIn hk 52 (dtX0_take_0 2 (4, .tableswitch 105 0 4 #[36, 42, 48, 70, 76], 36) rfl) (by rw [hs4_2]; decide) (by rw [hs4_2]; decide) (by rw [hs4_2]; rfl) (by decide) ?_
        refine r_aload_n hk 0 (dtX0_take_0 11 (52, .aload_n 0, 1) rfl) rfl ?_
        refine r_iload_n hk 1 (dtX0_take_0 12 (53, .iload_n 1, 1) rfl) rfl ?_
        refine r_callIm hF (fun v6 m7 h H locs ls hH hS hl => run_V (y := yX0_takeMinus) hk (in_main 3 (by decide)) rfl rfl (c_X0_takeMinus (kl K) hk.2.2.2.2.2.2.2.2.2.2.2 X  p1 m0 v6 m7 h) lk_X0_38 me_X0_takeMinus yf_X0_takeMinus (by decide) (by decide) rfl (Nat.le_of_ble_eq_true rfl) rfl (dtX0_take_0 13 (54, .invokevirtual 38, 3) rfl) hH hS hl) (fun v6 m7 hF => ?_)
        have j73_10 : ∀ (v8 : Int32) (m9 : Mem), J_X0_take_73 v8 m9 = some (rv, mE) → G X K 73 [] [.int v8] m9 := by
          intro v8 m9 hF
          unfold J_X0_take_73 at hF
          obtain ⟨hz, hF⟩ := ck_some hF
          cases Option.some.inj hF
          exact hR _ _ hz (dtX0_take_0 22 (73, .ireturn, 1) rfl)
        have j68_12 : ∀ (m11 : Mem), J_X0_take_68 m11 = some (rv, mE) → G X K 68 [] [] m11 := by
          intro m11 hF
          unfold J_X0_take_68 at hF
          refine r_iconst (v := 1) hk (dtX0_take_0 19 (68, .iconst 1, 1) rfl) (by decide) ?_
          refine r_goto hk 73 (dtX0_take_0 20 (69, .goto 4, 3) rfl) (by decide) ?_
          exact r_sub hk [] rfl (j73_10 1 m11 hF)
        refine r_if_ne hk 68 hF (dtX0_take_0 14 (57, .ifCond .ne 11, 3) rfl) (by decide) (fun hF => ?_) (fun hF => ?_)
        · exact r_sub hk [] rfl (j68_12 m7 hF)
        · refine r_aload_n hk 0 (dtX0_take_0 15 (60, .aload_n 0, 1) rfl) rfl ?_
          refine r_iload_n hk 1 (dtX0_take_0 16 (61, .iload_n 1, 1) rfl) rfl ?_
          refine r_callIm hF (fun v13 m14 h H locs ls hH hS hl => run_V (y := yX0_takeDigit) hk (in_main 3 (by decide)) rfl rfl (c_X0_takeDigit (kl K) hk.2.2.2.2.2.2.2.2.2.2.2 X  p1 m7 v13 m14 h) lk_X0_41 me_X0_takeDigit yf_X0_takeDigit (by decide) (by decide) rfl (Nat.le_of_ble_eq_true rfl) rfl (dtX0_take_0 17 (62, .invokevirtual 41, 3) rfl) hH hS hl) (fun v13 m14 hF => ?_)
          refine r_if_eq hk 72 hF (dtX0_take_0 18 (65, .ifCond .eq 7, 3) rfl) (by decide) (fun hF => ?_) (fun hF => ?_)
          · refine r_iconst (v := 0) hk (dtX0_take_0 21 (72, .iconst 0, 1) rfl) (by decide) ?_
            exact r_sub hk [] rfl (j73_10 0 m14 hF)
          · exact r_sub hk [] rfl (j68_12 m14 hF)
      · rw [if_neg hs4_2] at hF
        by_cases hs4_3 : v1 = 3
        · rw [if_pos hs4_3] at hF
          refine r_tabIn hk 74 (dtX0_take_0 2 (4, .tableswitch 105 0 4 #[36, 42, 48, 70, 76], 36) rfl) (by rw [hs4_3]; decide) (by rw [hs4_3]; decide) (by rw [hs4_3]; rfl) (by decide) ?_
          refine r_aload_n hk 0 (dtX0_take_0 23 (74, .aload_n 0, 1) rfl) rfl ?_
          refine r_iload_n hk 1 (dtX0_take_0 24 (75, .iload_n 1, 1) rfl) rfl ?_
          refine r_callIm hF (fun v15 m16 h H locs ls hH hS hl => run_V (y := yX0_takeDigit) hk (in_main 3 (by decide)) rfl rfl (c_X0_takeDigit (kl K) hk.2.2.2.2.2.2.2.2.2.2.2 X  p1 m0 v15 m16 h) lk_X0_41 me_X0_takeDigit yf_X0_takeDigit (by decide) (by decide) rfl (Nat.le_of_ble_eq_true rfl) rfl (dtX0_take_0 25 (76, .invokevirtual 41, 3) rfl) hH hS hl) (fun v15 m16 hF => ?_)
          obtain ⟨hz, hF⟩ := ck_some hF
          cases Option.some.inj hF
          exact hR _ _ hz (dtX0_take_0 26 (79, .ireturn, 1) rfl)
        · rw [if_neg hs4_3] at hF
          by_cases hs4_4 : v1 = 4
          · rw [if_pos hs4_4] at hF
            refine r_tabIn hk 80 (dtX0_take_0 2 (4, .tableswitch 105 0 4 #[36, 42, 48, 70, 76], 36) rfl) (by rw [hs4_4]; decide) (by rw [hs4_4]; decide) (by rw [hs4_4]; rfl) (by decide) ?_
            refine r_aload_n hk 0 (dtX0_take_0 27 (80, .aload_n 0, 1) rfl) rfl ?_
            refine r_iload_n hk 1 (dtX0_take_0 28 (81, .iload_n 1, 1) rfl) rfl ?_
            refine r_callIm hF (fun v17 m18 h H locs ls hH hS hl => run_V (y := yX0_takeAnd) hk (in_main 3 (by decide)) rfl rfl (c_X0_takeAnd (kl K) hk.2.2.2.2.2.2.2.2.2.2.2 X  p1 m0 v17 m18 h) lk_X0_44 me_X0_takeAnd yf_X0_takeAnd (by decide) (by decide) rfl (Nat.le_of_ble_eq_true rfl) rfl (dtX0_take_0 29 (82, .invokevirtual 44, 3) rfl) hH hS hl) (fun v17 m18 hF => ?_)
            have j108_21 : ∀ (v19 : Int32) (m20 : Mem), J_X0_take_108 v19 m20 = some (rv, mE) → G X K 108 [] [.int v19] m20 := by
              intro v19 m20 hF
              unfold J_X0_take_108 at hF
              obtain ⟨hz, hF⟩ := ck_some hF
              cases Option.some.inj hF
              exact hR _ _ hz (dtX0_take_0 41 (108, .ireturn, 1) rfl)
            have j103_23 : ∀ (m22 : Mem), J_X0_take_103 m22 = some (rv, mE) → G X K 103 [] [] m22 := by
              intro m22 hF
              unfold J_X0_take_103 at hF
              refine r_iconst (v := 1) hk (dtX0_take_0 38 (103, .iconst 1, 1) rfl) (by decide) ?_
              refine r_goto hk 108 (dtX0_take_0 39 (104, .goto 4, 3) rfl) (by decide) ?_
              exact r_sub hk [] rfl (j108_21 1 m22 hF)
            refine r_if_ne hk 103 hF (dtX0_take_0 30 (85, .ifCond .ne 18, 3) rfl) (by decide) (fun hF => ?_) (fun hF => ?_)
            · exact r_sub hk [] rfl (j103_23 m18 hF)
            · refine r_aload_n hk 0 (dtX0_take_0 31 (88, .aload_n 0, 1) rfl) rfl ?_
              refine r_callI hF (fun v24 h H locs ls hH hS hl => run_V (y := yX0_mayGrow) hk (in_main 3 (by decide)) rfl rfl (c_X0_mayGrow (kl K) hk.2.2.2.2.2.2.2.2.2.2.2 X   m18 v24 h) lk_X0_47 me_X0_mayGrow yf_X0_mayGrow (by decide) (by decide) rfl (Nat.le_of_ble_eq_true rfl) rfl (dtX0_take_0 32 (89, .invokevirtual 47, 3) rfl) hH hS hl) (fun v24 hF => ?_)
              have j107_26 : ∀ (m25 : Mem), J_X0_take_107 m25 = some (rv, mE) → G X K 107 [] [] m25 := by
                intro m25 hF
                unfold J_X0_take_107 at hF
                refine r_iconst (v := 0) hk (dtX0_take_0 40 (107, .iconst 0, 1) rfl) (by decide) ?_
                exact r_sub hk [] rfl (j108_21 0 m25 hF)
              refine r_if_eq hk 107 hF (dtX0_take_0 33 (92, .ifCond .eq 15, 3) rfl) (by decide) (fun hF => ?_) (fun hF => ?_)
              · exact r_sub hk [] rfl (j107_26 m18 hF)
              · refine r_aload_n hk 0 (dtX0_take_0 34 (95, .aload_n 0, 1) rfl) rfl ?_
                refine r_iload_n hk 1 (dtX0_take_0 35 (96, .iload_n 1, 1) rfl) rfl ?_
                refine r_callIm hF (fun v27 m28 h H locs ls hH hS hl => run_V (y := yX0_takeDigit) hk (in_main 3 (by decide)) rfl rfl (c_X0_takeDigit (kl K) hk.2.2.2.2.2.2.2.2.2.2.2 X  p1 m18 v27 m28 h) lk_X0_41 me_X0_takeDigit yf_X0_takeDigit (by decide) (by decide) rfl (Nat.le_of_ble_eq_true rfl) rfl (dtX0_take_0 36 (97, .invokevirtual 41, 3) rfl) hH hS hl) (fun v27 m28 hF => ?_)
                refine r_if_eq hk 107 hF (dtX0_take_0 37 (100, .ifCond .eq 7, 3) rfl) (by decide) (fun hF => ?_) (fun hF => ?_)
                · exact r_sub hk [] rfl (j107_26 m28 hF)
                · exact r_sub hk [] rfl (j103_23 m28 hF)
          · rw [if_neg hs4_4] at hF
            refine r_tabOut hk 109 (dtX0_take_0 2 (4, .tableswitch 105 0 4 #[36, 42, 48, 70, 76], 36) rfl) (by have q0 := lv_neT hs4_0 (a := 0) rfl; have q1 := lv_neT hs4_1 (a := 1) rfl; have q2 := lv_neT hs4_2 (a := 2) rfl; have q3 := lv_neT hs4_3 (a := 3) rfl; have q4 := lv_neT hs4_4 (a := 4) rfl; omega) (by decide) ?_
            refine r_iconst (v := 0) hk (dtX0_take_0 42 (109, .iconst 0, 1) rfl) (by decide) ?_
            obtain ⟨hz, hF⟩ := ck_some hF
            cases Option.some.inj hF
            exact hR _ _ hz (dtX0_take_0 43 (110, .ireturn, 1) rfl)
set_option maxHeartbeats 4000000 in
set_option maxRecDepth 100000 in
theorem c_X0_read (l : Launch) (hlf : l.stackTraces = false) (X : XW)  (p2 : Int32) (m0 : Mem) (rv : Int32) (mE : Mem) (hF : F_X0_read p2 m0 = some (rv, mE)) : MX X l yX0_read cX0_read 4 (some .int) 3 [.ref (xad X (0, 0, 0, 3)), .ref (xad X (0, 0, 0, 2)), .int p2] m0 (QI X rv mE) := by
  refine startI hlf (by decide +kernel) rfl [(0, .ref (xad X (0, 0, 0, 3))), (1, .ref (xad X (0, 0, 0, 2))), (2, .int p2)] rfl (Nat.le_of_ble_eq_true rfl) (fun K hk hR => ?_)
  unfold F_X0_read at hF
  refine r_aload_n hk 0 (dtX0_read_0 0 (0, .aload_n 0, 1) rfl) rfl ?_
  refine r_iconst (v := 0) hk (dtX0_read_0 1 (1, .iconst 0, 1) rfl) (by decide) ?_
  refine r_putI hk (k := 3) (fsX0 X) cbX0 (by decide) fl_X0_21 (in_main 3 (by decide)) (fun _ => rfl) rfl rfl (fun _ _ _ => rfl) (fun _ _ => (by decide : 3 < 6)) hF (dtX0_read_0 2 (2, .putfield 21, 3) rfl) (fun m1 hF => ?_)
  refine r_aload_n hk 0 (dtX0_read_0 3 (5, .aload_n 0, 1) rfl) rfl ?_
  refine r_iconst (v := 0) hk (dtX0_read_0 4 (6, .iconst 0, 1) rfl) (by decide) ?_
  refine r_putI hk (k := 4) (fsX0 X) cbX0 (by decide) fl_X0_25 (in_main 3 (by decide)) (fun _ => rfl) rfl rfl (fun _ _ _ => rfl) (fun _ _ => (by decide : 4 < 6)) hF (dtX0_read_0 5 (7, .putfield 25, 3) rfl) (fun m2 hF => ?_)
  refine r_iconst (v := 0) hk (dtX0_read_0 6 (10, .iconst 0, 1) rfl) (by decide) ?_
  refine r_istore_n hk [(3, .int 0), (0, .ref (xad X (0, 0, 0, 3))), (1, .ref (xad X (0, 0, 0, 2))), (2, .int p2)] (dtX0_read_0 7 (11, .istore_n 3, 1) rfl) (by decide) rfl ?_
  have e46_4 : ∀ (m3 : Mem), (C_X0_read_46 p2) m3 = some (rv, mE) → G X K 46 [(2, .int p2)] [] m3 := by
    intro m3 hF
    unfold C_X0_read_46 at hF
    refine r_iload_n hk 0 (dtX0_read_0 28 (46, .iload_n 2, 1) rfl) rfl ?_
    cases Option.some.inj hF
    exact hR _ _ (dtX0_read_0 29 (47, .ireturn, 1) rfl)
  have l8 : ∀ (n8 : Nat) (v5 : Int32) (m6 : Mem), L_X0_read_12 p2 n8 v5 m6 = some (rv, mE) → G X K 12 [(0, .ref (xad X (0, 0, 0, 3))), (1, .ref (xad X (0, 0, 0, 2))), (2, .int p2), (3, .int v5)] [] m6 := by
    intro n8
    induction n8 with
    | zero => intro v5 m6 hF; exact nomatch (show (none : Option (Int32 × Mem)) = some (rv, mE) from hF)
    | succ n8 ih8 =>
      intro v5 m6 hF
      rw [L_X0_read_12] at hF
      refine r_iload_n hk 3 (dtX0_read_0 8 (12, .iload_n 3, 1) rfl) rfl ?_
      refine r_iload_n hk 2 (dtX0_read_0 9 (13, .iload_n 2, 1) rfl) rfl ?_
      refine r_icmp_ge hk 46 hF (dtX0_read_0 10 (14, .if_icmp .ge 32, 3) rfl) (by decide) (fun hF => ?_) (fun hF => ?_)
      · exact r_sub hk [2] rfl (e46_4 m6 hF)
      · refine r_iload_n hk 3 (dtX0_read_0 11 (17, .iload_n 3, 1) rfl) rfl ?_
        refine r_aload_n hk 1 (dtX0_read_0 12 (18, .aload_n 1, 1) rfl) rfl ?_
        refine r_alen (v := 40) hk (in_main 2 (by decide)) (fun _ => rfl) (by decide) (dtX0_read_0 13 (19, .arraylength, 1) rfl) ?_
        refine r_icmp_ge hk 46 hF (dtX0_read_0 14 (20, .if_icmp .ge 26, 3) rfl) (by decide) (fun hF => ?_) (fun hF => ?_)
        · exact r_sub hk [2] rfl (e46_4 m6 hF)
        · refine r_aload_n hk 0 (dtX0_read_0 15 (23, .aload_n 0, 1) rfl) rfl ?_
          refine r_aload_n hk 1 (dtX0_read_0 16 (24, .aload_n 1, 1) rfl) rfl ?_
          refine r_iload_n hk 3 (dtX0_read_0 17 (25, .iload_n 3, 1) rfl) rfl ?_
          refine r_iald hk (in_main 2 (by decide)) (fun _ => rfl) hF (dtX0_read_0 18 (26, .iaload, 1) rfl) (fun v9 hF => ?_)
          refine r_callIm hF (fun v10 m11 h H locs ls hH hS hl => run_V (y := yX0_take) hk (in_main 3 (by decide)) rfl rfl (c_X0_take (kl K) hk.2.2.2.2.2.2.2.2.2.2.2 X  v9 m6 v10 m11 h) lk_X0_28 me_X0_take yf_X0_take (by decide) (by decide) rfl (Nat.le_of_ble_eq_true rfl) rfl (dtX0_read_0 19 (27, .invokevirtual 28, 3) rfl) hH hS hl) (fun v10 m11 hF => ?_)
          refine r_if_ne hk 40 hF (dtX0_read_0 20 (30, .ifCond .ne 10, 3) rfl) (by decide) (fun hF => ?_) (fun hF => ?_)
          · refine r_iinc hk 1 3 (fun v12 => [(3, .int v12), (0, .ref (xad X (0, 0, 0, 3))), (1, .ref (xad X (0, 0, 0, 2))), (2, .int p2)]) hF (dtX0_read_0 26 (40, .iinc 3 1, 3) rfl) rfl (by decide) (by decide) (fun _ => rfl) (fun v12 hF => ?_)
            refine r_goto hk 12 (dtX0_read_0 27 (43, .goto (-31), 3) rfl) (by decide) ?_
            exact r_sub hk [1, 2, 3, 0] rfl (ih8 v12 m11 hF)
          · refine r_aload_n hk 0 (dtX0_read_0 21 (33, .aload_n 0, 1) rfl) rfl ?_
            refine r_iconst (v := 5) hk (dtX0_read_0 22 (34, .iconst 5, 1) rfl) (by decide) ?_
            refine r_putI hk (k := 4) (fsX0 X) cbX0 (by decide) fl_X0_25 (in_main 3 (by decide)) (fun _ => rfl) rfl rfl (fun _ _ _ => rfl) (fun _ _ => (by decide : 4 < 6)) hF (dtX0_read_0 23 (35, .putfield 25, 3) rfl) (fun m13 hF => ?_)
            refine r_iload_n hk 3 (dtX0_read_0 24 (38, .iload_n 3, 1) rfl) rfl ?_
            cases Option.some.inj hF
            exact hR _ _ (dtX0_read_0 25 (39, .ireturn, 1) rfl)
  exact r_sub hk [1, 2, 3, 0] rfl (l8 fu 0 m2 hF)
set_option maxHeartbeats 4000000 in
set_option maxRecDepth 100000 in
theorem c_X3_firstError (l : Launch) (hlf : l.stackTraces = false) (X : XW)   (m0 : Mem) (rv : Int32) (mE : Mem) (hF : F_X3_firstError m0 = some (rv, mE)) : MX X l yX3_firstError cX3_firstError 1 (some .int) 4 [.ref (xad X (0, 0, 0, 0))] m0 (QI X rv mE) := by
  refine startI hlf (by decide +kernel) rfl [(0, .ref (xad X (0, 0, 0, 0)))] rfl (Nat.le_of_ble_eq_true rfl) (fun K hk hR => ?_)
  unfold F_X3_firstError at hF
  refine r_aload_n hk 0 (dtX3_firstError_0 0 (0, .aload_n 0, 1) rfl) rfl ?_
  refine r_getR hk (k := 2) (fsX3 X) cbX3 (by decide) fl_X3_22 (in_main 0 (by decide)) (fun _ => rfl) (fun _ _ => rfl) (dtX3_firstError_0 1 (1, .getfield 22, 3) rfl) ?_
  refine r_aload_n hk 0 (dtX3_firstError_0 2 (4, .aload_n 0, 1) rfl) rfl ?_
  refine r_getR hk (k := 1) (fsX3 X) cbX3 (by decide) fl_X3_15 (in_main 0 (by decide)) (fun _ => rfl) (fun _ _ => rfl) (dtX3_firstError_0 3 (5, .getfield 15, 3) rfl) ?_
  refine r_aload_n hk 0 (dtX3_firstError_0 4 (8, .aload_n 0, 1) rfl) rfl ?_
  refine r_getI hk (k := 6) (fsX3 X) cbX3 (by decide) fl_X3_145 (in_main 0 (by decide)) (fun _ => rfl) (fun _ _ => rfl) hF (dtX3_firstError_0 5 (9, .getfield 145, 3) rfl) (fun v1 hF => ?_)
  refine r_callIm hF (fun v2 m3 h H locs ls hH hS hl => run_V (y := yX0_read) hk (in_main 3 (by decide)) rfl rfl (c_X0_read (kl K) hk.2.2.2.2.2.2.2.2.2.2.2 X  v1 m0 v2 m3 h) lk_X3_155 me_X0_read yf_X0_read (by decide) (by decide) rfl (Nat.le_of_ble_eq_true rfl) rfl (dtX3_firstError_0 6 (12, .invokevirtual 155, 3) rfl) hH hS hl) (fun v2 m3 hF => ?_)
  cases Option.some.inj hF
  exact hR _ _ (dtX3_firstError_0 7 (15, .ireturn, 1) rfl)
set_option maxHeartbeats 4000000 in
set_option maxRecDepth 100000 in
theorem c_X1_ownerOf (l : Launch) (hlf : l.stackTraces = false) (X : XW) (i0 : Nat) (hi0 : i0 < 7) (p1 : Int32) (m0 : Mem) (rv : Nat) (hF : F_X1_ownerOf i0 p1 m0 = some rv) : MX X l yX1_ownerOf cX1_ownerOf 2 (some (.object RX2)) 0 [.ref (xad X (1, i0, 0, 0)), .int p1] m0 (QR X (xad X (2, i0, rv, 0)) m0) := by
  refine startR hlf (by decide +kernel) rfl [(0, .ref (xad X (1, i0, 0, 0))), (1, .int p1)] rfl (Nat.le_of_ble_eq_true rfl) (fun K hk hR => ?_)
  unfold F_X1_ownerOf at hF
  refine r_aload_n hk 0 (dtX1_ownerOf_0 0 (0, .aload_n 0, 1) rfl) rfl ?_
  refine r_getR hk (k := 0) (fsX1 X i0) cbX1 (by decide) fl_X1_11 (in_st i0 hi0 0 (by decide)) (fun _ => rfl) (fun _ _ => rfl) (dtX1_ownerOf_0 1 (1, .getfield 11, 3) rfl) ?_
  refine r_aload_n hk 0 (dtX1_ownerOf_0 2 (4, .aload_n 0, 1) rfl) rfl ?_
  refine r_getR hk (k := 1) (fsX1 X i0) cbX1 (by decide) fl_X1_17 (in_st i0 hi0 0 (by decide)) (fun _ => rfl) (fun _ _ => rfl) (dtX1_ownerOf_0 3 (5, .getfield 17, 3) rfl) ?_
  refine r_iload_n hk 1 (dtX1_ownerOf_0 4 (8, .iload_n 1, 1) rfl) rfl ?_
  refine r_iald hk (in_st i0 hi0 2 (by decide)) (fun _ => rfl) hF (dtX1_ownerOf_0 5 (9, .iaload, 1) rfl) (fun v1 hF => ?_)
  refine r_aldT hk hi0 hF (dtX1_ownerOf_0 6 (10, .aaload, 1) rfl) (fun q2 hq2 hF => ?_)
  cases Option.some.inj hF
  exact hR _ _ (dtX1_ownerOf_0 7 (11, .areturn, 1) rfl)
set_option maxHeartbeats 4000000 in
set_option maxRecDepth 100000 in
theorem c_X3_asNumber (l : Launch) (hlf : l.stackTraces = false) (X : XW)  (p1 : Int32) (m0 : Mem) (rv : Int32) (hF : F_X3_asNumber p1 m0 = some rv) : MX X l yX3_asNumber cX3_asNumber 1 (some .int) 0 [.int p1] m0 (QI X rv m0) := by
  refine startI hlf (by decide +kernel) rfl [(0, .int p1)] rfl (Nat.le_of_ble_eq_true rfl) (fun K hk hR => ?_)
  unfold F_X3_asNumber at hF
  refine r_iload_n hk 0 (dtX3_asNumber_0 0 (0, .iload_n 0, 1) rfl) rfl ?_
  have j9_2 : ∀ (v1 : Int32), J_X3_asNumber_9 v1 = some rv → G X K 9 [] [.int v1] m0 := by
    intro v1 hF
    unfold J_X3_asNumber_9 at hF
    cases Option.some.inj hF
    exact hR _ _ (dtX3_asNumber_0 5 (9, .ireturn, 1) rfl)
  refine r_if_eq hk 8 hF (dtX3_asNumber_0 1 (1, .ifCond .eq 7, 3) rfl) (by decide) (fun hF => ?_) (fun hF => ?_)
  · refine r_iconst (v := 0) hk (dtX3_asNumber_0 4 (8, .iconst 0, 1) rfl) (by decide) ?_
    exact r_sub hk [] rfl (j9_2 0 hF)
  · refine r_iconst (v := 1) hk (dtX3_asNumber_0 2 (4, .iconst 1, 1) rfl) (by decide) ?_
    refine r_goto hk 9 (dtX3_asNumber_0 3 (5, .goto 4, 3) rfl) (by decide) ?_
    exact r_sub hk [] rfl (j9_2 1 hF)
set_option maxHeartbeats 4000000 in
set_option maxRecDepth 100000 in
theorem c_X1_tableRows (l : Launch) (hlf : l.stackTraces = false) (X : XW) (i0 : Nat) (hi0 : i0 < 7)  (m0 : Mem) (rv : Int32) (hF : F_X1_tableRows i0 m0 = some rv) : MX X l yX1_tableRows cX1_tableRows 3 (some .int) 1 [.ref (xad X (1, i0, 0, 0))] m0 (QI X rv m0) := by
  refine startI hlf (by decide +kernel) rfl [(0, .ref (xad X (1, i0, 0, 0)))] rfl (Nat.le_of_ble_eq_true rfl) (fun K hk hR => ?_)
  unfold F_X1_tableRows at hF
  refine r_iconst (v := 0) hk (dtX1_tableRows_0 0 (0, .iconst 0, 1) rfl) (by decide) ?_
  refine r_istore_n hk [(1, .int 0), (0, .ref (xad X (1, i0, 0, 0)))] (dtX1_tableRows_0 1 (1, .istore_n 1, 1) rfl) (by decide) rfl ?_
  refine r_iconst (v := 0) hk (dtX1_tableRows_0 2 (2, .iconst 0, 1) rfl) (by decide) ?_
  refine r_istore_n hk [(2, .int 0), (1, .int 0), (0, .ref (xad X (1, i0, 0, 0)))] (dtX1_tableRows_0 3 (3, .istore_n 2, 1) rfl) (by decide) rfl ?_
  have e40_2 : ∀ (v1 : Int32), C_X1_tableRows_40 v1 = some rv → G X K 40 [(1, .int v1)] [] m0 := by
    intro v1 hF
    unfold C_X1_tableRows_40 at hF
    refine r_iload_n hk 0 (dtX1_tableRows_0 22 (40, .iload_n 1, 1) rfl) rfl ?_
    cases Option.some.inj hF
    exact hR _ _ (dtX1_tableRows_0 23 (41, .ireturn, 1) rfl)
  have l6 : ∀ (n6 : Nat) (v3 : Int32) (v4 : Int32), L_X1_tableRows_4 i0 m0 n6 v3 v4 = some rv → G X K 4 [(0, .ref (xad X (1, i0, 0, 0))), (1, .int v3), (2, .int v4)] [] m0 := by
    intro n6
    induction n6 with
    | zero => intro v3 v4 hF; exact nomatch (show (none : Option Int32) = some rv from hF)
    | succ n6 ih6 =>
      intro v3 v4 hF
      rw [L_X1_tableRows_4] at hF
      refine r_iload_n hk 2 (dtX1_tableRows_0 4 (4, .iload_n 2, 1) rfl) rfl ?_
      refine r_aload_n hk 0 (dtX1_tableRows_0 5 (5, .aload_n 0, 1) rfl) rfl ?_
      refine r_getI hk (k := 3) (fsX1 X i0) cbX1 (by decide) fl_X1_29 (in_st i0 hi0 0 (by decide)) (fun _ => rfl) (fun _ _ => rfl) hF (dtX1_tableRows_0 6 (6, .getfield 29, 3) rfl) (fun v7 hF => ?_)
      refine r_icmp_ge hk 40 hF (dtX1_tableRows_0 7 (9, .if_icmp .ge 31, 3) rfl) (by decide) (fun hF => ?_) (fun hF => ?_)
      · exact r_sub hk [1] rfl (e40_2 v3 hF)
      · refine r_iload_n hk 1 (dtX1_tableRows_0 8 (12, .iload_n 1, 1) rfl) rfl ?_
        refine r_aload_n hk 0 (dtX1_tableRows_0 9 (13, .aload_n 0, 1) rfl) rfl ?_
        refine r_iload_n hk 2 (dtX1_tableRows_0 10 (14, .iload_n 2, 1) rfl) rfl ?_
        refine r_callR (fun q => xad X (2, i0, q, 0)) hF (fun q8 h H locs ls hH hS hl => run_V (y := yX1_ownerOf) hk (in_st i0 hi0 0 (by decide)) rfl rfl (c_X1_ownerOf (kl K) hk.2.2.2.2.2.2.2.2.2.2.2 X i0 hi0 v4 m0 q8 h) lk_X1_60 me_X1_ownerOf yf_X1_ownerOf (by decide) (by decide) rfl (Nat.le_of_ble_eq_true rfl) rfl (dtX1_tableRows_0 11 (15, .invokevirtual 60, 3) rfl) hH hS hl) (fun q8 _ hF => ?_)
        obtain ⟨hq8, hF⟩ := bp_some hF
        refine r_getI hk (k := 5) (fsX2 X i0 q8) cbX2 (by decide) fl_X1_56 (in_tn i0 hi0 q8 hq8 0 (by decide)) (fun _ => rfl) (fun _ _ => rfl) hF (dtX1_tableRows_0 12 (18, .getfield 56, 3) rfl) (fun v9 hF => ?_)
        have j29_11 : ∀ (v10 : Int32), (J_X1_tableRows_29 m0 v3 v4 (fun w0 w1 => L_X1_tableRows_4 i0 m0 n6 w0 w1)) v10 = some rv → G X K 29 [(0, .ref (xad X (1, i0, 0, 0))), (2, .int v4)] [.int v10, .int v3] m0 := by
          intro v10 hF
          unfold J_X1_tableRows_29 at hF
          refine r_callI hF (fun v12 h H locs ls hH hS hl => run_SN hk (c_X3_asNumber (kl K) hk.2.2.2.2.2.2.2.2.2.2.2 X  v10 m0 v12 h) lk_X1_64 me_X3_asNumber yf_X3_asNumber (by decide) (by decide) rfl (Nat.le_of_ble_eq_true rfl) rfl (dtX1_tableRows_0 17 (29, .invokestatic 64, 3) rfl) hH hS hl) (fun v12 hF => ?_)
          refine r_iadd hk hF (dtX1_tableRows_0 18 (32, .iadd, 1) rfl) (fun v13 hF => ?_)
          refine r_istore_n hk [(1, .int v13), (0, .ref (xad X (1, i0, 0, 0))), (2, .int v4)] (dtX1_tableRows_0 19 (33, .istore_n 1, 1) rfl) (by decide) rfl ?_
          refine r_iinc hk 1 2 (fun v14 => [(2, .int v14), (1, .int v13), (0, .ref (xad X (1, i0, 0, 0)))]) hF (dtX1_tableRows_0 20 (34, .iinc 2 1, 3) rfl) rfl (by decide) (by decide) (fun _ => rfl) (fun v14 hF => ?_)
          refine r_goto hk 4 (dtX1_tableRows_0 21 (37, .goto (-33), 3) rfl) (by decide) ?_
          exact r_sub hk [2, 1, 0] rfl (ih6 v13 v14 hF)
        refine r_if_ne hk 28 hF (dtX1_tableRows_0 13 (21, .ifCond .ne 7, 3) rfl) (by decide) (fun hF => ?_) (fun hF => ?_)
        · refine r_iconst (v := 0) hk (dtX1_tableRows_0 16 (28, .iconst 0, 1) rfl) (by decide) ?_
          exact r_sub hk [0, 2] rfl (j29_11 0 hF)
        · refine r_iconst (v := 1) hk (dtX1_tableRows_0 14 (24, .iconst 1, 1) rfl) (by decide) ?_
          refine r_goto hk 29 (dtX1_tableRows_0 15 (25, .goto 4, 3) rfl) (by decide) ?_
          exact r_sub hk [0, 2] rfl (j29_11 1 hF)
  exact r_sub hk [2, 1, 0] rfl (l6 fu 0 0 hF)
set_option maxHeartbeats 4000000 in
set_option maxRecDepth 100000 in
theorem c_X1_valueAt (l : Launch) (hlf : l.stackTraces = false) (X : XW) (i0 : Nat) (hi0 : i0 < 7) (p1 : Int32) (p2 : Int32) (m0 : Mem) (rv : Int32) (hF : F_X1_valueAt i0 p1 p2 m0 = some rv) : MX X l yX1_valueAt cX1_valueAt 3 (some .int) 0 [.ref (xad X (1, i0, 0, 0)), .int p1, .int p2] m0 (QI X rv m0) := by
  refine startI hlf (by decide +kernel) rfl [(0, .ref (xad X (1, i0, 0, 0))), (1, .int p1), (2, .int p2)] rfl (Nat.le_of_ble_eq_true rfl) (fun K hk hR => ?_)
  unfold F_X1_valueAt at hF
  refine r_iload_n hk 1 (dtX1_valueAt_0 0 (0, .iload_n 1, 1) rfl) rfl ?_
  have j22_1 : J_X1_valueAt_22 = some rv → G X K 22 [] [] m0 := by
    intro hF
    unfold J_X1_valueAt_22 at hF
    refine r_ldc hk cn_X1_39 (dtX1_valueAt_0 11 (22, .ldc 39, 2) rfl) ?_
    cases Option.some.inj hF
    exact hR _ _ (dtX1_valueAt_0 12 (24, .ireturn, 1) rfl)
  refine r_if_lt hk 22 hF (dtX1_valueAt_0 1 (1, .ifCond .lt 21, 3) rfl) (by decide) (fun hF => ?_) (fun hF => ?_)
  · exact r_sub hk [] rfl (j22_1 hF)
  · refine r_iload_n hk 1 (dtX1_valueAt_0 2 (4, .iload_n 1, 1) rfl) rfl ?_
    refine r_aload_n hk 0 (dtX1_valueAt_0 3 (5, .aload_n 0, 1) rfl) rfl ?_
    refine r_getI hk (k := 3) (fsX1 X i0) cbX1 (by decide) fl_X1_29 (in_st i0 hi0 0 (by decide)) (fun _ => rfl) (fun _ _ => rfl) hF (dtX1_valueAt_0 4 (6, .getfield 29, 3) rfl) (fun v2 hF => ?_)
    refine r_icmp_ge hk 22 hF (dtX1_valueAt_0 5 (9, .if_icmp .ge 13, 3) rfl) (by decide) (fun hF => ?_) (fun hF => ?_)
    · exact r_sub hk [] rfl (j22_1 hF)
    · refine r_iload_n hk 2 (dtX1_valueAt_0 6 (12, .iload_n 2, 1) rfl) rfl ?_
      refine r_if_lt hk 22 hF (dtX1_valueAt_0 7 (13, .ifCond .lt 9, 3) rfl) (by decide) (fun hF => ?_) (fun hF => ?_)
      · exact r_sub hk [] rfl (j22_1 hF)
      · refine r_iload_n hk 2 (dtX1_valueAt_0 8 (16, .iload_n 2, 1) rfl) rfl ?_
        refine r_bipush (v := 8) hk (dtX1_valueAt_0 9 (17, .bipush 8, 2) rfl) (by decide) ?_
        refine r_icmp_lt hk 25 hF (dtX1_valueAt_0 10 (19, .if_icmp .lt 6, 3) rfl) (by decide) (fun hF => ?_) (fun hF => ?_)
        · refine r_aload_n hk 0 (dtX1_valueAt_0 13 (25, .aload_n 0, 1) rfl) rfl ?_
          refine r_getR hk (k := 2) (fsX1 X i0) cbX1 (by decide) fl_X1_21 (in_st i0 hi0 0 (by decide)) (fun _ => rfl) (fun _ _ => rfl) (dtX1_valueAt_0 14 (26, .getfield 21, 3) rfl) ?_
          refine r_iload_n hk 1 (dtX1_valueAt_0 15 (29, .iload_n 1, 1) rfl) rfl ?_
          refine r_bipush (v := 8) hk (dtX1_valueAt_0 16 (30, .bipush 8, 2) rfl) (by decide) ?_
          refine r_imul hk hF (dtX1_valueAt_0 17 (32, .imul, 1) rfl) (fun v3 hF => ?_)
          refine r_iload_n hk 2 (dtX1_valueAt_0 18 (33, .iload_n 2, 1) rfl) rfl ?_
          refine r_iadd hk hF (dtX1_valueAt_0 19 (34, .iadd, 1) rfl) (fun v4 hF => ?_)
          refine r_iald hk (in_st i0 hi0 3 (by decide)) (fun _ => rfl) hF (dtX1_valueAt_0 20 (35, .iaload, 1) rfl) (fun v5 hF => ?_)
          cases Option.some.inj hF
          exact hR _ _ (dtX1_valueAt_0 21 (36, .ireturn, 1) rfl)
        · exact r_sub hk [] rfl (j22_1 hF)
set_option maxHeartbeats 4000000 in
set_option maxRecDepth 100000 in
theorem c_X1_valuesIn (l : Launch) (hlf : l.stackTraces = false) (X : XW) (i0 : Nat) (hi0 : i0 < 7) (p1 : Int32) (m0 : Mem) (rv : Int32) (hF : F_X1_valuesIn i0 p1 m0 = some rv) : MX X l yX1_valuesIn cX1_valuesIn 4 (some .int) 1 [.ref (xad X (1, i0, 0, 0)), .int p1] m0 (QI X rv m0) := by
  refine startI hlf (by decide +kernel) rfl [(0, .ref (xad X (1, i0, 0, 0))), (1, .int p1)] rfl (Nat.le_of_ble_eq_true rfl) (fun K hk hR => ?_)
  unfold F_X1_valuesIn at hF
  refine r_iconst (v := 0) hk (dtX1_valuesIn_0 0 (0, .iconst 0, 1) rfl) (by decide) ?_
  refine r_istore_n hk [(2, .int 0), (0, .ref (xad X (1, i0, 0, 0))), (1, .int p1)] (dtX1_valuesIn_0 1 (1, .istore_n 2, 1) rfl) (by decide) rfl ?_
  refine r_iconst (v := 0) hk (dtX1_valuesIn_0 2 (2, .iconst 0, 1) rfl) (by decide) ?_
  refine r_istore_n hk [(3, .int 0), (2, .int 0), (0, .ref (xad X (1, i0, 0, 0))), (1, .int p1)] (dtX1_valuesIn_0 3 (3, .istore_n 3, 1) rfl) (by decide) rfl ?_
  have e38_2 : ∀ (v1 : Int32), C_X1_valuesIn_38 v1 = some rv → G X K 38 [(2, .int v1)] [] m0 := by
    intro v1 hF
    unfold C_X1_valuesIn_38 at hF
    refine r_iload_n hk 0 (dtX1_valuesIn_0 22 (38, .iload_n 2, 1) rfl) rfl ?_
    cases Option.some.inj hF
    exact hR _ _ (dtX1_valuesIn_0 23 (39, .ireturn, 1) rfl)
  have l6 : ∀ (n6 : Nat) (v3 : Int32) (v4 : Int32), L_X1_valuesIn_4 i0 p1 m0 n6 v3 v4 = some rv → G X K 4 [(0, .ref (xad X (1, i0, 0, 0))), (1, .int p1), (2, .int v3), (3, .int v4)] [] m0 := by
    intro n6
    induction n6 with
    | zero => intro v3 v4 hF; exact nomatch (show (none : Option Int32) = some rv from hF)
    | succ n6 ih6 =>
      intro v3 v4 hF
      rw [L_X1_valuesIn_4] at hF
      refine r_iload_n hk 3 (dtX1_valuesIn_0 4 (4, .iload_n 3, 1) rfl) rfl ?_
      refine r_bipush (v := 8) hk (dtX1_valuesIn_0 5 (5, .bipush 8, 2) rfl) (by decide) ?_
      refine r_icmp_ge hk 38 hF (dtX1_valuesIn_0 6 (7, .if_icmp .ge 31, 3) rfl) (by decide) (fun hF => ?_) (fun hF => ?_)
      · exact r_sub hk [2] rfl (e38_2 v3 hF)
      · refine r_iload_n hk 2 (dtX1_valuesIn_0 7 (10, .iload_n 2, 1) rfl) rfl ?_
        refine r_aload_n hk 0 (dtX1_valuesIn_0 8 (11, .aload_n 0, 1) rfl) rfl ?_
        refine r_iload_n hk 1 (dtX1_valuesIn_0 9 (12, .iload_n 1, 1) rfl) rfl ?_
        refine r_iload_n hk 3 (dtX1_valuesIn_0 10 (13, .iload_n 3, 1) rfl) rfl ?_
        refine r_callI hF (fun v7 h H locs ls hH hS hl => run_V (y := yX1_valueAt) hk (in_st i0 hi0 0 (by decide)) rfl rfl (c_X1_valueAt (kl K) hk.2.2.2.2.2.2.2.2.2.2.2 X i0 hi0 p1 v4 m0 v7 h) lk_X1_40 me_X1_valueAt yf_X1_valueAt (by decide) (by decide) rfl (Nat.le_of_ble_eq_true rfl) rfl (dtX1_valuesIn_0 11 (14, .invokevirtual 40, 3) rfl) hH hS hl) (fun v7 hF => ?_)
        refine r_ldc hk cn_X1_39 (dtX1_valuesIn_0 12 (17, .ldc 39, 2) rfl) ?_
        have j27_9 : ∀ (v8 : Int32), (J_X1_valuesIn_27 m0 v3 v4 (fun w0 w1 => L_X1_valuesIn_4 i0 p1 m0 n6 w0 w1)) v8 = some rv → G X K 27 [(0, .ref (xad X (1, i0, 0, 0))), (1, .int p1), (3, .int v4)] [.int v8, .int v3] m0 := by
          intro v8 hF
          unfold J_X1_valuesIn_27 at hF
          refine r_callI hF (fun v10 h H locs ls hH hS hl => run_SN hk (c_X3_asNumber (kl K) hk.2.2.2.2.2.2.2.2.2.2.2 X  v8 m0 v10 h) lk_X1_64 me_X3_asNumber yf_X3_asNumber (by decide) (by decide) rfl (Nat.le_of_ble_eq_true rfl) rfl (dtX1_valuesIn_0 17 (27, .invokestatic 64, 3) rfl) hH hS hl) (fun v10 hF => ?_)
          refine r_iadd hk hF (dtX1_valuesIn_0 18 (30, .iadd, 1) rfl) (fun v11 hF => ?_)
          refine r_istore_n hk [(2, .int v11), (0, .ref (xad X (1, i0, 0, 0))), (1, .int p1), (3, .int v4)] (dtX1_valuesIn_0 19 (31, .istore_n 2, 1) rfl) (by decide) rfl ?_
          refine r_iinc hk 1 3 (fun v12 => [(3, .int v12), (2, .int v11), (0, .ref (xad X (1, i0, 0, 0))), (1, .int p1)]) hF (dtX1_valuesIn_0 20 (32, .iinc 3 1, 3) rfl) rfl (by decide) (by decide) (fun _ => rfl) (fun v12 hF => ?_)
          refine r_goto hk 4 (dtX1_valuesIn_0 21 (35, .goto (-31), 3) rfl) (by decide) ?_
          exact r_sub hk [2, 3, 1, 0] rfl (ih6 v11 v12 hF)
        refine r_icmp_eq hk 26 hF (dtX1_valuesIn_0 13 (19, .if_icmp .eq 7, 3) rfl) (by decide) (fun hF => ?_) (fun hF => ?_)
        · refine r_iconst (v := 0) hk (dtX1_valuesIn_0 16 (26, .iconst 0, 1) rfl) (by decide) ?_
          exact r_sub hk [0, 1, 3] rfl (j27_9 0 hF)
        · refine r_iconst (v := 1) hk (dtX1_valuesIn_0 14 (22, .iconst 1, 1) rfl) (by decide) ?_
          refine r_goto hk 27 (dtX1_valuesIn_0 15 (23, .goto 4, 3) rfl) (by decide) ?_
          exact r_sub hk [0, 1, 3] rfl (j27_9 1 hF)
  exact r_sub hk [2, 3, 1, 0] rfl (l6 fu 0 0 hF)
set_option maxHeartbeats 4000000 in
set_option maxRecDepth 100000 in
theorem c_X1_tableValues (l : Launch) (hlf : l.stackTraces = false) (X : XW) (i0 : Nat) (hi0 : i0 < 7)  (m0 : Mem) (rv : Int32) (hF : F_X1_tableValues i0 m0 = some rv) : MX X l yX1_tableValues cX1_tableValues 3 (some .int) 2 [.ref (xad X (1, i0, 0, 0))] m0 (QI X rv m0) := by
  refine startI hlf (by decide +kernel) rfl [(0, .ref (xad X (1, i0, 0, 0)))] rfl (Nat.le_of_ble_eq_true rfl) (fun K hk hR => ?_)
  unfold F_X1_tableValues at hF
  refine r_iconst (v := 0) hk (dtX1_tableValues_0 0 (0, .iconst 0, 1) rfl) (by decide) ?_
  refine r_istore_n hk [(1, .int 0), (0, .ref (xad X (1, i0, 0, 0)))] (dtX1_tableValues_0 1 (1, .istore_n 1, 1) rfl) (by decide) rfl ?_
  refine r_iconst (v := 0) hk (dtX1_tableValues_0 2 (2, .iconst 0, 1) rfl) (by decide) ?_
  refine r_istore_n hk [(2, .int 0), (1, .int 0), (0, .ref (xad X (1, i0, 0, 0)))] (dtX1_tableValues_0 3 (3, .istore_n 2, 1) rfl) (by decide) rfl ?_
  have e41_2 : ∀ (v1 : Int32), C_X1_tableValues_41 v1 = some rv → G X K 41 [(1, .int v1)] [] m0 := by
    intro v1 hF
    unfold C_X1_tableValues_41 at hF
    refine r_iload_n hk 0 (dtX1_tableValues_0 23 (41, .iload_n 1, 1) rfl) rfl ?_
    cases Option.some.inj hF
    exact hR _ _ (dtX1_tableValues_0 24 (42, .ireturn, 1) rfl)
  have l6 : ∀ (n6 : Nat) (v3 : Int32) (v4 : Int32), L_X1_tableValues_4 i0 m0 n6 v3 v4 = some rv → G X K 4 [(0, .ref (xad X (1, i0, 0, 0))), (1, .int v3), (2, .int v4)] [] m0 := by
    intro n6
    induction n6 with
    | zero => intro v3 v4 hF; exact nomatch (show (none : Option Int32) = some rv from hF)
    | succ n6 ih6 =>
      intro v3 v4 hF
      rw [L_X1_tableValues_4] at hF
      refine r_iload_n hk 2 (dtX1_tableValues_0 4 (4, .iload_n 2, 1) rfl) rfl ?_
      refine r_aload_n hk 0 (dtX1_tableValues_0 5 (5, .aload_n 0, 1) rfl) rfl ?_
      refine r_getI hk (k := 3) (fsX1 X i0) cbX1 (by decide) fl_X1_29 (in_st i0 hi0 0 (by decide)) (fun _ => rfl) (fun _ _ => rfl) hF (dtX1_tableValues_0 6 (6, .getfield 29, 3) rfl) (fun v7 hF => ?_)
      refine r_icmp_ge hk 41 hF (dtX1_tableValues_0 7 (9, .if_icmp .ge 32, 3) rfl) (by decide) (fun hF => ?_) (fun hF => ?_)
      · exact r_sub hk [1] rfl (e41_2 v3 hF)
      · refine r_iload_n hk 1 (dtX1_tableValues_0 8 (12, .iload_n 1, 1) rfl) rfl ?_
        refine r_aload_n hk 0 (dtX1_tableValues_0 9 (13, .aload_n 0, 1) rfl) rfl ?_
        refine r_iload_n hk 2 (dtX1_tableValues_0 10 (14, .iload_n 2, 1) rfl) rfl ?_
        refine r_callR (fun q => xad X (2, i0, q, 0)) hF (fun q8 h H locs ls hH hS hl => run_V (y := yX1_ownerOf) hk (in_st i0 hi0 0 (by decide)) rfl rfl (c_X1_ownerOf (kl K) hk.2.2.2.2.2.2.2.2.2.2.2 X i0 hi0 v4 m0 q8 h) lk_X1_60 me_X1_ownerOf yf_X1_ownerOf (by decide) (by decide) rfl (Nat.le_of_ble_eq_true rfl) rfl (dtX1_tableValues_0 11 (15, .invokevirtual 60, 3) rfl) hH hS hl) (fun q8 _ hF => ?_)
        obtain ⟨hq8, hF⟩ := bp_some hF
        refine r_getI hk (k := 5) (fsX2 X i0 q8) cbX2 (by decide) fl_X1_56 (in_tn i0 hi0 q8 hq8 0 (by decide)) (fun _ => rfl) (fun _ _ => rfl) hF (dtX1_tableValues_0 12 (18, .getfield 56, 3) rfl) (fun v9 hF => ?_)
        have j33_11 : ∀ (v10 : Int32), (J_X1_tableValues_33 v3 v4 (fun w0 w1 => L_X1_tableValues_4 i0 m0 n6 w0 w1)) v10 = some rv → G X K 33 [(0, .ref (xad X (1, i0, 0, 0))), (2, .int v4)] [.int v10, .int v3] m0 := by
          intro v10 hF
          unfold J_X1_tableValues_33 at hF
          refine r_iadd hk hF (dtX1_tableValues_0 19 (33, .iadd, 1) rfl) (fun v12 hF => ?_)
          refine r_istore_n hk [(1, .int v12), (0, .ref (xad X (1, i0, 0, 0))), (2, .int v4)] (dtX1_tableValues_0 20 (34, .istore_n 1, 1) rfl) (by decide) rfl ?_
          refine r_iinc hk 1 2 (fun v13 => [(2, .int v13), (1, .int v12), (0, .ref (xad X (1, i0, 0, 0)))]) hF (dtX1_tableValues_0 21 (35, .iinc 2 1, 3) rfl) rfl (by decide) (by decide) (fun _ => rfl) (fun v13 hF => ?_)
          refine r_goto hk 4 (dtX1_tableValues_0 22 (38, .goto (-34), 3) rfl) (by decide) ?_
          exact r_sub hk [2, 1, 0] rfl (ih6 v12 v13 hF)
        refine r_if_eq hk 28 hF (dtX1_tableValues_0 13 (21, .ifCond .eq 7, 3) rfl) (by decide) (fun hF => ?_) (fun hF => ?_)
        · refine r_aload_n hk 0 (dtX1_tableValues_0 16 (28, .aload_n 0, 1) rfl) rfl ?_
          refine r_iload_n hk 2 (dtX1_tableValues_0 17 (29, .iload_n 2, 1) rfl) rfl ?_
          refine r_callI hF (fun v14 h H locs ls hH hS hl => run_V (y := yX1_valuesIn) hk (in_st i0 hi0 0 (by decide)) rfl rfl (c_X1_valuesIn (kl K) hk.2.2.2.2.2.2.2.2.2.2.2 X i0 hi0 v4 m0 v14 h) lk_X1_68 me_X1_valuesIn yf_X1_valuesIn (by decide) (by decide) rfl (Nat.le_of_ble_eq_true rfl) rfl (dtX1_tableValues_0 18 (30, .invokevirtual 68, 3) rfl) hH hS hl) (fun v14 hF => ?_)
          exact r_sub hk [0, 2] rfl (j33_11 v14 hF)
        · refine r_iconst (v := 0) hk (dtX1_tableValues_0 14 (24, .iconst 0, 1) rfl) (by decide) ?_
          refine r_goto hk 33 (dtX1_tableValues_0 15 (25, .goto 8, 3) rfl) (by decide) ?_
          exact r_sub hk [0, 2] rfl (j33_11 0 hF)
  exact r_sub hk [2, 1, 0] rfl (l6 fu 0 0 hF)
set_option maxHeartbeats 4000000 in
set_option maxRecDepth 100000 in
theorem c_X3_fullness (l : Launch) (hlf : l.stackTraces = false) (X : XW)   (m0 : Mem) (rv : UInt64) (hF : F_X3_fullness m0 = some rv) : MX X l yX3_fullness cX3_fullness 2 (some .double) 3 [.ref (xad X (0, 0, 0, 0))] m0 (QD X rv m0) := by
  refine startD hlf (by decide +kernel) rfl [(0, .ref (xad X (0, 0, 0, 0)))] rfl (Nat.le_of_ble_eq_true rfl) (fun K hk hR => ?_)
  unfold F_X3_fullness at hF
  refine r_bipush (v := 8) hk (dtX3_fullness_0 0 (0, .bipush 8, 2) rfl) (by decide) ?_
  refine r_aload_n hk 0 (dtX3_fullness_0 1 (2, .aload_n 0, 1) rfl) rfl ?_
  refine r_getS hk fl_X3_30 hF (dtX3_fullness_0 2 (3, .getfield 30, 3) rfl) (fun q1 hq1 hF => ?_)
  refine r_callI hF (fun v2 h H locs ls hH hS hl => run_V (y := yX1_tableRows) hk (in_st q1 hq1 0 (by decide)) rfl rfl (c_X1_tableRows (kl K) hk.2.2.2.2.2.2.2.2.2.2.2 X q1 hq1  m0 v2 h) lk_X3_110 me_X1_tableRows yf_X1_tableRows (by decide) (by decide) rfl (Nat.le_of_ble_eq_true rfl) rfl (dtX3_fullness_0 3 (6, .invokevirtual 110, 3) rfl) hH hS hl) (fun v2 hF => ?_)
  refine r_imul hk hF (dtX3_fullness_0 4 (9, .imul, 1) rfl) (fun v3 hF => ?_)
  refine r_istore_n hk [(1, .int v3), (0, .ref (xad X (0, 0, 0, 0)))] (dtX3_fullness_0 5 (10, .istore_n 1, 1) rfl) (by decide) rfl ?_
  refine r_iload_n hk 0 (dtX3_fullness_0 6 (11, .iload_n 1, 1) rfl) rfl ?_
  have j30_5 : ∀ (v4 : UInt64), J_X3_fullness_30 v4 = some rv → G X K 30 [] [.double v4] m0 := by
    intro v4 hF
    unfold J_X3_fullness_30 at hF
    cases Option.some.inj hF
    exact hR _ _ (dtX3_fullness_0 17 (30, .dreturn, 1) rfl)
  refine r_if_gt hk 19 hF (dtX3_fullness_0 7 (12, .ifCond .gt 7, 3) rfl) (by decide) (fun hF => ?_) (fun hF => ?_)
  · refine r_aload_n hk 1 (dtX3_fullness_0 10 (19, .aload_n 0, 1) rfl) rfl ?_
    refine r_getS hk fl_X3_30 hF (dtX3_fullness_0 11 (20, .getfield 30, 3) rfl) (fun q6 hq6 hF => ?_)
    refine r_callI hF (fun v7 h H locs ls hH hS hl => run_V (y := yX1_tableValues) hk (in_st q6 hq6 0 (by decide)) rfl rfl (c_X1_tableValues (kl K) hk.2.2.2.2.2.2.2.2.2.2.2 X q6 hq6  m0 v7 h) lk_X3_207 me_X1_tableValues yf_X1_tableValues (by decide) (by decide) rfl (Nat.le_of_ble_eq_true rfl) rfl (dtX3_fullness_0 12 (23, .invokevirtual 207, 3) rfl) hH hS hl) (fun v7 hF => ?_)
    refine r_i2d hk hF (dtX3_fullness_0 13 (26, .i2d, 1) rfl) (fun v8 hF => ?_)
    refine r_iload_n hk 0 (dtX3_fullness_0 14 (27, .iload_n 1, 1) rfl) rfl ?_
    refine r_i2d hk hF (dtX3_fullness_0 15 (28, .i2d, 1) rfl) (fun v9 hF => ?_)
    refine r_ddiv hk hF (dtX3_fullness_0 16 (29, .ddiv, 1) rfl) (fun v10 hF => ?_)
    exact r_sub hk [] rfl (j30_5 v10 hF)
  · refine r_dconst0 hk (dtX3_fullness_0 8 (15, .dconst 0, 1) rfl) ?_
    refine r_goto hk 30 (dtX3_fullness_0 9 (16, .goto 14, 3) rfl) (by decide) ?_
    exact r_sub hk [] rfl (j30_5 0 hF)
set_option maxHeartbeats 4000000 in
set_option maxRecDepth 100000 in
theorem c_X3_require (l : Launch) (hlf : l.stackTraces = false) (X : XW)  (p1 : Int32) (m0 : Mem) (rv : Unit ⊕ Nat) (hF : F_X3_require p1 m0 = some rv) : MT X l yX3_require cX3_require 1 none 7 [.int p1] m0 rv m0 (QTV X rv m0) := by
  refine startTV hlf (by decide +kernel) rfl [(0, .int p1)] rfl (Nat.le_of_ble_eq_true rfl) (fun K hk hR hX => ?_)
  unfold F_X3_require at hF
  refine r_iload_n hk 0 (dtX3_require_0 0 (0, .iload_n 0, 1) rfl) rfl ?_
  refine r_if_ne hk 15 hF (dtX3_require_0 1 (1, .ifCond .ne 14, 3) rfl) (by decide) (fun hF => ?_) (fun hF => ?_)
  · cases Option.some.inj hF
    exact hR () rfl _ _ (dtX3_require_0 7 (15, .return_, 1) rfl)
  · cases Option.some.inj hF
    exact (hX 0 rfl).2.2.2 _ _ _ _ _ _ _ th_X3_267_271 th_X3_267_271_g (hk.2.2.2.2.2.1.2.2.2.2.2.2.1) (by decide) (Nat.le_of_ble_eq_true rfl) (dtX3_require_0 2 (4, .new 267, 3) rfl) (dtX3_require_0 3 (7, .dup, 1) rfl) (dtX3_require_0 4 (8, .ldc_w 269, 3) rfl) (dtX3_require_0 5 (11, .invokespecial 271, 3) rfl) (dtX3_require_0 6 (14, .athrow, 1) rfl)
set_option maxHeartbeats 4000000 in
set_option maxRecDepth 100000 in
theorem c_X1_columnsWithMeanings (l : Launch) (hlf : l.stackTraces = false) (X : XW) (i0 : Nat) (hi0 : i0 < 7) (p1 : Int32) (p2 : Int32) (m0 : Mem) (rv : Int32) (hF : F_X1_columnsWithMeanings i0 p1 p2 m0 = some rv) : MX X l yX1_columnsWithMeanings cX1_columnsWithMeanings 7 (some .int) 1 [.ref (xad X (1, i0, 0, 0)), .int p1, .int p2] m0 (QI X rv m0) := by
  refine startI hlf (by decide +kernel) rfl [(0, .ref (xad X (1, i0, 0, 0))), (1, .int p1), (2, .int p2)] rfl (Nat.le_of_ble_eq_true rfl) (fun K hk hR => ?_)
  unfold F_X1_columnsWithMeanings at hF
  refine r_iconst (v := 0) hk (dtX1_columnsWithMeanings_0 0 (0, .iconst 0, 1) rfl) (by decide) ?_
  refine r_istore_n hk [(3, .int 0), (0, .ref (xad X (1, i0, 0, 0))), (1, .int p1), (2, .int p2)] (dtX1_columnsWithMeanings_0 1 (1, .istore_n 3, 1) rfl) (by decide) rfl ?_
  refine r_iconst (v := 0) hk (dtX1_columnsWithMeanings_0 2 (2, .iconst 0, 1) rfl) (by decide) ?_
  refine r_istore hk [(4, .int 0), (3, .int 0), (0, .ref (xad X (1, i0, 0, 0))), (1, .int p1), (2, .int p2)] (dtX1_columnsWithMeanings_0 3 (3, .istore 4, 2) rfl) (by decide) rfl ?_
  have e89_2 : ∀ (v1 : Int32), C_X1_columnsWithMeanings_89 v1 = some rv → G X K 89 [(3, .int v1)] [] m0 := by
    intro v1 hF
    unfold C_X1_columnsWithMeanings_89 at hF
    refine r_iload_n hk 0 (dtX1_columnsWithMeanings_0 47 (89, .iload_n 3, 1) rfl) rfl ?_
    cases Option.some.inj hF
    exact hR _ _ (dtX1_columnsWithMeanings_0 48 (90, .ireturn, 1) rfl)
  have l6 : ∀ (n6 : Nat) (v3 : Int32) (v4 : Int32), L_X1_columnsWithMeanings_5 i0 p1 p2 m0 n6 v3 v4 = some rv → G X K 5 [(0, .ref (xad X (1, i0, 0, 0))), (1, .int p1), (2, .int p2), (3, .int v3), (4, .int v4)] [] m0 := by
    intro n6
    induction n6 with
    | zero => intro v3 v4 hF; exact nomatch (show (none : Option Int32) = some rv from hF)
    | succ n6 ih6 =>
      intro v3 v4 hF
      rw [L_X1_columnsWithMeanings_5] at hF
      refine r_iload hk 4 (dtX1_columnsWithMeanings_0 4 (5, .iload 4, 2) rfl) rfl ?_
      refine r_bipush (v := 8) hk (dtX1_columnsWithMeanings_0 5 (7, .bipush 8, 2) rfl) (by decide) ?_
      refine r_icmp_ge hk 89 hF (dtX1_columnsWithMeanings_0 6 (9, .if_icmp .ge 80, 3) rfl) (by decide) (fun hF => ?_) (fun hF => ?_)
      · exact r_sub hk [3] rfl (e89_2 v3 hF)
      · refine r_iconst (v := 0) hk (dtX1_columnsWithMeanings_0 7 (12, .iconst 0, 1) rfl) (by decide) ?_
        refine r_istore hk [(5, .int 0), (0, .ref (xad X (1, i0, 0, 0))), (1, .int p1), (2, .int p2), (3, .int v3), (4, .int v4)] (dtX1_columnsWithMeanings_0 8 (13, .istore 5, 2) rfl) (by decide) rfl ?_
        refine r_iconst (v := 0) hk (dtX1_columnsWithMeanings_0 9 (15, .iconst 0, 1) rfl) (by decide) ?_
        refine r_istore hk [(6, .int 0), (5, .int 0), (0, .ref (xad X (1, i0, 0, 0))), (1, .int p1), (2, .int p2), (3, .int v3), (4, .int v4)] (dtX1_columnsWithMeanings_0 10 (16, .istore 6, 2) rfl) (by decide) rfl ?_
        have e60_8 : ∀ (v7 : Int32), (C_X1_columnsWithMeanings_60 p1 p2 m0 v3 v4 (fun w0 w1 => L_X1_columnsWithMeanings_5 i0 p1 p2 m0 n6 w0 w1)) v7 = some rv → G X K 60 [(0, .ref (xad X (1, i0, 0, 0))), (1, .int p1), (2, .int p2), (3, .int v3), (4, .int v4), (5, .int v7)] [] m0 := by
          intro v7 hF
          unfold C_X1_columnsWithMeanings_60 at hF
          refine r_iload_n hk 3 (dtX1_columnsWithMeanings_0 32 (60, .iload_n 3, 1) rfl) rfl ?_
          refine r_iload hk 5 (dtX1_columnsWithMeanings_0 33 (61, .iload 5, 2) rfl) rfl ?_
          refine r_iload_n hk 1 (dtX1_columnsWithMeanings_0 34 (63, .iload_n 1, 1) rfl) rfl ?_
          have j78_10 : ∀ (v9 : Int32), (J_X1_columnsWithMeanings_78 m0 v3 v4 (fun w0 w1 => L_X1_columnsWithMeanings_5 i0 p1 p2 m0 n6 w0 w1)) v9 = some rv → G X K 78 [(0, .ref (xad X (1, i0, 0, 0))), (1, .int p1), (2, .int p2), (4, .int v4)] [.int v9, .int v3] m0 := by
            intro v9 hF
            unfold J_X1_columnsWithMeanings_78 at hF
            refine r_callI hF (fun v11 h H locs ls hH hS hl => run_SN hk (c_X3_asNumber (kl K) hk.2.2.2.2.2.2.2.2.2.2.2 X  v9 m0 v11 h) lk_X1_64 me_X3_asNumber yf_X3_asNumber (by decide) (by decide) rfl (Nat.le_of_ble_eq_true rfl) rfl (dtX1_columnsWithMeanings_0 42 (78, .invokestatic 64, 3) rfl) hH hS hl) (fun v11 hF => ?_)
            refine r_iadd hk hF (dtX1_columnsWithMeanings_0 43 (81, .iadd, 1) rfl) (fun v12 hF => ?_)
            refine r_istore_n hk [(3, .int v12), (0, .ref (xad X (1, i0, 0, 0))), (1, .int p1), (2, .int p2), (4, .int v4)] (dtX1_columnsWithMeanings_0 44 (82, .istore_n 3, 1) rfl) (by decide) rfl ?_
            refine r_iinc hk 1 4 (fun v13 => [(4, .int v13), (3, .int v12), (0, .ref (xad X (1, i0, 0, 0))), (1, .int p1), (2, .int p2)]) hF (dtX1_columnsWithMeanings_0 45 (83, .iinc 4 1, 3) rfl) rfl (by decide) (by decide) (fun _ => rfl) (fun v13 hF => ?_)
            refine r_goto hk 5 (dtX1_columnsWithMeanings_0 46 (86, .goto (-81), 3) rfl) (by decide) ?_
            exact r_sub hk [2, 3, 4, 1, 0] rfl (ih6 v12 v13 hF)
          have j77_14 : (J_X1_columnsWithMeanings_77 m0 v3 v4 (fun w0 w1 => L_X1_columnsWithMeanings_5 i0 p1 p2 m0 n6 w0 w1)) = some rv → G X K 77 [(0, .ref (xad X (1, i0, 0, 0))), (1, .int p1), (2, .int p2), (4, .int v4)] [.int v3] m0 := by
            intro hF
            unfold J_X1_columnsWithMeanings_77 at hF
            refine r_iconst (v := 0) hk (dtX1_columnsWithMeanings_0 41 (77, .iconst 0, 1) rfl) (by decide) ?_
            exact r_sub hk [0, 1, 2, 3] rfl (j78_10 0 hF)
          refine r_icmp_lt hk 77 hF (dtX1_columnsWithMeanings_0 35 (64, .if_icmp .lt 13, 3) rfl) (by decide) (fun hF => ?_) (fun hF => ?_)
          · exact r_sub hk [0, 1, 2, 4] rfl (j77_14 hF)
          · refine r_iload hk 5 (dtX1_columnsWithMeanings_0 36 (67, .iload 5, 2) rfl) rfl ?_
            refine r_iload_n hk 2 (dtX1_columnsWithMeanings_0 37 (69, .iload_n 2, 1) rfl) rfl ?_
            refine r_icmp_gt hk 77 hF (dtX1_columnsWithMeanings_0 38 (70, .if_icmp .gt 7, 3) rfl) (by decide) (fun hF => ?_) (fun hF => ?_)
            · exact r_sub hk [0, 1, 2, 4] rfl (j77_14 hF)
            · refine r_iconst (v := 1) hk (dtX1_columnsWithMeanings_0 39 (73, .iconst 1, 1) rfl) (by decide) ?_
              refine r_goto hk 78 (dtX1_columnsWithMeanings_0 40 (74, .goto 4, 3) rfl) (by decide) ?_
              exact r_sub hk [0, 1, 2, 4] rfl (j78_10 1 hF)
        have l18 : ∀ (n18 : Nat) (v15 : Int32) (v16 : Int32), L_X1_columnsWithMeanings_18 i0 p1 p2 m0 v3 v4 (fun w0 w1 => L_X1_columnsWithMeanings_5 i0 p1 p2 m0 n6 w0 w1) n18 v15 v16 = some rv → G X K 18 [(0, .ref (xad X (1, i0, 0, 0))), (1, .int p1), (2, .int p2), (3, .int v3), (4, .int v4), (5, .int v15), (6, .int v16)] [] m0 := by
          intro n18
          induction n18 with
          | zero => intro v15 v16 hF; exact nomatch (show (none : Option Int32) = some rv from hF)
          | succ n18 ih18 =>
            intro v15 v16 hF
            rw [L_X1_columnsWithMeanings_18] at hF
            refine r_iload hk 6 (dtX1_columnsWithMeanings_0 11 (18, .iload 6, 2) rfl) rfl ?_
            refine r_iconst (v := 3) hk (dtX1_columnsWithMeanings_0 12 (20, .iconst 3, 1) rfl) (by decide) ?_
            refine r_icmp_ge hk 60 hF (dtX1_columnsWithMeanings_0 13 (21, .if_icmp .ge 39, 3) rfl) (by decide) (fun hF => ?_) (fun hF => ?_)
            · exact r_sub hk [0, 1, 2, 3, 4, 5] rfl (e60_8 v15 hF)
            · refine r_iload hk 5 (dtX1_columnsWithMeanings_0 14 (24, .iload 5, 2) rfl) rfl ?_
              refine r_aload_n hk 0 (dtX1_columnsWithMeanings_0 15 (26, .aload_n 0, 1) rfl) rfl ?_
              refine r_getR hk (k := 0) (fsX1 X i0) cbX1 (by decide) fl_X1_11 (in_st i0 hi0 0 (by decide)) (fun _ => rfl) (fun _ _ => rfl) (dtX1_columnsWithMeanings_0 16 (27, .getfield 11, 3) rfl) ?_
              refine r_iload hk 6 (dtX1_columnsWithMeanings_0 17 (30, .iload 6, 2) rfl) rfl ?_
              refine r_aldT hk hi0 hF (dtX1_columnsWithMeanings_0 18 (32, .aaload, 1) rfl) (fun q19 hq19 hF => ?_)
              refine r_getR hk (k := 0) (fsX2 X i0 q19) cbX2 (by decide) fl_X1_82 (in_tn i0 hi0 q19 hq19 0 (by decide)) (fun _ => rfl) (fun _ _ => rfl) (dtX1_columnsWithMeanings_0 19 (33, .getfield 82, 3) rfl) ?_
              refine r_iload hk 4 (dtX1_columnsWithMeanings_0 20 (36, .iload 4, 2) rfl) rfl ?_
              refine r_iald hk (in_tn i0 hi0 q19 hq19 1 (by decide)) (fun _ => rfl) hF (dtX1_columnsWithMeanings_0 21 (38, .iaload, 1) rfl) (fun v20 hF => ?_)
              refine r_iconst (v := (-1)) hk (dtX1_columnsWithMeanings_0 22 (39, .iconst (-1), 1) rfl) (by decide) ?_
              have j48_22 : ∀ (v21 : Int32), (J_X1_columnsWithMeanings_48 m0 v15 v16 (fun w0 w1 => L_X1_columnsWithMeanings_18 i0 p1 p2 m0 v3 v4 (fun w0 w1 => L_X1_columnsWithMeanings_5 i0 p1 p2 m0 n6 w0 w1) n18 w0 w1)) v21 = some rv → G X K 48 [(0, .ref (xad X (1, i0, 0, 0))), (1, .int p1), (2, .int p2), (3, .int v3), (4, .int v4), (6, .int v16)] [.int v21, .int v15] m0 := by
                intro v21 hF
                unfold J_X1_columnsWithMeanings_48 at hF
                refine r_callI hF (fun v23 h H locs ls hH hS hl => run_SN hk (c_X3_asNumber (kl K) hk.2.2.2.2.2.2.2.2.2.2.2 X  v21 m0 v23 h) lk_X1_64 me_X3_asNumber yf_X3_asNumber (by decide) (by decide) rfl (Nat.le_of_ble_eq_true rfl) rfl (dtX1_columnsWithMeanings_0 27 (48, .invokestatic 64, 3) rfl) hH hS hl) (fun v23 hF => ?_)
                refine r_iadd hk hF (dtX1_columnsWithMeanings_0 28 (51, .iadd, 1) rfl) (fun v24 hF => ?_)
                refine r_istore hk [(5, .int v24), (0, .ref (xad X (1, i0, 0, 0))), (1, .int p1), (2, .int p2), (3, .int v3), (4, .int v4), (6, .int v16)] (dtX1_columnsWithMeanings_0 29 (52, .istore 5, 2) rfl) (by decide) rfl ?_
                refine r_iinc hk 1 6 (fun v25 => [(6, .int v25), (5, .int v24), (0, .ref (xad X (1, i0, 0, 0))), (1, .int p1), (2, .int p2), (3, .int v3), (4, .int v4)]) hF (dtX1_columnsWithMeanings_0 30 (54, .iinc 6 1, 3) rfl) rfl (by decide) (by decide) (fun _ => rfl) (fun v25 hF => ?_)
                refine r_goto hk 18 (dtX1_columnsWithMeanings_0 31 (57, .goto (-39), 3) rfl) (by decide) ?_
                exact r_sub hk [2, 3, 4, 5, 6, 1, 0] rfl (ih18 v24 v25 hF)
              refine r_icmp_eq hk 47 hF (dtX1_columnsWithMeanings_0 23 (40, .if_icmp .eq 7, 3) rfl) (by decide) (fun hF => ?_) (fun hF => ?_)
              · refine r_iconst (v := 0) hk (dtX1_columnsWithMeanings_0 26 (47, .iconst 0, 1) rfl) (by decide) ?_
                exact r_sub hk [0, 1, 2, 3, 4, 6] rfl (j48_22 0 hF)
              · refine r_iconst (v := 1) hk (dtX1_columnsWithMeanings_0 24 (43, .iconst 1, 1) rfl) (by decide) ?_
                refine r_goto hk 48 (dtX1_columnsWithMeanings_0 25 (44, .goto 4, 3) rfl) (by decide) ?_
                exact r_sub hk [0, 1, 2, 3, 4, 6] rfl (j48_22 1 hF)
        exact r_sub hk [2, 3, 4, 5, 6, 1, 0] rfl (l18 fu 0 0 hF)
  exact r_sub hk [2, 3, 4, 1, 0] rfl (l6 fu 0 0 hF)
set_option maxHeartbeats 4000000 in
set_option maxRecDepth 100000 in
theorem c_X1_indexes (l : Launch) (hlf : l.stackTraces = false) (X : XW) (i0 : Nat) (hi0 : i0 < 7)  (m0 : Mem) (rv : Int32) (hF : F_X1_indexes i0 m0 = some rv) : MX X l yX1_indexes cX1_indexes 4 (some .int) 1 [.ref (xad X (1, i0, 0, 0))] m0 (QI X rv m0) := by
  refine startI hlf (by decide +kernel) rfl [(0, .ref (xad X (1, i0, 0, 0)))] rfl (Nat.le_of_ble_eq_true rfl) (fun K hk hR => ?_)
  unfold F_X1_indexes at hF
  refine r_iconst (v := 0) hk (dtX1_indexes_0 0 (0, .iconst 0, 1) rfl) (by decide) ?_
  refine r_istore_n hk [(1, .int 0), (0, .ref (xad X (1, i0, 0, 0)))] (dtX1_indexes_0 1 (1, .istore_n 1, 1) rfl) (by decide) rfl ?_
  refine r_iconst (v := 0) hk (dtX1_indexes_0 2 (2, .iconst 0, 1) rfl) (by decide) ?_
  refine r_istore_n hk [(2, .int 0), (1, .int 0), (0, .ref (xad X (1, i0, 0, 0)))] (dtX1_indexes_0 3 (3, .istore_n 2, 1) rfl) (by decide) rfl ?_
  have e46_2 : ∀ (v1 : Int32), C_X1_indexes_46 v1 = some rv → G X K 46 [(1, .int v1)] [] m0 := by
    intro v1 hF
    unfold C_X1_indexes_46 at hF
    refine r_iload_n hk 0 (dtX1_indexes_0 27 (46, .iload_n 1, 1) rfl) rfl ?_
    cases Option.some.inj hF
    exact hR _ _ (dtX1_indexes_0 28 (47, .ireturn, 1) rfl)
  have l6 : ∀ (n6 : Nat) (v3 : Int32) (v4 : Int32), L_X1_indexes_4 i0 m0 n6 v3 v4 = some rv → G X K 4 [(0, .ref (xad X (1, i0, 0, 0))), (1, .int v3), (2, .int v4)] [] m0 := by
    intro n6
    induction n6 with
    | zero => intro v3 v4 hF; exact nomatch (show (none : Option Int32) = some rv from hF)
    | succ n6 ih6 =>
      intro v3 v4 hF
      rw [L_X1_indexes_4] at hF
      refine r_iload_n hk 2 (dtX1_indexes_0 4 (4, .iload_n 2, 1) rfl) rfl ?_
      refine r_iconst (v := 3) hk (dtX1_indexes_0 5 (5, .iconst 3, 1) rfl) (by decide) ?_
      refine r_icmp_ge hk 46 hF (dtX1_indexes_0 6 (6, .if_icmp .ge 40, 3) rfl) (by decide) (fun hF => ?_) (fun hF => ?_)
      · exact r_sub hk [1] rfl (e46_2 v3 hF)
      · refine r_iconst (v := 0) hk (dtX1_indexes_0 7 (9, .iconst 0, 1) rfl) (by decide) ?_
        refine r_istore_n hk [(3, .int 0), (0, .ref (xad X (1, i0, 0, 0))), (1, .int v3), (2, .int v4)] (dtX1_indexes_0 8 (10, .istore_n 3, 1) rfl) (by decide) rfl ?_
        have e40_8 : ∀ (v7 : Int32), (C_X1_indexes_40 v4 (fun w0 w1 => L_X1_indexes_4 i0 m0 n6 w0 w1)) v7 = some rv → G X K 40 [(0, .ref (xad X (1, i0, 0, 0))), (1, .int v7), (2, .int v4)] [] m0 := by
          intro v7 hF
          unfold C_X1_indexes_40 at hF
          refine r_iinc hk 1 2 (fun v9 => [(2, .int v9), (0, .ref (xad X (1, i0, 0, 0))), (1, .int v7)]) hF (dtX1_indexes_0 25 (40, .iinc 2 1, 3) rfl) rfl (by decide) (by decide) (fun _ => rfl) (fun v9 hF => ?_)
          refine r_goto hk 4 (dtX1_indexes_0 26 (43, .goto (-39), 3) rfl) (by decide) ?_
          exact r_sub hk [1, 2, 0] rfl (ih6 v7 v9 hF)
        have l13 : ∀ (n13 : Nat) (v10 : Int32) (v11 : Int32), L_X1_indexes_11 i0 m0 v4 (fun w0 w1 => L_X1_indexes_4 i0 m0 n6 w0 w1) n13 v10 v11 = some rv → G X K 11 [(0, .ref (xad X (1, i0, 0, 0))), (1, .int v10), (2, .int v4), (3, .int v11)] [] m0 := by
          intro n13
          induction n13 with
          | zero => intro v10 v11 hF; exact nomatch (show (none : Option Int32) = some rv from hF)
          | succ n13 ih13 =>
            intro v10 v11 hF
            rw [L_X1_indexes_11] at hF
            refine r_iload_n hk 3 (dtX1_indexes_0 9 (11, .iload_n 3, 1) rfl) rfl ?_
            refine r_bipush (v := 8) hk (dtX1_indexes_0 10 (12, .bipush 8, 2) rfl) (by decide) ?_
            refine r_icmp_ge hk 40 hF (dtX1_indexes_0 11 (14, .if_icmp .ge 26, 3) rfl) (by decide) (fun hF => ?_) (fun hF => ?_)
            · exact r_sub hk [0, 1, 2] rfl (e40_8 v10 hF)
            · refine r_iload_n hk 1 (dtX1_indexes_0 12 (17, .iload_n 1, 1) rfl) rfl ?_
              refine r_aload_n hk 0 (dtX1_indexes_0 13 (18, .aload_n 0, 1) rfl) rfl ?_
              refine r_getR hk (k := 0) (fsX1 X i0) cbX1 (by decide) fl_X1_11 (in_st i0 hi0 0 (by decide)) (fun _ => rfl) (fun _ _ => rfl) (dtX1_indexes_0 14 (19, .getfield 11, 3) rfl) ?_
              refine r_iload_n hk 2 (dtX1_indexes_0 15 (22, .iload_n 2, 1) rfl) rfl ?_
              refine r_aldT hk hi0 hF (dtX1_indexes_0 16 (23, .aaload, 1) rfl) (fun q14 hq14 hF => ?_)
              refine r_getR hk (k := 2) (fsX2 X i0 q14) cbX2 (by decide) fl_X1_85 (in_tn i0 hi0 q14 hq14 0 (by decide)) (fun _ => rfl) (fun _ _ => rfl) (dtX1_indexes_0 17 (24, .getfield 85, 3) rfl) ?_
              refine r_iload_n hk 3 (dtX1_indexes_0 18 (27, .iload_n 3, 1) rfl) rfl ?_
              refine r_zald hk (in_tn i0 hi0 q14 hq14 3 (by decide)) (fun _ => rfl) hF (dtX1_indexes_0 19 (28, .baload, 1) rfl) (fun v15 hF => ?_)
              refine r_callI hF (fun v16 h H locs ls hH hS hl => run_SN hk (c_X3_asNumber (kl K) hk.2.2.2.2.2.2.2.2.2.2.2 X  v15 m0 v16 h) lk_X1_64 me_X3_asNumber yf_X3_asNumber (by decide) (by decide) rfl (Nat.le_of_ble_eq_true rfl) rfl (dtX1_indexes_0 20 (29, .invokestatic 64, 3) rfl) hH hS hl) (fun v16 hF => ?_)
              refine r_iadd hk hF (dtX1_indexes_0 21 (32, .iadd, 1) rfl) (fun v17 hF => ?_)
              refine r_istore_n hk [(1, .int v17), (0, .ref (xad X (1, i0, 0, 0))), (2, .int v4), (3, .int v11)] (dtX1_indexes_0 22 (33, .istore_n 1, 1) rfl) (by decide) rfl ?_
              refine r_iinc hk 1 3 (fun v18 => [(3, .int v18), (1, .int v17), (0, .ref (xad X (1, i0, 0, 0))), (2, .int v4)]) hF (dtX1_indexes_0 23 (34, .iinc 3 1, 3) rfl) rfl (by decide) (by decide) (fun _ => rfl) (fun v18 hF => ?_)
              refine r_goto hk 11 (dtX1_indexes_0 24 (37, .goto (-26), 3) rfl) (by decide) ?_
              exact r_sub hk [2, 1, 3, 0] rfl (ih13 v17 v18 hF)
        exact r_sub hk [1, 2, 3, 0] rfl (l13 fu v3 0 hF)
  exact r_sub hk [2, 1, 0] rfl (l6 fu 0 0 hF)
set_option maxHeartbeats 4000000 in
set_option maxRecDepth 100000 in
theorem c_X1_movedTenants (l : Launch) (hlf : l.stackTraces = false) (X : XW) (i0 : Nat) (hi0 : i0 < 7)  (m0 : Mem) (rv : Int32) (hF : F_X1_movedTenants i0 m0 = some rv) : MX X l yX1_movedTenants cX1_movedTenants 3 (some .int) 1 [.ref (xad X (1, i0, 0, 0))] m0 (QI X rv m0) := by
  refine startI hlf (by decide +kernel) rfl [(0, .ref (xad X (1, i0, 0, 0)))] rfl (Nat.le_of_ble_eq_true rfl) (fun K hk hR => ?_)
  unfold F_X1_movedTenants at hF
  refine r_iconst (v := 0) hk (dtX1_movedTenants_0 0 (0, .iconst 0, 1) rfl) (by decide) ?_
  refine r_istore_n hk [(1, .int 0), (0, .ref (xad X (1, i0, 0, 0)))] (dtX1_movedTenants_0 1 (1, .istore_n 1, 1) rfl) (by decide) rfl ?_
  refine r_iconst (v := 0) hk (dtX1_movedTenants_0 2 (2, .iconst 0, 1) rfl) (by decide) ?_
  refine r_istore_n hk [(2, .int 0), (1, .int 0), (0, .ref (xad X (1, i0, 0, 0)))] (dtX1_movedTenants_0 3 (3, .istore_n 2, 1) rfl) (by decide) rfl ?_
  have e30_2 : ∀ (v1 : Int32), C_X1_movedTenants_30 v1 = some rv → G X K 30 [(1, .int v1)] [] m0 := by
    intro v1 hF
    unfold C_X1_movedTenants_30 at hF
    refine r_iload_n hk 0 (dtX1_movedTenants_0 18 (30, .iload_n 1, 1) rfl) rfl ?_
    cases Option.some.inj hF
    exact hR _ _ (dtX1_movedTenants_0 19 (31, .ireturn, 1) rfl)
  have l6 : ∀ (n6 : Nat) (v3 : Int32) (v4 : Int32), L_X1_movedTenants_4 i0 m0 n6 v3 v4 = some rv → G X K 4 [(0, .ref (xad X (1, i0, 0, 0))), (1, .int v3), (2, .int v4)] [] m0 := by
    intro n6
    induction n6 with
    | zero => intro v3 v4 hF; exact nomatch (show (none : Option Int32) = some rv from hF)
    | succ n6 ih6 =>
      intro v3 v4 hF
      rw [L_X1_movedTenants_4] at hF
      refine r_iload_n hk 2 (dtX1_movedTenants_0 4 (4, .iload_n 2, 1) rfl) rfl ?_
      refine r_iconst (v := 3) hk (dtX1_movedTenants_0 5 (5, .iconst 3, 1) rfl) (by decide) ?_
      refine r_icmp_ge hk 30 hF (dtX1_movedTenants_0 6 (6, .if_icmp .ge 24, 3) rfl) (by decide) (fun hF => ?_) (fun hF => ?_)
      · exact r_sub hk [1] rfl (e30_2 v3 hF)
      · refine r_iload_n hk 1 (dtX1_movedTenants_0 7 (9, .iload_n 1, 1) rfl) rfl ?_
        refine r_aload_n hk 0 (dtX1_movedTenants_0 8 (10, .aload_n 0, 1) rfl) rfl ?_
        refine r_getR hk (k := 0) (fsX1 X i0) cbX1 (by decide) fl_X1_11 (in_st i0 hi0 0 (by decide)) (fun _ => rfl) (fun _ _ => rfl) (dtX1_movedTenants_0 9 (11, .getfield 11, 3) rfl) ?_
        refine r_iload_n hk 2 (dtX1_movedTenants_0 10 (14, .iload_n 2, 1) rfl) rfl ?_
        refine r_aldT hk hi0 hF (dtX1_movedTenants_0 11 (15, .aaload, 1) rfl) (fun q7 hq7 hF => ?_)
        refine r_getI hk (k := 5) (fsX2 X i0 q7) cbX2 (by decide) fl_X1_56 (in_tn i0 hi0 q7 hq7 0 (by decide)) (fun _ => rfl) (fun _ _ => rfl) hF (dtX1_movedTenants_0 12 (16, .getfield 56, 3) rfl) (fun v8 hF => ?_)
        refine r_callI hF (fun v9 h H locs ls hH hS hl => run_SN hk (c_X3_asNumber (kl K) hk.2.2.2.2.2.2.2.2.2.2.2 X  v8 m0 v9 h) lk_X1_64 me_X3_asNumber yf_X3_asNumber (by decide) (by decide) rfl (Nat.le_of_ble_eq_true rfl) rfl (dtX1_movedTenants_0 13 (19, .invokestatic 64, 3) rfl) hH hS hl) (fun v9 hF => ?_)
        refine r_iadd hk hF (dtX1_movedTenants_0 14 (22, .iadd, 1) rfl) (fun v10 hF => ?_)
        refine r_istore_n hk [(1, .int v10), (0, .ref (xad X (1, i0, 0, 0))), (2, .int v4)] (dtX1_movedTenants_0 15 (23, .istore_n 1, 1) rfl) (by decide) rfl ?_
        refine r_iinc hk 1 2 (fun v11 => [(2, .int v11), (1, .int v10), (0, .ref (xad X (1, i0, 0, 0)))]) hF (dtX1_movedTenants_0 16 (24, .iinc 2 1, 3) rfl) rfl (by decide) (by decide) (fun _ => rfl) (fun v11 hF => ?_)
        refine r_goto hk 4 (dtX1_movedTenants_0 17 (27, .goto (-23), 3) rfl) (by decide) ?_
        exact r_sub hk [2, 1, 0] rfl (ih6 v10 v11 hF)
  exact r_sub hk [2, 1, 0] rfl (l6 fu 0 0 hF)
set_option maxHeartbeats 4000000 in
set_option maxRecDepth 100000 in
theorem c_X3_count (l : Launch) (hlf : l.stackTraces = false) (X : XW)  (p1 : Int32) (m0 : Mem) (rv : Int32 ⊕ Nat) (hF : F_X3_count p1 m0 = some rv) : MT X l yX3_count cX3_count 2 (some .int) 8 [.ref (xad X (0, 0, 0, 0)), .int p1] m0 rv m0 (QTI X rv m0) := by
  refine startTI hlf (by decide +kernel) rfl [(0, .ref (xad X (0, 0, 0, 0))), (1, .int p1)] rfl (Nat.le_of_ble_eq_true rfl) (fun K hk hR hX => ?_)
  unfold F_X3_count at hF
  refine r_iload_n hk 1 (dtX3_count_0 0 (0, .iload_n 1, 1) rfl) rfl ?_
  have j15_2 : ∀ (v1 : Int32), (J_X3_count_15 p1 m0) v1 = some rv → G X K 15 [(0, .ref (xad X (0, 0, 0, 0))), (1, .int p1)] [.int v1] m0 := by
    intro v1 hF
    unfold J_X3_count_15 at hF
    refine r_callVts hk hF (fun c h => by cases Option.some.inj h; exact hX c rfl) (fun R h hf H locs ls hH hS hl => runT_S hk (c_X3_require (kl K) hk.2.2.2.2.2.2.2.2.2.2.2 X  v1 m0 R h) lk_X3_41 me_X3_require yf_X3_require (by decide) (by decide) rfl (Nat.le_of_ble_eq_true rfl) rfl (dtX3_count_0 8 (15, .invokestatic 41, 3) rfl) hf hH hS hl) (fun _ hF => ?_)
    refine r_iload_n hk 1 (dtX3_count_0 9 (18, .iload_n 1, 1) rfl) rfl ?_
    by_cases hs19_0 : p1 = 0
    · rw [if_pos hs19_0] at hF
      refine r_tabIn hk 60 (dtX3_count_0 10 (19, .tableswitch 101 0 6 #[41, 49, 57, 65, 75, 85, 93], 41) rfl) (by rw [hs19_0]; decide) (by rw [hs19_0]; decide) (by rw [hs19_0]; rfl) (by decide) ?_
      refine r_aload_n hk 0 (dtX3_count_0 11 (60, .aload_n 0, 1) rfl) rfl ?_
      refine r_getS hk fl_X3_30 hF (dtX3_count_0 12 (61, .getfield 30, 3) rfl) (fun q3 hq3 hF => ?_)
      refine r_callI hF (fun v4 h H locs ls hH hS hl => run_V (y := yX1_tableRows) hk (in_st q3 hq3 0 (by decide)) rfl rfl (c_X1_tableRows (kl K) hk.2.2.2.2.2.2.2.2.2.2.2 X q3 hq3  m0 v4 h) lk_X3_110 me_X1_tableRows yf_X1_tableRows (by decide) (by decide) rfl (Nat.le_of_ble_eq_true rfl) rfl (dtX3_count_0 13 (64, .invokevirtual 110, 3) rfl) hH hS hl) (fun v4 hF => ?_)
      cases Option.some.inj hF
      exact hR v4 rfl _ _ (dtX3_count_0 14 (67, .ireturn, 1) rfl)
    · rw [if_neg hs19_0] at hF
      by_cases hs19_1 : p1 = 1
      · rw [if_pos hs19_1] at hF
        refine r_tabIn hk 68 (dtX3_count_0 10 (19, .tableswitch 101 0 6 #[41, 49, 57, 65, 75, 85, 93], 41) rfl) (by rw [hs19_1]; decide) (by rw [hs19_1]; decide) (by rw [hs19_1]; rfl) (by decide) ?_
        refine r_aload_n hk 0 (dtX3_count_0 15 (68, .aload_n 0, 1) rfl) rfl ?_
        refine r_getS hk fl_X3_30 hF (dtX3_count_0 16 (69, .getfield 30, 3) rfl) (fun q5 hq5 hF => ?_)
        refine r_getI hk (k := 3) (fsX1 X q5) cbX1 (by decide) fl_X3_204 (in_st q5 hq5 0 (by decide)) (fun _ => rfl) (fun _ _ => rfl) hF (dtX3_count_0 17 (72, .getfield 204, 3) rfl) (fun v6 hF => ?_)
        cases Option.some.inj hF
        exact hR v6 rfl _ _ (dtX3_count_0 18 (75, .ireturn, 1) rfl)
      · rw [if_neg hs19_1] at hF
        by_cases hs19_2 : p1 = 2
        · rw [if_pos hs19_2] at hF
          refine r_tabIn hk 76 (dtX3_count_0 10 (19, .tableswitch 101 0 6 #[41, 49, 57, 65, 75, 85, 93], 41) rfl) (by rw [hs19_2]; decide) (by rw [hs19_2]; decide) (by rw [hs19_2]; rfl) (by decide) ?_
          refine r_aload_n hk 0 (dtX3_count_0 19 (76, .aload_n 0, 1) rfl) rfl ?_
          refine r_getS hk fl_X3_30 hF (dtX3_count_0 20 (77, .getfield 30, 3) rfl) (fun q7 hq7 hF => ?_)
          refine r_callI hF (fun v8 h H locs ls hH hS hl => run_V (y := yX1_tableValues) hk (in_st q7 hq7 0 (by decide)) rfl rfl (c_X1_tableValues (kl K) hk.2.2.2.2.2.2.2.2.2.2.2 X q7 hq7  m0 v8 h) lk_X3_207 me_X1_tableValues yf_X1_tableValues (by decide) (by decide) rfl (Nat.le_of_ble_eq_true rfl) rfl (dtX3_count_0 21 (80, .invokevirtual 207, 3) rfl) hH hS hl) (fun v8 hF => ?_)
          cases Option.some.inj hF
          exact hR v8 rfl _ _ (dtX3_count_0 22 (83, .ireturn, 1) rfl)
        · rw [if_neg hs19_2] at hF
          by_cases hs19_3 : p1 = 3
          · rw [if_pos hs19_3] at hF
            refine r_tabIn hk 84 (dtX3_count_0 10 (19, .tableswitch 101 0 6 #[41, 49, 57, 65, 75, 85, 93], 41) rfl) (by rw [hs19_3]; decide) (by rw [hs19_3]; decide) (by rw [hs19_3]; rfl) (by decide) ?_
            refine r_aload_n hk 0 (dtX3_count_0 23 (84, .aload_n 0, 1) rfl) rfl ?_
            refine r_getS hk fl_X3_30 hF (dtX3_count_0 24 (85, .getfield 30, 3) rfl) (fun q9 hq9 hF => ?_)
            refine r_iconst (v := 2) hk (dtX3_count_0 25 (88, .iconst 2, 1) rfl) (by decide) ?_
            refine r_iconst (v := 3) hk (dtX3_count_0 26 (89, .iconst 3, 1) rfl) (by decide) ?_
            refine r_callI hF (fun v10 h H locs ls hH hS hl => run_V (y := yX1_columnsWithMeanings) hk (in_st q9 hq9 0 (by decide)) rfl rfl (c_X1_columnsWithMeanings (kl K) hk.2.2.2.2.2.2.2.2.2.2.2 X q9 hq9 2 3 m0 v10 h) lk_X3_210 me_X1_columnsWithMeanings yf_X1_columnsWithMeanings (by decide) (by decide) rfl (Nat.le_of_ble_eq_true rfl) rfl (dtX3_count_0 27 (90, .invokevirtual 210, 3) rfl) hH hS hl) (fun v10 hF => ?_)
            cases Option.some.inj hF
            exact hR v10 rfl _ _ (dtX3_count_0 28 (93, .ireturn, 1) rfl)
          · rw [if_neg hs19_3] at hF
            by_cases hs19_4 : p1 = 4
            · rw [if_pos hs19_4] at hF
              refine r_tabIn hk 94 (dtX3_count_0 10 (19, .tableswitch 101 0 6 #[41, 49, 57, 65, 75, 85, 93], 41) rfl) (by rw [hs19_4]; decide) (by rw [hs19_4]; decide) (by rw [hs19_4]; rfl) (by decide) ?_
              refine r_aload_n hk 0 (dtX3_count_0 29 (94, .aload_n 0, 1) rfl) rfl ?_
              refine r_getS hk fl_X3_30 hF (dtX3_count_0 30 (95, .getfield 30, 3) rfl) (fun q11 hq11 hF => ?_)
              refine r_iconst (v := 0) hk (dtX3_count_0 31 (98, .iconst 0, 1) rfl) (by decide) ?_
              refine r_iconst (v := 0) hk (dtX3_count_0 32 (99, .iconst 0, 1) rfl) (by decide) ?_
              refine r_callI hF (fun v12 h H locs ls hH hS hl => run_V (y := yX1_columnsWithMeanings) hk (in_st q11 hq11 0 (by decide)) rfl rfl (c_X1_columnsWithMeanings (kl K) hk.2.2.2.2.2.2.2.2.2.2.2 X q11 hq11 0 0 m0 v12 h) lk_X3_210 me_X1_columnsWithMeanings yf_X1_columnsWithMeanings (by decide) (by decide) rfl (Nat.le_of_ble_eq_true rfl) rfl (dtX3_count_0 33 (100, .invokevirtual 210, 3) rfl) hH hS hl) (fun v12 hF => ?_)
              cases Option.some.inj hF
              exact hR v12 rfl _ _ (dtX3_count_0 34 (103, .ireturn, 1) rfl)
            · rw [if_neg hs19_4] at hF
              by_cases hs19_5 : p1 = 5
              · rw [if_pos hs19_5] at hF
                refine r_tabIn hk 104 (dtX3_count_0 10 (19, .tableswitch 101 0 6 #[41, 49, 57, 65, 75, 85, 93], 41) rfl) (by rw [hs19_5]; decide) (by rw [hs19_5]; decide) (by rw [hs19_5]; rfl) (by decide) ?_
                refine r_aload_n hk 0 (dtX3_count_0 35 (104, .aload_n 0, 1) rfl) rfl ?_
                refine r_getS hk fl_X3_30 hF (dtX3_count_0 36 (105, .getfield 30, 3) rfl) (fun q13 hq13 hF => ?_)
                refine r_callI hF (fun v14 h H locs ls hH hS hl => run_V (y := yX1_indexes) hk (in_st q13 hq13 0 (by decide)) rfl rfl (c_X1_indexes (kl K) hk.2.2.2.2.2.2.2.2.2.2.2 X q13 hq13  m0 v14 h) lk_X3_213 me_X1_indexes yf_X1_indexes (by decide) (by decide) rfl (Nat.le_of_ble_eq_true rfl) rfl (dtX3_count_0 37 (108, .invokevirtual 213, 3) rfl) hH hS hl) (fun v14 hF => ?_)
                cases Option.some.inj hF
                exact hR v14 rfl _ _ (dtX3_count_0 38 (111, .ireturn, 1) rfl)
              · rw [if_neg hs19_5] at hF
                by_cases hs19_6 : p1 = 6
                · rw [if_pos hs19_6] at hF
                  refine r_tabIn hk 112 (dtX3_count_0 10 (19, .tableswitch 101 0 6 #[41, 49, 57, 65, 75, 85, 93], 41) rfl) (by rw [hs19_6]; decide) (by rw [hs19_6]; decide) (by rw [hs19_6]; rfl) (by decide) ?_
                  refine r_aload_n hk 0 (dtX3_count_0 39 (112, .aload_n 0, 1) rfl) rfl ?_
                  refine r_getS hk fl_X3_30 hF (dtX3_count_0 40 (113, .getfield 30, 3) rfl) (fun q15 hq15 hF => ?_)
                  refine r_callI hF (fun v16 h H locs ls hH hS hl => run_V (y := yX1_movedTenants) hk (in_st q15 hq15 0 (by decide)) rfl rfl (c_X1_movedTenants (kl K) hk.2.2.2.2.2.2.2.2.2.2.2 X q15 hq15  m0 v16 h) lk_X3_216 me_X1_movedTenants yf_X1_movedTenants (by decide) (by decide) rfl (Nat.le_of_ble_eq_true rfl) rfl (dtX3_count_0 41 (116, .invokevirtual 216, 3) rfl) hH hS hl) (fun v16 hF => ?_)
                  cases Option.some.inj hF
                  exact hR v16 rfl _ _ (dtX3_count_0 42 (119, .ireturn, 1) rfl)
                · rw [if_neg hs19_6] at hF
                  refine r_tabOut hk 120 (dtX3_count_0 10 (19, .tableswitch 101 0 6 #[41, 49, 57, 65, 75, 85, 93], 41) rfl) (by have q0 := lv_neT hs19_0 (a := 0) rfl; have q1 := lv_neT hs19_1 (a := 1) rfl; have q2 := lv_neT hs19_2 (a := 2) rfl; have q3 := lv_neT hs19_3 (a := 3) rfl; have q4 := lv_neT hs19_4 (a := 4) rfl; have q5 := lv_neT hs19_5 (a := 5) rfl; have q6 := lv_neT hs19_6 (a := 6) rfl; omega) (by decide) ?_
                  refine r_aload_n hk 0 (dtX3_count_0 43 (120, .aload_n 0, 1) rfl) rfl ?_
                  refine r_getI hk (k := 5) (fsX3 X) cbX3 (by decide) fl_X3_179 (in_main 0 (by decide)) (fun _ => rfl) (fun _ _ => rfl) hF (dtX3_count_0 44 (121, .getfield 179, 3) rfl) (fun v17 hF => ?_)
                  cases Option.some.inj hF
                  exact hR v17 rfl _ _ (dtX3_count_0 45 (124, .ireturn, 1) rfl)
  have j14_18 : (J_X3_count_14 p1 m0) = some rv → G X K 14 [(0, .ref (xad X (0, 0, 0, 0))), (1, .int p1)] [] m0 := by
    intro hF
    unfold J_X3_count_14 at hF
    refine r_iconst (v := 0) hk (dtX3_count_0 7 (14, .iconst 0, 1) rfl) (by decide) ?_
    exact r_sub hk [0, 1] rfl (j15_2 0 hF)
  refine r_if_lt hk 14 hF (dtX3_count_0 1 (1, .ifCond .lt 13, 3) rfl) (by decide) (fun hF => ?_) (fun hF => ?_)
  · exact r_sub hk [0, 1] rfl (j14_18 hF)
  · refine r_iload_n hk 1 (dtX3_count_0 2 (4, .iload_n 1, 1) rfl) rfl ?_
    refine r_bipush (v := 7) hk (dtX3_count_0 3 (5, .bipush 7, 2) rfl) (by decide) ?_
    refine r_icmp_gt hk 14 hF (dtX3_count_0 4 (7, .if_icmp .gt 7, 3) rfl) (by decide) (fun hF => ?_) (fun hF => ?_)
    · exact r_sub hk [0, 1] rfl (j14_18 hF)
    · refine r_iconst (v := 1) hk (dtX3_count_0 5 (10, .iconst 1, 1) rfl) (by decide) ?_
      refine r_goto hk 15 (dtX3_count_0 6 (11, .goto 4, 3) rfl) (by decide) ?_
      exact r_sub hk [0, 1] rfl (j15_2 1 hF)
set_option maxHeartbeats 4000000 in
set_option maxRecDepth 100000 in
theorem c_X3_mix (l : Launch) (hlf : l.stackTraces = false) (X : XW)  (p1 : Int64) (p2 : Int64) (m0 : Mem) (rv : Int64) (hF : F_X3_mix p1 p2 m0 = some rv) : MX X l yX3_mix cX3_mix 4 (some .long) 0 [.long p1, .long p2] m0 (QL X rv m0) := by
  refine startL hlf (by decide +kernel) rfl [(0, .long p1), (2, .long p2)] rfl (Nat.le_of_ble_eq_true rfl) (fun K hk hR => ?_)
  unfold F_X3_mix at hF
  refine r_ldc2 hk cn_X3_250 (dtX3_mix_0 0 (0, .ldc2_w 250, 3) rfl) ?_
  refine r_lload_n hk 0 (dtX3_mix_0 1 (3, .lload_n 0, 1) rfl) rfl ?_
  refine r_lmul hk hF (dtX3_mix_0 2 (4, .lmul, 1) rfl) (fun v1 hF => ?_)
  refine r_lload_n hk 1 (dtX3_mix_0 3 (5, .lload_n 2, 1) rfl) rfl ?_
  refine r_ladd hk hF (dtX3_mix_0 4 (6, .ladd, 1) rfl) (fun v2 hF => ?_)
  cases Option.some.inj hF
  exact hR _ _ (dtX3_mix_0 5 (7, .lreturn, 1) rfl)
set_option maxHeartbeats 4000000 in
set_option maxRecDepth 100000 in
theorem c_X3_requireRow (l : Launch) (hlf : l.stackTraces = false) (X : XW)  (p1 : Int32) (m0 : Mem) (rv : Unit ⊕ Nat) (hF : F_X3_requireRow p1 m0 = some rv) : MT X l yX3_requireRow cX3_requireRow 2 none 7 [.ref (xad X (0, 0, 0, 0)), .int p1] m0 rv m0 (QTV X rv m0) := by
  refine startTV hlf (by decide +kernel) rfl [(0, .ref (xad X (0, 0, 0, 0))), (1, .int p1)] rfl (Nat.le_of_ble_eq_true rfl) (fun K hk hR hX => ?_)
  unfold F_X3_requireRow at hF
  refine r_iload_n hk 1 (dtX3_requireRow_0 0 (0, .iload_n 1, 1) rfl) rfl ?_
  have j15_1 : J_X3_requireRow_15 = some rv → G X K 15 [] [] m0 := by
    intro hF
    unfold J_X3_requireRow_15 at hF
    cases Option.some.inj hF
    exact (hX 2 rfl).2.2.2 _ _ _ _ _ _ _ th_X3_272_276 th_X3_272_276_g (hk.2.2.2.2.2.1.2.2.2.2.2.2.2.1) (by decide) (Nat.le_of_ble_eq_true rfl) (dtX3_requireRow_0 7 (15, .new 272, 3) rfl) (dtX3_requireRow_0 8 (18, .dup, 1) rfl) (dtX3_requireRow_0 9 (19, .ldc_w 274, 3) rfl) (dtX3_requireRow_0 10 (22, .invokespecial 276, 3) rfl) (dtX3_requireRow_0 11 (25, .athrow, 1) rfl)
  refine r_if_lt hk 15 hF (dtX3_requireRow_0 1 (1, .ifCond .lt 14, 3) rfl) (by decide) (fun hF => ?_) (fun hF => ?_)
  · exact r_sub hk [] rfl (j15_1 hF)
  · refine r_iload_n hk 1 (dtX3_requireRow_0 2 (4, .iload_n 1, 1) rfl) rfl ?_
    refine r_aload_n hk 0 (dtX3_requireRow_0 3 (5, .aload_n 0, 1) rfl) rfl ?_
    refine r_getS hk fl_X3_30 hF (dtX3_requireRow_0 4 (6, .getfield 30, 3) rfl) (fun q2 hq2 hF => ?_)
    refine r_getI hk (k := 3) (fsX1 X q2) cbX1 (by decide) fl_X3_204 (in_st q2 hq2 0 (by decide)) (fun _ => rfl) (fun _ _ => rfl) hF (dtX3_requireRow_0 5 (9, .getfield 204, 3) rfl) (fun v3 hF => ?_)
    refine r_icmp_lt hk 26 hF (dtX3_requireRow_0 6 (12, .if_icmp .lt 14, 3) rfl) (by decide) (fun hF => ?_) (fun hF => ?_)
    · cases Option.some.inj hF
      exact hR () rfl _ _ (dtX3_requireRow_0 12 (26, .return_, 1) rfl)
    · exact r_sub hk [] rfl (j15_1 hF)
set_option maxHeartbeats 4000000 in
set_option maxRecDepth 100000 in
theorem c_X3_rowOf (l : Launch) (hlf : l.stackTraces = false) (X : XW)  (p1 : Int32) (p2 : Int32) (m0 : Mem) (rv : Int32 ⊕ Nat) (hF : F_X3_rowOf p1 p2 m0 = some rv) : MT X l yX3_rowOf cX3_rowOf 4 (some .int) 8 [.ref (xad X (0, 0, 0, 0)), .int p1, .int p2] m0 rv m0 (QTI X rv m0) := by
  refine startTI hlf (by decide +kernel) rfl [(0, .ref (xad X (0, 0, 0, 0))), (1, .int p1), (2, .int p2)] rfl (Nat.le_of_ble_eq_true rfl) (fun K hk hR hX => ?_)
  unfold F_X3_rowOf at hF
  refine r_aload_n hk 0 (dtX3_rowOf_0 0 (0, .aload_n 0, 1) rfl) rfl ?_
  refine r_iload_n hk 1 (dtX3_rowOf_0 1 (1, .iload_n 1, 1) rfl) rfl ?_
  refine r_callVts hk hF (fun c h => by cases Option.some.inj h; exact hX c rfl) (fun R h hf H locs ls hH hS hl => runT_V (y := yX3_requireRow) hk (in_main 0 (by decide)) rfl rfl (c_X3_requireRow (kl K) hk.2.2.2.2.2.2.2.2.2.2.2 X  p1 m0 R h) lk_X3_116 me_X3_requireRow yf_X3_requireRow (by decide) (by decide) rfl (Nat.le_of_ble_eq_true rfl) rfl (dtX3_rowOf_0 2 (2, .invokevirtual 116, 3) rfl) hf hH hS hl) (fun _ hF => ?_)
  refine r_iload_n hk 2 (dtX3_rowOf_0 3 (5, .iload_n 2, 1) rfl) rfl ?_
  have j20_2 : ∀ (v1 : Int32), (J_X3_rowOf_20 p1 p2 m0) v1 = some rv → G X K 20 [(0, .ref (xad X (0, 0, 0, 0))), (1, .int p1), (2, .int p2)] [.int v1] m0 := by
    intro v1 hF
    unfold J_X3_rowOf_20 at hF
    refine r_callVts hk hF (fun c h => by cases Option.some.inj h; exact hX c rfl) (fun R h hf H locs ls hH hS hl => runT_S hk (c_X3_require (kl K) hk.2.2.2.2.2.2.2.2.2.2.2 X  v1 m0 R h) lk_X3_41 me_X3_require yf_X3_require (by decide) (by decide) rfl (Nat.le_of_ble_eq_true rfl) rfl (dtX3_rowOf_0 11 (20, .invokestatic 41, 3) rfl) hf hH hS hl) (fun _ hF => ?_)
    refine r_iload_n hk 2 (dtX3_rowOf_0 12 (23, .iload_n 2, 1) rfl) rfl ?_
    refine r_if_ne hk 37 hF (dtX3_rowOf_0 13 (24, .ifCond .ne 13, 3) rfl) (by decide) (fun hF => ?_) (fun hF => ?_)
    · refine r_iload_n hk 2 (dtX3_rowOf_0 20 (37, .iload_n 2, 1) rfl) rfl ?_
      refine r_bipush (v := 9) hk (dtX3_rowOf_0 21 (38, .bipush 9, 2) rfl) (by decide) ?_
      refine r_icmp_ne hk 52 hF (dtX3_rowOf_0 22 (40, .if_icmp .ne 12, 3) rfl) (by decide) (fun hF => ?_) (fun hF => ?_)
      · refine r_aload_n hk 0 (dtX3_rowOf_0 28 (52, .aload_n 0, 1) rfl) rfl ?_
        refine r_getS hk fl_X3_30 hF (dtX3_rowOf_0 29 (53, .getfield 30, 3) rfl) (fun q3 hq3 hF => ?_)
        refine r_iload_n hk 1 (dtX3_rowOf_0 30 (56, .iload_n 1, 1) rfl) rfl ?_
        refine r_iload_n hk 2 (dtX3_rowOf_0 31 (57, .iload_n 2, 1) rfl) rfl ?_
        refine r_iconst (v := 1) hk (dtX3_rowOf_0 32 (58, .iconst 1, 1) rfl) (by decide) ?_
        refine r_isub hk hF (dtX3_rowOf_0 33 (59, .isub, 1) rfl) (fun v4 hF => ?_)
        refine r_callI hF (fun v5 h H locs ls hH hS hl => run_V (y := yX1_valueAt) hk (in_st q3 hq3 0 (by decide)) rfl rfl (c_X1_valueAt (kl K) hk.2.2.2.2.2.2.2.2.2.2.2 X q3 hq3 p1 v4 m0 v5 h) lk_X3_127 me_X1_valueAt yf_X1_valueAt (by decide) (by decide) rfl (Nat.le_of_ble_eq_true rfl) rfl (dtX3_rowOf_0 34 (60, .invokevirtual 127, 3) rfl) hH hS hl) (fun v5 hF => ?_)
        refine r_istore_n hk [(3, .int v5), (0, .ref (xad X (0, 0, 0, 0))), (1, .int p1), (2, .int p2)] (dtX3_rowOf_0 35 (63, .istore_n 3, 1) rfl) (by decide) rfl ?_
        refine r_iload_n hk 0 (dtX3_rowOf_0 36 (64, .iload_n 3, 1) rfl) rfl ?_
        refine r_ldc hk cn_X3_130 (dtX3_rowOf_0 37 (65, .ldc 130, 2) rfl) ?_
        have j79_7 : ∀ (v6 : Int32), J_X3_rowOf_79 v6 = some rv → G X K 79 [] [.int v6] m0 := by
          intro v6 hF
          unfold J_X3_rowOf_79 at hF
          cases Option.some.inj hF
          exact hR v6 rfl _ _ (dtX3_rowOf_0 44 (79, .ireturn, 1) rfl)
        refine r_icmp_ne hk 74 hF (dtX3_rowOf_0 38 (67, .if_icmp .ne 7, 3) rfl) (by decide) (fun hF => ?_) (fun hF => ?_)
        · refine r_iload_n hk 0 (dtX3_rowOf_0 41 (74, .iload_n 3, 1) rfl) rfl ?_
          refine r_sipush (v := 10000) hk (dtX3_rowOf_0 42 (75, .sipush 10000, 3) rfl) (by decide) ?_
          refine r_iadd hk hF (dtX3_rowOf_0 43 (78, .iadd, 1) rfl) (fun v8 hF => ?_)
          exact r_sub hk [] rfl (j79_7 v8 hF)
        · refine r_iconst (v := (-1)) hk (dtX3_rowOf_0 39 (70, .iconst (-1), 1) rfl) (by decide) ?_
          refine r_goto hk 79 (dtX3_rowOf_0 40 (71, .goto 8, 3) rfl) (by decide) ?_
          exact r_sub hk [] rfl (j79_7 (-1) hF)
      · refine r_aload_n hk 0 (dtX3_rowOf_0 23 (43, .aload_n 0, 1) rfl) rfl ?_
        refine r_getS hk fl_X3_30 hF (dtX3_rowOf_0 24 (44, .getfield 30, 3) rfl) (fun q9 hq9 hF => ?_)
        refine r_iload_n hk 1 (dtX3_rowOf_0 25 (47, .iload_n 1, 1) rfl) rfl ?_
        refine r_callI hF (fun v10 h H locs ls hH hS hl => run_V (y := yX1_valuesIn) hk (in_st q9 hq9 0 (by decide)) rfl rfl (c_X1_valuesIn (kl K) hk.2.2.2.2.2.2.2.2.2.2.2 X q9 hq9 p1 m0 v10 h) lk_X3_184 me_X1_valuesIn yf_X1_valuesIn (by decide) (by decide) rfl (Nat.le_of_ble_eq_true rfl) rfl (dtX3_rowOf_0 26 (48, .invokevirtual 184, 3) rfl) hH hS hl) (fun v10 hF => ?_)
        cases Option.some.inj hF
        exact hR v10 rfl _ _ (dtX3_rowOf_0 27 (51, .ireturn, 1) rfl)
    · refine r_aload_n hk 0 (dtX3_rowOf_0 14 (27, .aload_n 0, 1) rfl) rfl ?_
      refine r_getS hk fl_X3_30 hF (dtX3_rowOf_0 15 (28, .getfield 30, 3) rfl) (fun q11 hq11 hF => ?_)
      refine r_getR hk (k := 1) (fsX1 X q11) cbX1 (by decide) fl_X3_134 (in_st q11 hq11 0 (by decide)) (fun _ => rfl) (fun _ _ => rfl) (dtX3_rowOf_0 16 (31, .getfield 134, 3) rfl) ?_
      refine r_iload_n hk 1 (dtX3_rowOf_0 17 (34, .iload_n 1, 1) rfl) rfl ?_
      refine r_iald hk (in_st q11 hq11 2 (by decide)) (fun _ => rfl) hF (dtX3_rowOf_0 18 (35, .iaload, 1) rfl) (fun v12 hF => ?_)
      cases Option.some.inj hF
      exact hR v12 rfl _ _ (dtX3_rowOf_0 19 (36, .ireturn, 1) rfl)
  have j19_13 : (J_X3_rowOf_19 p1 p2 m0) = some rv → G X K 19 [(0, .ref (xad X (0, 0, 0, 0))), (1, .int p1), (2, .int p2)] [] m0 := by
    intro hF
    unfold J_X3_rowOf_19 at hF
    refine r_iconst (v := 0) hk (dtX3_rowOf_0 10 (19, .iconst 0, 1) rfl) (by decide) ?_
    exact r_sub hk [0, 1, 2] rfl (j20_2 0 hF)
  refine r_if_lt hk 19 hF (dtX3_rowOf_0 4 (6, .ifCond .lt 13, 3) rfl) (by decide) (fun hF => ?_) (fun hF => ?_)
  · exact r_sub hk [0, 1, 2] rfl (j19_13 hF)
  · refine r_iload_n hk 2 (dtX3_rowOf_0 5 (9, .iload_n 2, 1) rfl) rfl ?_
    refine r_bipush (v := 9) hk (dtX3_rowOf_0 6 (10, .bipush 9, 2) rfl) (by decide) ?_
    refine r_icmp_gt hk 19 hF (dtX3_rowOf_0 7 (12, .if_icmp .gt 7, 3) rfl) (by decide) (fun hF => ?_) (fun hF => ?_)
    · exact r_sub hk [0, 1, 2] rfl (j19_13 hF)
    · refine r_iconst (v := 1) hk (dtX3_rowOf_0 8 (15, .iconst 1, 1) rfl) (by decide) ?_
      refine r_goto hk 20 (dtX3_rowOf_0 9 (16, .goto 4, 3) rfl) (by decide) ?_
      exact r_sub hk [0, 1, 2] rfl (j20_2 1 hF)
set_option maxHeartbeats 4000000 in
set_option maxRecDepth 100000 in
theorem c_X0_isWhole (l : Launch) (hlf : l.stackTraces = false) (X : XW)   (m0 : Mem) (rv : Int32) (hF : F_X0_isWhole m0 = some rv) : MX X l yX0_isWhole cX0_isWhole 1 (some .boolean) 0 [.ref (xad X (0, 0, 0, 3))] m0 (QI X rv m0) := by
  refine startZ hlf (by decide +kernel) rfl [(0, .ref (xad X (0, 0, 0, 3)))] rfl (Nat.le_of_ble_eq_true rfl) (fun K hk hR => ?_)
  unfold F_X0_isWhole at hF
  refine r_aload_n hk 0 (dtX0_isWhole_0 0 (0, .aload_n 0, 1) rfl) rfl ?_
  refine r_getI hk (k := 4) (fsX0 X) cbX0 (by decide) fl_X0_25 (in_main 3 (by decide)) (fun _ => rfl) (fun _ _ => rfl) hF (dtX0_isWhole_0 1 (1, .getfield 25, 3) rfl) (fun v1 hF => ?_)
  refine r_iconst (v := 4) hk (dtX0_isWhole_0 2 (4, .iconst 4, 1) rfl) (by decide) ?_
  have j13_3 : ∀ (v2 : Int32), J_X0_isWhole_13 v2 = some rv → G X K 13 [] [.int v2] m0 := by
    intro v2 hF
    unfold J_X0_isWhole_13 at hF
    obtain ⟨hz, hF⟩ := ck_some hF
    cases Option.some.inj hF
    exact hR _ _ hz (dtX0_isWhole_0 7 (13, .ireturn, 1) rfl)
  refine r_icmp_ne hk 12 hF (dtX0_isWhole_0 3 (5, .if_icmp .ne 7, 3) rfl) (by decide) (fun hF => ?_) (fun hF => ?_)
  · refine r_iconst (v := 0) hk (dtX0_isWhole_0 6 (12, .iconst 0, 1) rfl) (by decide) ?_
    exact r_sub hk [] rfl (j13_3 0 hF)
  · refine r_iconst (v := 1) hk (dtX0_isWhole_0 4 (8, .iconst 1, 1) rfl) (by decide) ?_
    refine r_goto hk 13 (dtX0_isWhole_0 5 (9, .goto 4, 3) rfl) (by decide) ?_
    exact r_sub hk [] rfl (j13_3 1 hF)
