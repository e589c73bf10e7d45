/-! the walks (written by dec.py) -/
set_option maxHeartbeats 4000000 in
set_option maxRecDepth 100000 in
theorem c_X3_looked (l : Launch) (hlf : l.stackTraces = false) (X : XW)  (p1 : Int32) (p2 : Int32) (m0 : Mem) (rv : Int32 ⊕ Nat) (mE : Mem) (hF : F_X3_looked p1 p2 m0 = some (rv, mE)) : MT X l yX3_looked cX3_looked 3 (some .int) 8 [.ref (xad X (0, 0, 0, 0)), .int p1, .int p2] m0 rv mE (QTI X rv mE) := by
  refine startTI hlf (by decide +kernel) rfl [(0, .ref (xad X (0, 0, 0, 0))), (1, .int p1), (2, .int p2)] rfl (Nat.le_of_ble_eq_true rfl) (fun K hk hR hX => ?_)
  unfold F_X3_looked at hF
  refine r_iload_n hk 1 (dtX3_looked_0 0 (0, .iload_n 1, 1) rfl) rfl ?_
  refine r_callI hF (fun v1 h H locs ls hH hS hl => run_S hk (c_X3_isTenant (kl K) hk.2.2.2.2.2.2.2.2.2.2.2 X  p1 m0 v1 h) lk_X3_34 me_X3_isTenant yf_X3_isTenant (by decide) (by decide) rfl (Nat.le_of_ble_eq_true rfl) rfl (dtX3_looked_0 1 (1, .invokestatic 34, 3) rfl) hH hS hl) (fun v1 hF => ?_)
  refine r_callVts hk hF (fun c h => by cases Option.some.inj h; exact hX c rfl) (fun R h hf H locs ls hH hS hl => runT_S hk (c_X3_require (kl K) hk.2.2.2.2.2.2.2.2.2.2.2 X  v1 m0 R h) lk_X3_41 me_X3_require yf_X3_require (by decide) (by decide) rfl (Nat.le_of_ble_eq_true rfl) rfl (dtX3_looked_0 2 (4, .invokestatic 41, 3) rfl) hf hH hS hl) (fun _ hF => ?_)
  refine r_aload_n hk 0 (dtX3_looked_0 3 (7, .aload_n 0, 1) rfl) rfl ?_
  refine r_callIm hF (fun v2 m3 h H locs ls hH hS hl => run_V (y := yX3_readQuestion) hk (in_main 0 (by decide)) rfl rfl (c_X3_readQuestion (kl K) hk.2.2.2.2.2.2.2.2.2.2.2 X   m0 v2 m3 h) lk_X3_159 me_X3_readQuestion yf_X3_readQuestion (by decide) (by decide) rfl (Nat.le_of_ble_eq_true rfl) rfl (dtX3_looked_0 4 (8, .invokevirtual 159, 3) rfl) hH hS hl) (fun v2 m3 hF => ?_)
  refine r_if_ne hk 16 hF (dtX3_looked_0 5 (11, .ifCond .ne 5, 3) rfl) (by decide) (fun hF => ?_) (fun hF => ?_)
  · refine r_aload_n hk 0 (dtX3_looked_0 8 (16, .aload_n 0, 1) rfl) rfl ?_
    refine r_iload_n hk 1 (dtX3_looked_0 9 (17, .iload_n 1, 1) rfl) rfl ?_
    refine r_iload_n hk 2 (dtX3_looked_0 10 (18, .iload_n 2, 1) rfl) rfl ?_
    have j42_5 : ∀ (v4 : Int32), (J_X3_looked_42 p1 m3) v4 = some (rv, mE) → G X K 42 [] [.int v4, .int p1, .ref (xad X (0, 0, 0, 0))] m3 := by
      intro v4 hF
      unfold J_X3_looked_42 at hF
      refine r_iconst (v := (-1)) hk (dtX3_looked_0 22 (42, .iconst (-1), 1) rfl) (by decide) ?_
      refine r_callI hF (fun v6 h H locs ls hH hS hl => run_V (y := yX3_rowsToLookAt) hk (in_main 0 (by decide)) rfl rfl (c_X3_rowsToLookAt (kl K) hk.2.2.2.2.2.2.2.2.2.2.2 X  p1 v4 (-1) m3 v6 h) lk_X3_172 me_X3_rowsToLookAt yf_X3_rowsToLookAt (by decide) (by decide) rfl (Nat.le_of_ble_eq_true rfl) rfl (dtX3_looked_0 23 (43, .invokevirtual 172, 3) rfl) hH hS hl) (fun v6 hF => ?_)
      cases Option.some.inj hF
      exact hR v6 rfl _ _ (dtX3_looked_0 24 (46, .ireturn, 1) rfl)
    have j37_7 : (J_X3_looked_37 p1 m3) = some (rv, mE) → G X K 37 [] [.int p1, .ref (xad X (0, 0, 0, 0))] m3 := by
      intro hF
      unfold J_X3_looked_37 at hF
      refine r_iconst (v := 1) hk (dtX3_looked_0 19 (37, .iconst 1, 1) rfl) (by decide) ?_
      refine r_goto hk 42 (dtX3_looked_0 20 (38, .goto 4, 3) rfl) (by decide) ?_
      exact r_sub hk [] rfl (j42_5 1 hF)
    refine r_if_ne hk 37 hF (dtX3_looked_0 11 (19, .ifCond .ne 18, 3) rfl) (by decide) (fun hF => ?_) (fun hF => ?_)
    · exact r_sub hk [] rfl (j37_7 hF)
    · refine r_aload_n hk 0 (dtX3_looked_0 12 (22, .aload_n 0, 1) rfl) rfl ?_
      refine r_getS hk fl_X3_30 hF (dtX3_looked_0 13 (23, .getfield 30, 3) rfl) (fun q8 hq8 hF => ?_)
      refine r_getR hk (k := 0) (fsX1 X q8) cbX1 (by decide) fl_X3_49 (in_st q8 hq8 0 (by decide)) (fun _ => rfl) (fun _ _ => rfl) (dtX3_looked_0 14 (26, .getfield 49, 3) rfl) ?_
      refine r_iload_n hk 1 (dtX3_looked_0 15 (29, .iload_n 1, 1) rfl) rfl ?_
      refine r_aldT hk hq8 hF (dtX3_looked_0 16 (30, .aaload, 1) rfl) (fun q9 hq9 hF => ?_)
      refine r_getI hk (k := 5) (fsX2 X q8 q9) cbX2 (by decide) fl_X3_106 (in_tn q8 hq8 q9 hq9 0 (by decide)) (fun _ => rfl) (fun _ _ => rfl) hF (dtX3_looked_0 17 (31, .getfield 106, 3) rfl) (fun v10 hF => ?_)
      refine r_if_eq hk 41 hF (dtX3_looked_0 18 (34, .ifCond .eq 7, 3) rfl) (by decide) (fun hF => ?_) (fun hF => ?_)
      · refine r_iconst (v := 0) hk (dtX3_looked_0 21 (41, .iconst 0, 1) rfl) (by decide) ?_
        exact r_sub hk [] rfl (j42_5 0 hF)
      · exact r_sub hk [] rfl (j37_7 hF)
  · refine r_iconst (v := (-1)) hk (dtX3_looked_0 6 (14, .iconst (-1), 1) rfl) (by decide) ?_
    cases Option.some.inj hF
    exact hR (-1) rfl _ _ (dtX3_looked_0 7 (15, .ireturn, 1) rfl)
set_option maxHeartbeats 4000000 in
set_option maxRecDepth 100000 in
theorem c_X2_define (l : Launch) (hlf : l.stackTraces = false) (X : XW) (i0 : Nat) (hi0 : i0 < 7) (j0 : Nat) (hj0 : j0 < 3) (p1 : Int32) (p2 : Int32) (p3 : Int32) (p4 : Int32) (m0 : Mem) (rv : Unit) (mE : Mem) (hF : F_X2_define i0 j0 p1 p2 p3 p4 m0 = some (rv, mE)) : MX X l yX2_define cX2_define 5 none 0 [.ref (xad X (2, i0, j0, 0)), .int p1, .int p2, .int p3, .int p4] m0 (QV X mE) := by
  refine startV hlf (by decide +kernel) rfl [(0, .ref (xad X (2, i0, j0, 0))), (1, .int p1), (2, .int p2), (3, .int p3), (4, .int p4)] rfl (Nat.le_of_ble_eq_true rfl) (fun K hk hR => ?_)
  unfold F_X2_define at hF
  refine r_iload_n hk 1 (dtX2_define_0 0 (0, .iload_n 1, 1) rfl) rfl ?_
  have j32_2 : ∀ (m1 : Mem), J_X2_define_32 m1 = some (rv, mE) → G X K 32 [] [] m1 := by
    intro m1 hF
    unfold J_X2_define_32 at hF
    cases Option.some.inj hF
    exact hR _ _ (dtX2_define_0 20 (32, .return_, 1) rfl)
  refine r_if_lt hk 32 hF (dtX2_define_0 1 (1, .ifCond .lt 31, 3) rfl) (by decide) (fun hF => ?_) (fun hF => ?_)
  · exact r_sub hk [] rfl (j32_2 m0 hF)
  · refine r_iload_n hk 1 (dtX2_define_0 2 (4, .iload_n 1, 1) rfl) rfl ?_
    refine r_bipush (v := 8) hk (dtX2_define_0 3 (5, .bipush 8, 2) rfl) (by decide) ?_
    refine r_icmp_ge hk 32 hF (dtX2_define_0 4 (7, .if_icmp .ge 25, 3) rfl) (by decide) (fun hF => ?_) (fun hF => ?_)
    · exact r_sub hk [] rfl (j32_2 m0 hF)
    · refine r_aload_n hk 0 (dtX2_define_0 5 (10, .aload_n 0, 1) rfl) rfl ?_
      refine r_getR hk (k := 0) (fsX2 X i0 j0) cbX2 (by decide) fl_X2_9 (in_tn i0 hi0 j0 hj0 0 (by decide)) (fun _ => rfl) (fun _ _ => rfl) (dtX2_define_0 6 (11, .getfield 9, 3) rfl) ?_
      refine r_iload_n hk 1 (dtX2_define_0 7 (14, .iload_n 1, 1) rfl) rfl ?_
      refine r_iload_n hk 2 (dtX2_define_0 8 (15, .iload_n 2, 1) rfl) rfl ?_
      refine r_iast hk (in_tn i0 hi0 j0 hj0 1 (by decide)) (fun _ => rfl) hF (dtX2_define_0 9 (16, .iastore, 1) rfl) (fun m3 hF => ?_)
      refine r_aload_n hk 0 (dtX2_define_0 10 (17, .aload_n 0, 1) rfl) rfl ?_
      refine r_getR hk (k := 1) (fsX2 X i0 j0) cbX2 (by decide) fl_X2_15 (in_tn i0 hi0 j0 hj0 0 (by decide)) (fun _ => rfl) (fun _ _ => rfl) (dtX2_define_0 11 (18, .getfield 15, 3) rfl) ?_
      refine r_iload_n hk 1 (dtX2_define_0 12 (21, .iload_n 1, 1) rfl) rfl ?_
      refine r_iload_n hk 3 (dtX2_define_0 13 (22, .iload_n 3, 1) rfl) rfl ?_
      refine r_iast hk (in_tn i0 hi0 j0 hj0 2 (by decide)) (fun _ => rfl) hF (dtX2_define_0 14 (23, .iastore, 1) rfl) (fun m4 hF => ?_)
      refine r_aload_n hk 0 (dtX2_define_0 15 (24, .aload_n 0, 1) rfl) rfl ?_
      refine r_getR hk (k := 2) (fsX2 X i0 j0) cbX2 (by decide) fl_X2_18 (in_tn i0 hi0 j0 hj0 0 (by decide)) (fun _ => rfl) (fun _ _ => rfl) (dtX2_define_0 16 (25, .getfield 18, 3) rfl) ?_
      refine r_iload_n hk 1 (dtX2_define_0 17 (28, .iload_n 1, 1) rfl) rfl ?_
      refine r_iload hk 4 (dtX2_define_0 18 (29, .iload 4, 2) rfl) rfl ?_
      refine r_zast hk (in_tn i0 hi0 j0 hj0 3 (by decide)) (fun _ => rfl) hF (dtX2_define_0 19 (31, .bastore, 1) rfl) (fun m5 hF => ?_)
      exact r_sub hk [] rfl (j32_2 m5 hF)
set_option maxHeartbeats 4000000 in
set_option maxRecDepth 100000 in
theorem c_X2_copyFrom (l : Launch) (hlf : l.stackTraces = false) (X : XW) (i0 : Nat) (hi0 : i0 < 7) (j0 : Nat) (hj0 : j0 < 3) (i1 : Nat) (hi1 : i1 < 7) (j1 : Nat) (hj1 : j1 < 3)  (m0 : Mem) (rv : Unit) (mE : Mem) (hF : F_X2_copyFrom i0 j0 i1 j1 m0 = some (rv, mE)) : MX X l yX2_copyFrom cX2_copyFrom 3 none 1 [.ref (xad X (2, i0, j0, 0)), .ref (xad X (2, i1, j1, 0))] m0 (QV X mE) := by
  refine startV hlf (by decide +kernel) rfl [(0, .ref (xad X (2, i0, j0, 0))), (1, .ref (xad X (2, i1, j1, 0)))] rfl (Nat.le_of_ble_eq_true rfl) (fun K hk hR => ?_)
  unfold F_X2_copyFrom at hF
  refine r_iconst (v := 0) hk (dtX2_copyFrom_0 0 (0, .iconst 0, 1) rfl) (by decide) ?_
  refine r_istore_n hk [(2, .int 0), (0, .ref (xad X (2, i0, j0, 0))), (1, .ref (xad X (2, i1, j1, 0)))] (dtX2_copyFrom_0 1 (1, .istore_n 2, 1) rfl) (by decide) rfl ?_
  have e37_2 : ∀ (m1 : Mem), (C_X2_copyFrom_37 i0 j0 i1 j1) m1 = some (rv, mE) → G X K 37 [(0, .ref (xad X (2, i0, j0, 0))), (1, .ref (xad X (2, i1, j1, 0)))] [] m1 := by
    intro m1 hF
    unfold C_X2_copyFrom_37 at hF
    refine r_aload_n hk 0 (dtX2_copyFrom_0 22 (37, .aload_n 0, 1) rfl) rfl ?_
    refine r_aload_n hk 1 (dtX2_copyFrom_0 23 (38, .aload_n 1, 1) rfl) rfl ?_
    refine r_getI hk (k := 3) (fsX2 X i1 j1) cbX2 (by decide) fl_X2_22 (in_tn i1 hi1 j1 hj1 0 (by decide)) (fun _ => rfl) (fun _ _ => rfl) hF (dtX2_copyFrom_0 24 (39, .getfield 22, 3) rfl) (fun v3 hF => ?_)
    refine r_putI hk (k := 3) (fsX2 X i0 j0) cbX2 (by decide) fl_X2_22 (in_tn i0 hi0 j0 hj0 0 (by decide)) (fun _ => rfl) rfl rfl (fun _ _ _ => rfl) (fun _ _ => (by decide : 3 < 10)) hF (dtX2_copyFrom_0 25 (42, .putfield 22, 3) rfl) (fun m4 hF => ?_)
    refine r_aload_n hk 0 (dtX2_copyFrom_0 26 (45, .aload_n 0, 1) rfl) rfl ?_
    refine r_aload_n hk 1 (dtX2_copyFrom_0 27 (46, .aload_n 1, 1) rfl) rfl ?_
    refine r_getI hk (k := 4) (fsX2 X i1 j1) cbX2 (by decide) fl_X2_26 (in_tn i1 hi1 j1 hj1 0 (by decide)) (fun _ => rfl) (fun _ _ => rfl) hF (dtX2_copyFrom_0 28 (47, .getfield 26, 3) rfl) (fun v5 hF => ?_)
    refine r_putI hk (k := 4) (fsX2 X i0 j0) cbX2 (by decide) fl_X2_26 (in_tn i0 hi0 j0 hj0 0 (by decide)) (fun _ => rfl) rfl rfl (fun _ _ _ => rfl) (fun _ _ => (by decide : 4 < 10)) hF (dtX2_copyFrom_0 29 (50, .putfield 26, 3) rfl) (fun m6 hF => ?_)
    refine r_aload_n hk 0 (dtX2_copyFrom_0 30 (53, .aload_n 0, 1) rfl) rfl ?_
    refine r_aload_n hk 1 (dtX2_copyFrom_0 31 (54, .aload_n 1, 1) rfl) rfl ?_
    refine r_getI hk (k := 5) (fsX2 X i1 j1) cbX2 (by decide) fl_X2_33 (in_tn i1 hi1 j1 hj1 0 (by decide)) (fun _ => rfl) (fun _ _ => rfl) hF (dtX2_copyFrom_0 32 (55, .getfield 33, 3) rfl) (fun v7 hF => ?_)
    refine r_putZ hk (k := 5) (fsX2 X i0 j0) cbX2 (by decide) fl_X2_33 (in_tn i0 hi0 j0 hj0 0 (by decide)) (fun _ => rfl) rfl rfl (fun _ _ _ => rfl) (fun _ _ => (by decide : 5 < 10)) hF (dtX2_copyFrom_0 33 (58, .putfield 33, 3) rfl) (fun m8 hF => ?_)
    refine r_aload_n hk 0 (dtX2_copyFrom_0 34 (61, .aload_n 0, 1) rfl) rfl ?_
    refine r_aload_n hk 1 (dtX2_copyFrom_0 35 (62, .aload_n 1, 1) rfl) rfl ?_
    refine r_getI hk (k := 6) (fsX2 X i1 j1) cbX2 (by decide) fl_X2_37 (in_tn i1 hi1 j1 hj1 0 (by decide)) (fun _ => rfl) (fun _ _ => rfl) hF (dtX2_copyFrom_0 36 (63, .getfield 37, 3) rfl) (fun v9 hF => ?_)
    refine r_putI hk (k := 6) (fsX2 X i0 j0) cbX2 (by decide) fl_X2_37 (in_tn i0 hi0 j0 hj0 0 (by decide)) (fun _ => rfl) rfl rfl (fun _ _ _ => rfl) (fun _ _ => (by decide : 6 < 10)) hF (dtX2_copyFrom_0 37 (66, .putfield 37, 3) rfl) (fun m10 hF => ?_)
    refine r_aload_n hk 0 (dtX2_copyFrom_0 38 (69, .aload_n 0, 1) rfl) rfl ?_
    refine r_aload_n hk 1 (dtX2_copyFrom_0 39 (70, .aload_n 1, 1) rfl) rfl ?_
    refine r_getI hk (k := 7) (fsX2 X i1 j1) cbX2 (by decide) fl_X2_40 (in_tn i1 hi1 j1 hj1 0 (by decide)) (fun _ => rfl) (fun _ _ => rfl) hF (dtX2_copyFrom_0 40 (71, .getfield 40, 3) rfl) (fun v11 hF => ?_)
    refine r_putI hk (k := 7) (fsX2 X i0 j0) cbX2 (by decide) fl_X2_40 (in_tn i0 hi0 j0 hj0 0 (by decide)) (fun _ => rfl) rfl rfl (fun _ _ _ => rfl) (fun _ _ => (by decide : 7 < 10)) hF (dtX2_copyFrom_0 41 (74, .putfield 40, 3) rfl) (fun m12 hF => ?_)
    refine r_aload_n hk 0 (dtX2_copyFrom_0 42 (77, .aload_n 0, 1) rfl) rfl ?_
    refine r_aload_n hk 1 (dtX2_copyFrom_0 43 (78, .aload_n 1, 1) rfl) rfl ?_
    refine r_getI hk (k := 8) (fsX2 X i1 j1) cbX2 (by decide) fl_X2_43 (in_tn i1 hi1 j1 hj1 0 (by decide)) (fun _ => rfl) (fun _ _ => rfl) hF (dtX2_copyFrom_0 44 (79, .getfield 43, 3) rfl) (fun v13 hF => ?_)
    refine r_putI hk (k := 8) (fsX2 X i0 j0) cbX2 (by decide) fl_X2_43 (in_tn i0 hi0 j0 hj0 0 (by decide)) (fun _ => rfl) rfl rfl (fun _ _ _ => rfl) (fun _ _ => (by decide : 8 < 10)) hF (dtX2_copyFrom_0 45 (82, .putfield 43, 3) rfl) (fun m14 hF => ?_)
    refine r_aload_n hk 0 (dtX2_copyFrom_0 46 (85, .aload_n 0, 1) rfl) rfl ?_
    refine r_aload_n hk 1 (dtX2_copyFrom_0 47 (86, .aload_n 1, 1) rfl) rfl ?_
    refine r_getI hk (k := 9) (fsX2 X i1 j1) cbX2 (by decide) fl_X2_46 (in_tn i1 hi1 j1 hj1 0 (by decide)) (fun _ => rfl) (fun _ _ => rfl) hF (dtX2_copyFrom_0 48 (87, .getfield 46, 3) rfl) (fun v15 hF => ?_)
    refine r_putI hk (k := 9) (fsX2 X i0 j0) cbX2 (by decide) fl_X2_46 (in_tn i0 hi0 j0 hj0 0 (by decide)) (fun _ => rfl) rfl rfl (fun _ _ _ => rfl) (fun _ _ => (by decide : 9 < 10)) hF (dtX2_copyFrom_0 49 (90, .putfield 46, 3) rfl) (fun m16 hF => ?_)
    cases Option.some.inj hF
    exact hR _ _ (dtX2_copyFrom_0 50 (93, .return_, 1) rfl)
  have l20 : ∀ (n20 : Nat) (v17 : Int32) (m18 : Mem), L_X2_copyFrom_2 i0 j0 i1 j1 n20 v17 m18 = some (rv, mE) → G X K 2 [(0, .ref (xad X (2, i0, j0, 0))), (1, .ref (xad X (2, i1, j1, 0))), (2, .int v17)] [] m18 := by
    intro n20
    induction n20 with
    | zero => intro v17 m18 hF; exact nomatch (show (none : Option (Unit × Mem)) = some (rv, mE) from hF)
    | succ n20 ih20 =>
      intro v17 m18 hF
      rw [L_X2_copyFrom_2] at hF
      refine r_iload_n hk 2 (dtX2_copyFrom_0 2 (2, .iload_n 2, 1) rfl) rfl ?_
      refine r_bipush (v := 8) hk (dtX2_copyFrom_0 3 (3, .bipush 8, 2) rfl) (by decide) ?_
      refine r_icmp_ge hk 37 hF (dtX2_copyFrom_0 4 (5, .if_icmp .ge 32, 3) rfl) (by decide) (fun hF => ?_) (fun hF => ?_)
      · exact r_sub hk [0, 1] rfl (e37_2 m18 hF)
      · refine r_aload_n hk 0 (dtX2_copyFrom_0 5 (8, .aload_n 0, 1) rfl) rfl ?_
        refine r_iload_n hk 2 (dtX2_copyFrom_0 6 (9, .iload_n 2, 1) rfl) rfl ?_
        refine r_aload_n hk 1 (dtX2_copyFrom_0 7 (10, .aload_n 1, 1) rfl) rfl ?_
        refine r_getR hk (k := 0) (fsX2 X i1 j1) cbX2 (by decide) fl_X2_9 (in_tn i1 hi1 j1 hj1 0 (by decide)) (fun _ => rfl) (fun _ _ => rfl) (dtX2_copyFrom_0 8 (11, .getfield 9, 3) rfl) ?_
        refine r_iload_n hk 2 (dtX2_copyFrom_0 9 (14, .iload_n 2, 1) rfl) rfl ?_
        refine r_iald hk (in_tn i1 hi1 j1 hj1 1 (by decide)) (fun _ => rfl) hF (dtX2_copyFrom_0 10 (15, .iaload, 1) rfl) (fun v21 hF => ?_)
        refine r_aload_n hk 1 (dtX2_copyFrom_0 11 (16, .aload_n 1, 1) rfl) rfl ?_
        refine r_getR hk (k := 1) (fsX2 X i1 j1) cbX2 (by decide) fl_X2_15 (in_tn i1 hi1 j1 hj1 0 (by decide)) (fun _ => rfl) (fun _ _ => rfl) (dtX2_copyFrom_0 12 (17, .getfield 15, 3) rfl) ?_
        refine r_iload_n hk 2 (dtX2_copyFrom_0 13 (20, .iload_n 2, 1) rfl) rfl ?_
        refine r_iald hk (in_tn i1 hi1 j1 hj1 2 (by decide)) (fun _ => rfl) hF (dtX2_copyFrom_0 14 (21, .iaload, 1) rfl) (fun v22 hF => ?_)
        refine r_aload_n hk 1 (dtX2_copyFrom_0 15 (22, .aload_n 1, 1) rfl) rfl ?_
        refine r_getR hk (k := 2) (fsX2 X i1 j1) cbX2 (by decide) fl_X2_18 (in_tn i1 hi1 j1 hj1 0 (by decide)) (fun _ => rfl) (fun _ _ => rfl) (dtX2_copyFrom_0 16 (23, .getfield 18, 3) rfl) ?_
        refine r_iload_n hk 2 (dtX2_copyFrom_0 17 (26, .iload_n 2, 1) rfl) rfl ?_
        refine r_zald hk (in_tn i1 hi1 j1 hj1 3 (by decide)) (fun _ => rfl) hF (dtX2_copyFrom_0 18 (27, .baload, 1) rfl) (fun v23 hF => ?_)
        refine r_callVm hF (fun w m24 h H locs ls hH hS hl => run_V (y := yX2_define) hk (in_tn i0 hi0 j0 hj0 0 (by decide)) rfl rfl (c_X2_define (kl K) hk.2.2.2.2.2.2.2.2.2.2.2 X i0 hi0 j0 hj0 v17 v21 v22 v23 m18 w m24 h) lk_X2_29 me_X2_define yf_X2_define (by decide) (by decide) rfl (Nat.le_of_ble_eq_true rfl) rfl (dtX2_copyFrom_0 19 (28, .invokevirtual 29, 3) rfl) hH hS hl) (fun _ m24 hF => ?_)
        refine r_iinc hk 1 2 (fun v25 => [(2, .int v25), (0, .ref (xad X (2, i0, j0, 0))), (1, .ref (xad X (2, i1, j1, 0)))]) hF (dtX2_copyFrom_0 20 (31, .iinc 2 1, 3) rfl) rfl (by decide) (by decide) (fun _ => rfl) (fun v25 hF => ?_)
        refine r_goto hk 2 (dtX2_copyFrom_0 21 (34, .goto (-32), 3) rfl) (by decide) ?_
        exact r_sub hk [1, 2, 0] rfl (ih20 v25 m24 hF)
  exact r_sub hk [1, 2, 0] rfl (l20 fu 0 m0 hF)
set_option maxHeartbeats 4000000 in
set_option maxRecDepth 100000 in
theorem c_X1_copyFrom (l : Launch) (hlf : l.stackTraces = false) (X : XW) (i0 : Nat) (hi0 : i0 < 7) (i1 : Nat) (hi1 : i1 < 7)  (m0 : Mem) (rv : Unit) (mE : Mem) (hF : F_X1_copyFrom i0 i1 m0 = some (rv, mE)) : MX X l yX1_copyFrom cX1_copyFrom 3 none 2 [.ref (xad X (1, i0, 0, 0)), .ref (xad X (1, i1, 0, 0))] m0 (QV X mE) := by
  refine startV hlf (by decide +kernel) rfl [(0, .ref (xad X (1, i0, 0, 0))), (1, .ref (xad X (1, i1, 0, 0)))] rfl (Nat.le_of_ble_eq_true rfl) (fun K hk hR => ?_)
  unfold F_X1_copyFrom at hF
  refine r_iconst (v := 0) hk (dtX1_copyFrom_0 0 (0, .iconst 0, 1) rfl) (by decide) ?_
  refine r_istore_n hk [(2, .int 0), (0, .ref (xad X (1, i0, 0, 0))), (1, .ref (xad X (1, i1, 0, 0)))] (dtX1_copyFrom_0 1 (1, .istore_n 2, 1) rfl) (by decide) rfl ?_
  have e28_2 : ∀ (m1 : Mem), (C_X1_copyFrom_28 i0 i1) m1 = some (rv, mE) → G X K 28 [(0, .ref (xad X (1, i0, 0, 0))), (1, .ref (xad X (1, i1, 0, 0)))] [] m1 := by
    intro m1 hF
    unfold C_X1_copyFrom_28 at hF
    refine r_aload_n hk 0 (dtX1_copyFrom_0 16 (28, .aload_n 0, 1) rfl) rfl ?_
    refine r_aload_n hk 1 (dtX1_copyFrom_0 17 (29, .aload_n 1, 1) rfl) rfl ?_
    refine r_getI hk (k := 3) (fsX1 X i1) cbX1 (by decide) fl_X1_29 (in_st i1 hi1 0 (by decide)) (fun _ => rfl) (fun _ _ => rfl) hF (dtX1_copyFrom_0 18 (30, .getfield 29, 3) rfl) (fun v3 hF => ?_)
    refine r_putI hk (k := 3) (fsX1 X i0) cbX1 (by decide) fl_X1_29 (in_st i0 hi0 0 (by decide)) (fun _ => rfl) rfl rfl (fun _ _ _ => rfl) (fun _ _ => (by decide : 3 < 4)) hF (dtX1_copyFrom_0 19 (33, .putfield 29, 3) rfl) (fun m4 hF => ?_)
    refine r_aload_n hk 1 (dtX1_copyFrom_0 20 (36, .aload_n 1, 1) rfl) rfl ?_
    refine r_getR hk (k := 1) (fsX1 X i1) cbX1 (by decide) fl_X1_17 (in_st i1 hi1 0 (by decide)) (fun _ => rfl) (fun _ _ => rfl) (dtX1_copyFrom_0 21 (37, .getfield 17, 3) rfl) ?_
    refine r_iconst (v := 0) hk (dtX1_copyFrom_0 22 (40, .iconst 0, 1) rfl) (by decide) ?_
    refine r_aload_n hk 0 (dtX1_copyFrom_0 23 (41, .aload_n 0, 1) rfl) rfl ?_
    refine r_getR hk (k := 1) (fsX1 X i0) cbX1 (by decide) fl_X1_17 (in_st i0 hi0 0 (by decide)) (fun _ => rfl) (fun _ _ => rfl) (dtX1_copyFrom_0 24 (42, .getfield 17, 3) rfl) ?_
    refine r_iconst (v := 0) hk (dtX1_copyFrom_0 25 (45, .iconst 0, 1) rfl) (by decide) ?_
    refine r_aload_n hk 0 (dtX1_copyFrom_0 26 (46, .aload_n 0, 1) rfl) rfl ?_
    refine r_getI hk (k := 3) (fsX1 X i0) cbX1 (by decide) fl_X1_29 (in_st i0 hi0 0 (by decide)) (fun _ => rfl) (fun _ _ => rfl) hF (dtX1_copyFrom_0 27 (47, .getfield 29, 3) rfl) (fun v5 hF => ?_)
    refine r_copyi hk (in_st i1 hi1 2 (by decide)) (fun _ => rfl) (in_st i0 hi0 2 (by decide)) (fun _ => rfl) lk_X1_33 hF (by decide) (Nat.le_of_ble_eq_true rfl) (dtX1_copyFrom_0 28 (50, .invokestatic 33, 3) rfl) (fun m6 hF => ?_)
    refine r_aload_n hk 1 (dtX1_copyFrom_0 29 (53, .aload_n 1, 1) rfl) rfl ?_
    refine r_getR hk (k := 2) (fsX1 X i1) cbX1 (by decide) fl_X1_21 (in_st i1 hi1 0 (by decide)) (fun _ => rfl) (fun _ _ => rfl) (dtX1_copyFrom_0 30 (54, .getfield 21, 3) rfl) ?_
    refine r_iconst (v := 0) hk (dtX1_copyFrom_0 31 (57, .iconst 0, 1) rfl) (by decide) ?_
    refine r_aload_n hk 0 (dtX1_copyFrom_0 32 (58, .aload_n 0, 1) rfl) rfl ?_
    refine r_getR hk (k := 2) (fsX1 X i0) cbX1 (by decide) fl_X1_21 (in_st i0 hi0 0 (by decide)) (fun _ => rfl) (fun _ _ => rfl) (dtX1_copyFrom_0 33 (59, .getfield 21, 3) rfl) ?_
    refine r_iconst (v := 0) hk (dtX1_copyFrom_0 34 (62, .iconst 0, 1) rfl) (by decide) ?_
    refine r_aload_n hk 0 (dtX1_copyFrom_0 35 (63, .aload_n 0, 1) rfl) rfl ?_
    refine r_getI hk (k := 3) (fsX1 X i0) cbX1 (by decide) fl_X1_29 (in_st i0 hi0 0 (by decide)) (fun _ => rfl) (fun _ _ => rfl) hF (dtX1_copyFrom_0 36 (64, .getfield 29, 3) rfl) (fun v7 hF => ?_)
    refine r_bipush (v := 8) hk (dtX1_copyFrom_0 37 (67, .bipush 8, 2) rfl) (by decide) ?_
    refine r_imul hk hF (dtX1_copyFrom_0 38 (69, .imul, 1) rfl) (fun v8 hF => ?_)
    refine r_copyi hk (in_st i1 hi1 3 (by decide)) (fun _ => rfl) (in_st i0 hi0 3 (by decide)) (fun _ => rfl) lk_X1_33 hF (by decide) (Nat.le_of_ble_eq_true rfl) (dtX1_copyFrom_0 39 (70, .invokestatic 33, 3) rfl) (fun m9 hF => ?_)
    cases Option.some.inj hF
    exact hR _ _ (dtX1_copyFrom_0 40 (73, .return_, 1) rfl)
  have l13 : ∀ (n13 : Nat) (v10 : Int32) (m11 : Mem), L_X1_copyFrom_2 i0 i1 n13 v10 m11 = some (rv, mE) → G X K 2 [(0, .ref (xad X (1, i0, 0, 0))), (1, .ref (xad X (1, i1, 0, 0))), (2, .int v10)] [] m11 := by
    intro n13
    induction n13 with
    | zero => intro v10 m11 hF; exact nomatch (show (none : Option (Unit × Mem)) = some (rv, mE) from hF)
    | succ n13 ih13 =>
      intro v10 m11 hF
      rw [L_X1_copyFrom_2] at hF
      refine r_iload_n hk 2 (dtX1_copyFrom_0 2 (2, .iload_n 2, 1) rfl) rfl ?_
      refine r_iconst (v := 3) hk (dtX1_copyFrom_0 3 (3, .iconst 3, 1) rfl) (by decide) ?_
      refine r_icmp_ge hk 28 hF (dtX1_copyFrom_0 4 (4, .if_icmp .ge 24, 3) rfl) (by decide) (fun hF => ?_) (fun hF => ?_)
      · exact r_sub hk [0, 1] rfl (e28_2 m11 hF)
      · refine r_aload_n hk 0 (dtX1_copyFrom_0 5 (7, .aload_n 0, 1) rfl) rfl ?_
        refine r_getR hk (k := 0) (fsX1 X i0) cbX1 (by decide) fl_X1_11 (in_st i0 hi0 0 (by decide)) (fun _ => rfl) (fun _ _ => rfl) (dtX1_copyFrom_0 6 (8, .getfield 11, 3) rfl) ?_
        refine r_iload_n hk 2 (dtX1_copyFrom_0 7 (11, .iload_n 2, 1) rfl) rfl ?_
        refine r_aldT hk hi0 hF (dtX1_copyFrom_0 8 (12, .aaload, 1) rfl) (fun q14 hq14 hF => ?_)
        refine r_aload_n hk 1 (dtX1_copyFrom_0 9 (13, .aload_n 1, 1) rfl) rfl ?_
        refine r_getR hk (k := 0) (fsX1 X i1) cbX1 (by decide) fl_X1_11 (in_st i1 hi1 0 (by decide)) (fun _ => rfl) (fun _ _ => rfl) (dtX1_copyFrom_0 10 (14, .getfield 11, 3) rfl) ?_
        refine r_iload_n hk 2 (dtX1_copyFrom_0 11 (17, .iload_n 2, 1) rfl) rfl ?_
        refine r_aldT hk hi1 hF (dtX1_copyFrom_0 12 (18, .aaload, 1) rfl) (fun q15 hq15 hF => ?_)
        refine r_callVm hF (fun w m16 h H locs ls hH hS hl => run_V (y := yX2_copyFrom) hk (in_tn i0 hi0 q14 hq14 0 (by decide)) rfl rfl (c_X2_copyFrom (kl K) hk.2.2.2.2.2.2.2.2.2.2.2 X i0 hi0 q14 hq14 i1 hi1 q15 hq15  m11 w m16 h) lk_X1_25 me_X2_copyFrom yf_X2_copyFrom (by decide) (by decide) rfl (Nat.le_of_ble_eq_true rfl) rfl (dtX1_copyFrom_0 13 (19, .invokevirtual 25, 3) rfl) hH hS hl) (fun _ m16 hF => ?_)
        refine r_iinc hk 1 2 (fun v17 => [(2, .int v17), (0, .ref (xad X (1, i0, 0, 0))), (1, .ref (xad X (1, i1, 0, 0)))]) hF (dtX1_copyFrom_0 14 (22, .iinc 2 1, 3) rfl) rfl (by decide) (by decide) (fun _ => rfl) (fun v17 hF => ?_)
        refine r_goto hk 2 (dtX1_copyFrom_0 15 (25, .goto (-23), 3) rfl) (by decide) ?_
        exact r_sub hk [1, 2, 0] rfl (ih13 v17 m16 hF)
  exact r_sub hk [1, 2, 0] rfl (l13 fu 0 m0 hF)
set_option maxHeartbeats 4000000 in
set_option maxRecDepth 100000 in
theorem c_X3_save (l : Launch) (hlf : l.stackTraces = false) (X : XW)   (m0 : Mem) (rv : Nat) (mE : Mem) (hF : F_X3_save m0 = some (rv, mE)) : MX X l yX3_save cX3_save 3 (some (.object RX1)) 3 [.ref (xad X (0, 0, 0, 0))] m0 (QR X (xad X (1, rv, 0, 0)) mE) := by
  refine startR hlf (by decide +kernel) rfl [(0, .ref (xad X (0, 0, 0, 0)))] rfl (Nat.le_of_ble_eq_true rfl) (fun K hk hR => ?_)
  unfold F_X3_save at hF
  refine r_aload_n hk 0 (dtX3_save_0 0 (0, .aload_n 0, 1) rfl) rfl ?_
  refine r_getI hk (k := 5) (fsX3 X) cbX3 (by decide) fl_X3_179 (in_main 0 (by decide)) (fun _ => rfl) (fun _ _ => rfl) hF (dtX3_save_0 1 (1, .getfield 179, 3) rfl) (fun v1 hF => ?_)
  refine r_bipush (v := 6) hk (dtX3_save_0 2 (4, .bipush 6, 2) rfl) (by decide) ?_
  have j56_3 : ∀ (m2 : Mem), J_X3_save_56 m2 = some (rv, mE) → G X K 56 [(0, .ref (xad X (0, 0, 0, 0)))] [] m2 := by
    intro m2 hF
    unfold J_X3_save_56 at hF
    refine r_aload_n hk 0 (dtX3_save_0 34 (56, .aload_n 0, 1) rfl) rfl ?_
    refine r_getR hk (k := 0) (fsX3 X) cbX3 (by decide) fl_X3_11 (in_main 0 (by decide)) (fun _ => rfl) (fun _ _ => rfl) (dtX3_save_0 35 (57, .getfield 11, 3) rfl) ?_
    refine r_aload_n hk 0 (dtX3_save_0 36 (60, .aload_n 0, 1) rfl) rfl ?_
    refine r_getI hk (k := 5) (fsX3 X) cbX3 (by decide) fl_X3_179 (in_main 0 (by decide)) (fun _ => rfl) (fun _ _ => rfl) hF (dtX3_save_0 37 (61, .getfield 179, 3) rfl) (fun v4 hF => ?_)
    refine r_aldS hk hF (dtX3_save_0 38 (64, .aaload, 1) rfl) (fun q5 hq5 hF => ?_)
    refine r_astore_n hk [(1, .ref (xad X (1, q5, 0, 0))), (0, .ref (xad X (0, 0, 0, 0)))] (dtX3_save_0 39 (65, .astore_n 1, 1) rfl) (by decide) rfl ?_
    refine r_aload_n hk 0 (dtX3_save_0 40 (66, .aload_n 1, 1) rfl) rfl ?_
    refine r_aload_n hk 1 (dtX3_save_0 41 (67, .aload_n 0, 1) rfl) rfl ?_
    refine r_getS hk fl_X3_30 hF (dtX3_save_0 42 (68, .getfield 30, 3) rfl) (fun q6 hq6 hF => ?_)
    refine r_callVm hF (fun w m7 h H locs ls hH hS hl => run_V (y := yX1_copyFrom) hk (in_st q5 hq5 0 (by decide)) rfl rfl (c_X1_copyFrom (kl K) hk.2.2.2.2.2.2.2.2.2.2.2 X q5 hq5 q6 hq6  m2 w m7 h) lk_X3_277 me_X1_copyFrom yf_X1_copyFrom (by decide) (by decide) rfl (Nat.le_of_ble_eq_true rfl) rfl (dtX3_save_0 43 (71, .invokevirtual 277, 3) rfl) hH hS hl) (fun _ m7 hF => ?_)
    refine r_aload_n hk 1 (dtX3_save_0 44 (74, .aload_n 0, 1) rfl) rfl ?_
    refine r_dup hk (dtX3_save_0 45 (75, .dup, 1) rfl) rfl ?_
    refine r_getI hk (k := 5) (fsX3 X) cbX3 (by decide) fl_X3_179 (in_main 0 (by decide)) (fun _ => rfl) (fun _ _ => rfl) hF (dtX3_save_0 46 (76, .getfield 179, 3) rfl) (fun v8 hF => ?_)
    refine r_iconst (v := 1) hk (dtX3_save_0 47 (79, .iconst 1, 1) rfl) (by decide) ?_
    refine r_iadd hk hF (dtX3_save_0 48 (80, .iadd, 1) rfl) (fun v9 hF => ?_)
    refine r_putI hk (k := 5) (fsX3 X) cbX3 (by decide) fl_X3_179 (in_main 0 (by decide)) (fun _ => rfl) rfl rfl (fun _ _ _ => rfl) (fun _ _ => (by decide : 5 < 7)) hF (dtX3_save_0 49 (81, .putfield 179, 3) rfl) (fun m10 hF => ?_)
    refine r_aload_n hk 0 (dtX3_save_0 50 (84, .aload_n 1, 1) rfl) rfl ?_
    cases Option.some.inj hF
    exact hR _ _ (dtX3_save_0 51 (85, .areturn, 1) rfl)
  refine r_icmp_lt hk 56 hF (dtX3_save_0 3 (6, .if_icmp .lt 50, 3) rfl) (by decide) (fun hF => ?_) (fun hF => ?_)
  · exact r_sub hk [0] rfl (j56_3 m0 hF)
  · refine r_aload_n hk 0 (dtX3_save_0 4 (9, .aload_n 0, 1) rfl) rfl ?_
    refine r_getR hk (k := 0) (fsX3 X) cbX3 (by decide) fl_X3_11 (in_main 0 (by decide)) (fun _ => rfl) (fun _ _ => rfl) (dtX3_save_0 5 (10, .getfield 11, 3) rfl) ?_
    refine r_iconst (v := 0) hk (dtX3_save_0 6 (13, .iconst 0, 1) rfl) (by decide) ?_
    refine r_aldS hk hF (dtX3_save_0 7 (14, .aaload, 1) rfl) (fun q11 hq11 hF => ?_)
    refine r_astore_n hk [(1, .ref (xad X (1, q11, 0, 0))), (0, .ref (xad X (0, 0, 0, 0)))] (dtX3_save_0 8 (15, .astore_n 1, 1) rfl) (by decide) rfl ?_
    refine r_iconst (v := 1) hk (dtX3_save_0 9 (16, .iconst 1, 1) rfl) (by decide) ?_
    refine r_istore_n hk [(2, .int 1), (1, .ref (xad X (1, q11, 0, 0))), (0, .ref (xad X (0, 0, 0, 0)))] (dtX3_save_0 10 (17, .istore_n 2, 1) rfl) (by decide) rfl ?_
    have e44_13 : ∀ (m12 : Mem), (C_X3_save_44 q11) m12 = some (rv, mE) → G X K 44 [(0, .ref (xad X (0, 0, 0, 0))), (1, .ref (xad X (1, q11, 0, 0)))] [] m12 := by
      intro m12 hF
      unfold C_X3_save_44 at hF
      refine r_aload_n hk 0 (dtX3_save_0 26 (44, .aload_n 0, 1) rfl) rfl ?_
      refine r_getR hk (k := 0) (fsX3 X) cbX3 (by decide) fl_X3_11 (in_main 0 (by decide)) (fun _ => rfl) (fun _ _ => rfl) (dtX3_save_0 27 (45, .getfield 11, 3) rfl) ?_
      refine r_iconst (v := 5) hk (dtX3_save_0 28 (48, .iconst 5, 1) rfl) (by decide) ?_
      refine r_aload_n hk 1 (dtX3_save_0 29 (49, .aload_n 1, 1) rfl) rfl ?_
      refine r_aastS hk hq11 hF (dtX3_save_0 30 (50, .aastore, 1) rfl) (fun m14 hF => ?_)
      refine r_aload_n hk 0 (dtX3_save_0 31 (51, .aload_n 0, 1) rfl) rfl ?_
      refine r_iconst (v := 5) hk (dtX3_save_0 32 (52, .iconst 5, 1) rfl) (by decide) ?_
      refine r_putI hk (k := 5) (fsX3 X) cbX3 (by decide) fl_X3_179 (in_main 0 (by decide)) (fun _ => rfl) rfl rfl (fun _ _ _ => rfl) (fun _ _ => (by decide : 5 < 7)) hF (dtX3_save_0 33 (53, .putfield 179, 3) rfl) (fun m15 hF => ?_)
      exact r_sub hk [0] rfl (j56_3 m15 hF)
    have l19 : ∀ (n19 : Nat) (v16 : Int32) (m17 : Mem), L_X3_save_18 q11 n19 v16 m17 = some (rv, mE) → G X K 18 [(0, .ref (xad X (0, 0, 0, 0))), (1, .ref (xad X (1, q11, 0, 0))), (2, .int v16)] [] m17 := by
      intro n19
      induction n19 with
      | zero => intro v16 m17 hF; exact nomatch (show (none : Option (Nat × Mem)) = some (rv, mE) from hF)
      | succ n19 ih19 =>
        intro v16 m17 hF
        rw [L_X3_save_18] at hF
        refine r_iload_n hk 2 (dtX3_save_0 11 (18, .iload_n 2, 1) rfl) rfl ?_
        refine r_bipush (v := 6) hk (dtX3_save_0 12 (19, .bipush 6, 2) rfl) (by decide) ?_
        refine r_icmp_ge hk 44 hF (dtX3_save_0 13 (21, .if_icmp .ge 23, 3) rfl) (by decide) (fun hF => ?_) (fun hF => ?_)
        · exact r_sub hk [0, 1] rfl (e44_13 m17 hF)
        · refine r_aload_n hk 0 (dtX3_save_0 14 (24, .aload_n 0, 1) rfl) rfl ?_
          refine r_getR hk (k := 0) (fsX3 X) cbX3 (by decide) fl_X3_11 (in_main 0 (by decide)) (fun _ => rfl) (fun _ _ => rfl) (dtX3_save_0 15 (25, .getfield 11, 3) rfl) ?_
          refine r_iload_n hk 2 (dtX3_save_0 16 (28, .iload_n 2, 1) rfl) rfl ?_
          refine r_iconst (v := 1) hk (dtX3_save_0 17 (29, .iconst 1, 1) rfl) (by decide) ?_
          refine r_isub hk hF (dtX3_save_0 18 (30, .isub, 1) rfl) (fun v20 hF => ?_)
          refine r_aload_n hk 0 (dtX3_save_0 19 (31, .aload_n 0, 1) rfl) rfl ?_
          refine r_getR hk (k := 0) (fsX3 X) cbX3 (by decide) fl_X3_11 (in_main 0 (by decide)) (fun _ => rfl) (fun _ _ => rfl) (dtX3_save_0 20 (32, .getfield 11, 3) rfl) ?_
          refine r_iload_n hk 2 (dtX3_save_0 21 (35, .iload_n 2, 1) rfl) rfl ?_
          refine r_aldS hk hF (dtX3_save_0 22 (36, .aaload, 1) rfl) (fun q21 hq21 hF => ?_)
          refine r_aastS hk hq21 hF (dtX3_save_0 23 (37, .aastore, 1) rfl) (fun m22 hF => ?_)
          refine r_iinc hk 1 2 (fun v23 => [(2, .int v23), (0, .ref (xad X (0, 0, 0, 0))), (1, .ref (xad X (1, q11, 0, 0)))]) hF (dtX3_save_0 24 (38, .iinc 2 1, 3) rfl) rfl (by decide) (by decide) (fun _ => rfl) (fun v23 hF => ?_)
          refine r_goto hk 18 (dtX3_save_0 25 (41, .goto (-23), 3) rfl) (by decide) ?_
          exact r_sub hk [1, 2, 0] rfl (ih19 v23 m22 hF)
    exact r_sub hk [2, 1, 0] rfl (l19 fu 1 m0 hF)
set_option maxHeartbeats 4000000 in
set_option maxRecDepth 100000 in
theorem c_X3_ask (l : Launch) (hlf : l.stackTraces = false) (X : XW)  (p1 : Int32) (m0 : Mem) (rv : Int32 ⊕ Nat) (mE : Mem) (hF : F_X3_ask p1 m0 = some (rv, mE)) : MT X l yX3_ask cX3_ask 4 (some .int) 8 [.ref (xad X (0, 0, 0, 0)), .int p1] m0 rv mE (QTI X rv mE) := by
  refine startTI hlf (by decide +kernel) rfl [(0, .ref (xad X (0, 0, 0, 0))), (1, .int p1)] rfl (Nat.le_of_ble_eq_true rfl) (fun K hk hR hX => ?_)
  unfold F_X3_ask at hF
  refine r_iload_n hk 1 (dtX3_ask_0 0 (0, .iload_n 1, 1) rfl) rfl ?_
  refine r_callI hF (fun v1 h H locs ls hH hS hl => run_S hk (c_X3_isTenant (kl K) hk.2.2.2.2.2.2.2.2.2.2.2 X  p1 m0 v1 h) lk_X3_34 me_X3_isTenant yf_X3_isTenant (by decide) (by decide) rfl (Nat.le_of_ble_eq_true rfl) rfl (dtX3_ask_0 1 (1, .invokestatic 34, 3) rfl) hH hS hl) (fun v1 hF => ?_)
  have j19_4 : ∀ (v2 : Int32) (m3 : Mem), (J_X3_ask_19 p1) v2 m3 = some (rv, mE) → G X K 19 [(0, .ref (xad X (0, 0, 0, 0))), (1, .int p1)] [.int v2] m3 := by
    intro v2 m3 hF
    unfold J_X3_ask_19 at hF
    refine r_callVts hk hF (fun c h => by cases Option.some.inj h; exact hX c rfl) (fun R h hf H locs ls hH hS hl => runT_S hk (c_X3_require (kl K) hk.2.2.2.2.2.2.2.2.2.2.2 X  v2 m3 R h) lk_X3_41 me_X3_require yf_X3_require (by decide) (by decide) rfl (Nat.le_of_ble_eq_true rfl) rfl (dtX3_ask_0 9 (19, .invokestatic 41, 3) rfl) hf hH hS hl) (fun _ hF => ?_)
    refine r_aload_n hk 0 (dtX3_ask_0 10 (22, .aload_n 0, 1) rfl) rfl ?_
    refine r_callRm (fun q => xad X (1, q, 0, 0)) hF (fun q5 m6 h H locs ls hH hS hl => run_V (y := yX3_save) hk (in_main 0 (by decide)) rfl rfl (c_X3_save (kl K) hk.2.2.2.2.2.2.2.2.2.2.2 X   m3 q5 m6 h) lk_X3_45 me_X3_save yf_X3_save (by decide) (by decide) rfl (Nat.le_of_ble_eq_true rfl) rfl (dtX3_ask_0 11 (23, .invokevirtual 45, 3) rfl) hH hS hl) (fun q5 m6 _ hF => ?_)
    obtain ⟨hq5, hF⟩ := bp_some hF
    refine r_pop hk (dtX3_ask_0 12 (26, .pop, 1) rfl) rfl ?_
    refine r_aload_n hk 0 (dtX3_ask_0 13 (27, .aload_n 0, 1) rfl) rfl ?_
    refine r_getS hk fl_X3_30 hF (dtX3_ask_0 14 (28, .getfield 30, 3) rfl) (fun q7 hq7 hF => ?_)
    refine r_getR hk (k := 0) (fsX1 X q7) cbX1 (by decide) fl_X3_49 (in_st q7 hq7 0 (by decide)) (fun _ => rfl) (fun _ _ => rfl) (dtX3_ask_0 15 (31, .getfield 49, 3) rfl) ?_
    refine r_iload_n hk 1 (dtX3_ask_0 16 (34, .iload_n 1, 1) rfl) rfl ?_
    refine r_aldT hk hq7 hF (dtX3_ask_0 17 (35, .aaload, 1) rfl) (fun q8 hq8 hF => ?_)
    refine r_astore_n hk [(2, .ref (xad X (2, q7, q8, 0))), (0, .ref (xad X (0, 0, 0, 0))), (1, .int p1)] (dtX3_ask_0 18 (36, .astore_n 2, 1) rfl) (by decide) rfl ?_
    refine r_aload_n hk 1 (dtX3_ask_0 19 (37, .aload_n 0, 1) rfl) rfl ?_
    refine r_iload_n hk 2 (dtX3_ask_0 20 (38, .iload_n 1, 1) rfl) rfl ?_
    refine r_callIm hF (fun v9 m10 h H locs ls hH hS hl => run_V (y := yX3_collectAnswers) hk (in_main 0 (by decide)) rfl rfl (c_X3_collectAnswers (kl K) hk.2.2.2.2.2.2.2.2.2.2.2 X  p1 m6 v9 m10 h) lk_X3_163 me_X3_collectAnswers yf_X3_collectAnswers (by decide) (by decide) rfl (Nat.le_of_ble_eq_true rfl) rfl (dtX3_ask_0 21 (39, .invokevirtual 163, 3) rfl) hH hS hl) (fun v9 m10 hF => ?_)
    refine r_istore_n hk [(3, .int v9), (2, .ref (xad X (2, q7, q8, 0))), (0, .ref (xad X (0, 0, 0, 0))), (1, .int p1)] (dtX3_ask_0 22 (42, .istore_n 3, 1) rfl) (by decide) rfl ?_
    refine r_aload_n hk 1 (dtX3_ask_0 23 (43, .aload_n 2, 1) rfl) rfl ?_
    refine r_dup hk (dtX3_ask_0 24 (44, .dup, 1) rfl) rfl ?_
    refine r_getI hk (k := 6) (fsX2 X q7 q8) cbX2 (by decide) fl_X3_166 (in_tn q7 hq7 q8 hq8 0 (by decide)) (fun _ => rfl) (fun _ _ => rfl) hF (dtX3_ask_0 25 (45, .getfield 166, 3) rfl) (fun v11 hF => ?_)
    refine r_iconst (v := 1) hk (dtX3_ask_0 26 (48, .iconst 1, 1) rfl) (by decide) ?_
    refine r_iadd hk hF (dtX3_ask_0 27 (49, .iadd, 1) rfl) (fun v12 hF => ?_)
    refine r_putI hk (k := 6) (fsX2 X q7 q8) cbX2 (by decide) fl_X3_166 (in_tn q7 hq7 q8 hq8 0 (by decide)) (fun _ => rfl) rfl rfl (fun _ _ _ => rfl) (fun _ _ => (by decide : 6 < 10)) hF (dtX3_ask_0 28 (50, .putfield 166, 3) rfl) (fun m13 hF => ?_)
    refine r_aload_n hk 1 (dtX3_ask_0 29 (53, .aload_n 2, 1) rfl) rfl ?_
    refine r_dup hk (dtX3_ask_0 30 (54, .dup, 1) rfl) rfl ?_
    refine r_getI hk (k := 7) (fsX2 X q7 q8) cbX2 (by decide) fl_X3_169 (in_tn q7 hq7 q8 hq8 0 (by decide)) (fun _ => rfl) (fun _ _ => rfl) hF (dtX3_ask_0 31 (55, .getfield 169, 3) rfl) (fun v14 hF => ?_)
    refine r_aload_n hk 2 (dtX3_ask_0 32 (58, .aload_n 0, 1) rfl) rfl ?_
    refine r_iload_n hk 3 (dtX3_ask_0 33 (59, .iload_n 1, 1) rfl) rfl ?_
    refine r_aload_n hk 1 (dtX3_ask_0 34 (60, .aload_n 2, 1) rfl) rfl ?_
    refine r_getI hk (k := 5) (fsX2 X q7 q8) cbX2 (by decide) fl_X3_106 (in_tn q7 hq7 q8 hq8 0 (by decide)) (fun _ => rfl) (fun _ _ => rfl) hF (dtX3_ask_0 35 (61, .getfield 106, 3) rfl) (fun v15 hF => ?_)
    refine r_iconst (v := (-1)) hk (dtX3_ask_0 36 (64, .iconst (-1), 1) rfl) (by decide) ?_
    refine r_callI hF (fun v16 h H locs ls hH hS hl => run_V (y := yX3_rowsToLookAt) hk (in_main 0 (by decide)) rfl rfl (c_X3_rowsToLookAt (kl K) hk.2.2.2.2.2.2.2.2.2.2.2 X  p1 v15 (-1) m13 v16 h) lk_X3_172 me_X3_rowsToLookAt yf_X3_rowsToLookAt (by decide) (by decide) rfl (Nat.le_of_ble_eq_true rfl) rfl (dtX3_ask_0 37 (65, .invokevirtual 172, 3) rfl) hH hS hl) (fun v16 hF => ?_)
    refine r_iadd hk hF (dtX3_ask_0 38 (68, .iadd, 1) rfl) (fun v17 hF => ?_)
    refine r_putI hk (k := 7) (fsX2 X q7 q8) cbX2 (by decide) fl_X3_169 (in_tn q7 hq7 q8 hq8 0 (by decide)) (fun _ => rfl) rfl rfl (fun _ _ _ => rfl) (fun _ _ => (by decide : 7 < 10)) hF (dtX3_ask_0 39 (69, .putfield 169, 3) rfl) (fun m18 hF => ?_)
    refine r_aload_n hk 1 (dtX3_ask_0 40 (72, .aload_n 2, 1) rfl) rfl ?_
    refine r_dup hk (dtX3_ask_0 41 (73, .dup, 1) rfl) rfl ?_
    refine r_getI hk (k := 8) (fsX2 X q7 q8) cbX2 (by decide) fl_X3_176 (in_tn q7 hq7 q8 hq8 0 (by decide)) (fun _ => rfl) (fun _ _ => rfl) hF (dtX3_ask_0 42 (74, .getfield 176, 3) rfl) (fun v19 hF => ?_)
    refine r_iload_n hk 0 (dtX3_ask_0 43 (77, .iload_n 3, 1) rfl) rfl ?_
    refine r_iadd hk hF (dtX3_ask_0 44 (78, .iadd, 1) rfl) (fun v20 hF => ?_)
    refine r_putI hk (k := 8) (fsX2 X q7 q8) cbX2 (by decide) fl_X3_176 (in_tn q7 hq7 q8 hq8 0 (by decide)) (fun _ => rfl) rfl rfl (fun _ _ _ => rfl) (fun _ _ => (by decide : 8 < 10)) hF (dtX3_ask_0 45 (79, .putfield 176, 3) rfl) (fun m21 hF => ?_)
    refine r_iload_n hk 0 (dtX3_ask_0 46 (82, .iload_n 3, 1) rfl) rfl ?_
    cases Option.some.inj hF
    exact hR v9 rfl _ _ (dtX3_ask_0 47 (83, .ireturn, 1) rfl)
  have j18_23 : ∀ (m22 : Mem), (J_X3_ask_18 p1) m22 = some (rv, mE) → G X K 18 [(0, .ref (xad X (0, 0, 0, 0))), (1, .int p1)] [] m22 := by
    intro m22 hF
    unfold J_X3_ask_18 at hF
    refine r_iconst (v := 0) hk (dtX3_ask_0 8 (18, .iconst 0, 1) rfl) (by decide) ?_
    exact r_sub hk [0, 1] rfl (j19_4 0 m22 hF)
  refine r_if_eq hk 18 hF (dtX3_ask_0 2 (4, .ifCond .eq 14, 3) rfl) (by decide) (fun hF => ?_) (fun hF => ?_)
  · exact r_sub hk [0, 1] rfl (j18_23 m0 hF)
  · refine r_aload_n hk 0 (dtX3_ask_0 3 (7, .aload_n 0, 1) rfl) rfl ?_
    refine r_callIm hF (fun v24 m25 h H locs ls hH hS hl => run_V (y := yX3_readQuestion) hk (in_main 0 (by decide)) rfl rfl (c_X3_readQuestion (kl K) hk.2.2.2.2.2.2.2.2.2.2.2 X   m0 v24 m25 h) lk_X3_159 me_X3_readQuestion yf_X3_readQuestion (by decide) (by decide) rfl (Nat.le_of_ble_eq_true rfl) rfl (dtX3_ask_0 4 (8, .invokevirtual 159, 3) rfl) hH hS hl) (fun v24 m25 hF => ?_)
    refine r_if_eq hk 18 hF (dtX3_ask_0 5 (11, .ifCond .eq 7, 3) rfl) (by decide) (fun hF => ?_) (fun hF => ?_)
    · exact r_sub hk [0, 1] rfl (j18_23 m25 hF)
    · refine r_iconst (v := 1) hk (dtX3_ask_0 6 (14, .iconst 1, 1) rfl) (by decide) ?_
      refine r_goto hk 19 (dtX3_ask_0 7 (15, .goto 4, 3) rfl) (by decide) ?_
      exact r_sub hk [0, 1] rfl (j19_4 1 m25 hF)
set_option maxHeartbeats 4000000 in
set_option maxRecDepth 100000 in
theorem c_X3_bestLetter (l : Launch) (hlf : l.stackTraces = false) (X : XW)  (p1 : Int32) (m0 : Mem) (rv : Int32) (hF : F_X3_bestLetter p1 m0 = some rv) : MX X l yX3_bestLetter cX3_bestLetter 9 (some .int) 3 [.ref (xad X (0, 0, 0, 0)), .int p1] m0 (QI X rv m0) := by
  refine startI hlf (by decide +kernel) rfl [(0, .ref (xad X (0, 0, 0, 0))), (1, .int p1)] rfl (Nat.le_of_ble_eq_true rfl) (fun K hk hR => ?_)
  unfold F_X3_bestLetter at hF
  refine r_aload_n hk 0 (dtX3_bestLetter_0 0 (0, .aload_n 0, 1) rfl) rfl ?_
  refine r_getS hk fl_X3_30 hF (dtX3_bestLetter_0 1 (1, .getfield 30, 3) rfl) (fun q1 hq1 hF => ?_)
  refine r_getR hk (k := 0) (fsX1 X q1) cbX1 (by decide) fl_X3_49 (in_st q1 hq1 0 (by decide)) (fun _ => rfl) (fun _ _ => rfl) (dtX3_bestLetter_0 2 (4, .getfield 49, 3) rfl) ?_
  refine r_iload_n hk 1 (dtX3_bestLetter_0 3 (7, .iload_n 1, 1) rfl) rfl ?_
  refine r_aldT hk hq1 hF (dtX3_bestLetter_0 4 (8, .aaload, 1) rfl) (fun q2 hq2 hF => ?_)
  refine r_astore_n hk [(2, .ref (xad X (2, q1, q2, 0))), (0, .ref (xad X (0, 0, 0, 0))), (1, .int p1)] (dtX3_bestLetter_0 5 (9, .astore_n 2, 1) rfl) (by decide) rfl ?_
  refine r_iconst (v := (-1)) hk (dtX3_bestLetter_0 6 (10, .iconst (-1), 1) rfl) (by decide) ?_
  refine r_istore_n hk [(3, .int (-1)), (2, .ref (xad X (2, q1, q2, 0))), (0, .ref (xad X (0, 0, 0, 0))), (1, .int p1)] (dtX3_bestLetter_0 7 (11, .istore_n 3, 1) rfl) (by decide) rfl ?_
  refine r_aload_n hk 2 (dtX3_bestLetter_0 8 (12, .aload_n 0, 1) rfl) rfl ?_
  refine r_iload_n hk 3 (dtX3_bestLetter_0 9 (13, .iload_n 1, 1) rfl) rfl ?_
  refine r_aload_n hk 1 (dtX3_bestLetter_0 10 (14, .aload_n 2, 1) rfl) rfl ?_
  refine r_getI hk (k := 5) (fsX2 X q1 q2) cbX2 (by decide) fl_X3_106 (in_tn q1 hq1 q2 hq2 0 (by decide)) (fun _ => rfl) (fun _ _ => rfl) hF (dtX3_bestLetter_0 11 (15, .getfield 106, 3) rfl) (fun v3 hF => ?_)
  refine r_iconst (v := (-1)) hk (dtX3_bestLetter_0 12 (18, .iconst (-1), 1) rfl) (by decide) ?_
  refine r_callI hF (fun v4 h H locs ls hH hS hl => run_V (y := yX3_rowsToLookAt) hk (in_main 0 (by decide)) rfl rfl (c_X3_rowsToLookAt (kl K) hk.2.2.2.2.2.2.2.2.2.2.2 X  p1 v3 (-1) m0 v4 h) lk_X3_172 me_X3_rowsToLookAt yf_X3_rowsToLookAt (by decide) (by decide) rfl (Nat.le_of_ble_eq_true rfl) rfl (dtX3_bestLetter_0 13 (19, .invokevirtual 172, 3) rfl) hH hS hl) (fun v4 hF => ?_)
  refine r_istore hk [(4, .int v4), (3, .int (-1)), (2, .ref (xad X (2, q1, q2, 0))), (0, .ref (xad X (0, 0, 0, 0))), (1, .int p1)] (dtX3_bestLetter_0 14 (22, .istore 4, 2) rfl) (by decide) rfl ?_
  refine r_iconst (v := 0) hk (dtX3_bestLetter_0 15 (24, .iconst 0, 1) rfl) (by decide) ?_
  refine r_istore hk [(5, .int 0), (4, .int v4), (3, .int (-1)), (2, .ref (xad X (2, q1, q2, 0))), (0, .ref (xad X (0, 0, 0, 0))), (1, .int p1)] (dtX3_bestLetter_0 16 (25, .istore 5, 2) rfl) (by decide) rfl ?_
  have e123_6 : ∀ (v5 : Int32), C_X3_bestLetter_123 v5 = some rv → G X K 123 [(3, .int v5)] [] m0 := by
    intro v5 hF
    unfold C_X3_bestLetter_123 at hF
    refine r_iload_n hk 0 (dtX3_bestLetter_0 63 (123, .iload_n 3, 1) rfl) rfl ?_
    cases Option.some.inj hF
    exact hR _ _ (dtX3_bestLetter_1 0 (124, .ireturn, 1) rfl)
  have l11 : ∀ (n11 : Nat) (v7 : Int32) (v8 : Int32) (v9 : Int32), L_X3_bestLetter_27 p1 m0 q1 q2 n11 v7 v8 v9 = some rv → G X K 27 [(0, .ref (xad X (0, 0, 0, 0))), (1, .int p1), (2, .ref (xad X (2, q1, q2, 0))), (3, .int v7), (4, .int v8), (5, .int v9)] [] m0 := by
    intro n11
    induction n11 with
    | zero => intro v7 v8 v9 hF; exact nomatch (show (none : Option Int32) = some rv from hF)
    | succ n11 ih11 =>
      intro v7 v8 v9 hF
      rw [L_X3_bestLetter_27] at hF
      refine r_iload hk 5 (dtX3_bestLetter_0 17 (27, .iload 5, 2) rfl) rfl ?_
      refine r_aload_n hk 0 (dtX3_bestLetter_0 18 (29, .aload_n 0, 1) rfl) rfl ?_
      refine r_getR hk (k := 2) (fsX3 X) cbX3 (by decide) fl_X3_22 (in_main 0 (by decide)) (fun _ => rfl) (fun _ _ => rfl) (dtX3_bestLetter_0 19 (30, .getfield 22, 3) rfl) ?_
      refine r_getI hk (k := 3) (fsX0 X) cbX0 (by decide) fl_X3_287 (in_main 3 (by decide)) (fun _ => rfl) (fun _ _ => rfl) hF (dtX3_bestLetter_0 20 (33, .getfield 287, 3) rfl) (fun v12 hF => ?_)
      refine r_icmp_ge hk 123 hF (dtX3_bestLetter_0 21 (36, .if_icmp .ge 87, 3) rfl) (by decide) (fun hF => ?_) (fun hF => ?_)
      · exact r_sub hk [3] rfl (e123_6 v7 hF)
      · refine r_aload_n hk 0 (dtX3_bestLetter_0 22 (39, .aload_n 0, 1) rfl) rfl ?_
        refine r_getR hk (k := 2) (fsX3 X) cbX3 (by decide) fl_X3_22 (in_main 0 (by decide)) (fun _ => rfl) (fun _ _ => rfl) (dtX3_bestLetter_0 23 (40, .getfield 22, 3) rfl) ?_
        refine r_getR hk (k := 0) (fsX0 X) cbX0 (by decide) fl_X3_290 (in_main 3 (by decide)) (fun _ => rfl) (fun _ _ => rfl) (dtX3_bestLetter_0 24 (43, .getfield 290, 3) rfl) ?_
        refine r_iload hk 5 (dtX3_bestLetter_0 25 (46, .iload 5, 2) rfl) rfl ?_
        refine r_iald hk (in_main 5 (by decide)) (fun _ => rfl) hF (dtX3_bestLetter_0 26 (48, .iaload, 1) rfl) (fun v13 hF => ?_)
        refine r_istore hk [(6, .int v13), (0, .ref (xad X (0, 0, 0, 0))), (1, .int p1), (2, .ref (xad X (2, q1, q2, 0))), (3, .int v7), (4, .int v8), (5, .int v9)] (dtX3_bestLetter_0 27 (49, .istore 6, 2) rfl) (by decide) rfl ?_
        refine r_aload_n hk 3 (dtX3_bestLetter_0 28 (51, .aload_n 2, 1) rfl) rfl ?_
        refine r_iload hk 0 (dtX3_bestLetter_0 29 (52, .iload 6, 2) rfl) rfl ?_
        refine r_callI hF (fun v14 h H locs ls hH hS hl => run_V (y := yX2_columnOf) hk (in_tn q1 hq1 q2 hq2 0 (by decide)) rfl rfl (c_X2_columnOf (kl K) hk.2.2.2.2.2.2.2.2.2.2.2 X q1 hq1 q2 hq2 v13 m0 v14 h) lk_X3_67 me_X2_columnOf yf_X2_columnOf (by decide) (by decide) rfl (Nat.le_of_ble_eq_true rfl) rfl (dtX3_bestLetter_0 30 (54, .invokevirtual 67, 3) rfl) hH hS hl) (fun v14 hF => ?_)
        refine r_istore hk [(7, .int v14), (6, .int v13), (0, .ref (xad X (0, 0, 0, 0))), (1, .int p1), (2, .ref (xad X (2, q1, q2, 0))), (3, .int v7), (4, .int v8), (5, .int v9)] (dtX3_bestLetter_0 31 (57, .istore 7, 2) rfl) (by decide) rfl ?_
        refine r_aload_n hk 2 (dtX3_bestLetter_0 32 (59, .aload_n 0, 1) rfl) rfl ?_
        refine r_getR hk (k := 2) (fsX3 X) cbX3 (by decide) fl_X3_22 (in_main 0 (by decide)) (fun _ => rfl) (fun _ _ => rfl) (dtX3_bestLetter_0 33 (60, .getfield 22, 3) rfl) ?_
        refine r_getR hk (k := 1) (fsX0 X) cbX0 (by decide) fl_X3_298 (in_main 3 (by decide)) (fun _ => rfl) (fun _ _ => rfl) (dtX3_bestLetter_0 34 (63, .getfield 298, 3) rfl) ?_
        refine r_iload hk 7 (dtX3_bestLetter_0 35 (66, .iload 5, 2) rfl) rfl ?_
        refine r_iald hk (in_main 6 (by decide)) (fun _ => rfl) hF (dtX3_bestLetter_0 36 (68, .iaload, 1) rfl) (fun v15 hF => ?_)
        refine r_bipush (v := 61) hk (dtX3_bestLetter_0 37 (69, .bipush 61, 2) rfl) (by decide) ?_
        have j117_18 : ∀ (v16 : Int32) (v17 : Int32), (J_X3_bestLetter_117 v9 (fun w0 w1 w2 => L_X3_bestLetter_27 p1 m0 q1 q2 n11 w0 w1 w2)) v16 v17 = some rv → G X K 117 [(0, .ref (xad X (0, 0, 0, 0))), (1, .int p1), (2, .ref (xad X (2, q1, q2, 0))), (3, .int v16), (4, .int v17), (5, .int v9)] [] m0 := by
          intro v16 v17 hF
          unfold J_X3_bestLetter_117 at hF
          refine r_iinc hk 1 5 (fun v19 => [(5, .int v19), (0, .ref (xad X (0, 0, 0, 0))), (1, .int p1), (2, .ref (xad X (2, q1, q2, 0))), (3, .int v16), (4, .int v17)]) hF (dtX3_bestLetter_0 61 (117, .iinc 5 1, 3) rfl) rfl (by decide) (by decide) (fun _ => rfl) (fun v19 hF => ?_)
          refine r_goto hk 27 (dtX3_bestLetter_0 62 (120, .goto (-93), 3) rfl) (by decide) ?_
          exact r_sub hk [1, 2, 3, 4, 5, 0] rfl (ih11 v16 v17 v19 hF)
        refine r_icmp_ne hk 117 hF (dtX3_bestLetter_0 38 (71, .if_icmp .ne 46, 3) rfl) (by decide) (fun hF => ?_) (fun hF => ?_)
        · exact r_sub hk [2, 3, 4, 5, 6, 7] rfl (j117_18 v7 v8 hF)
        · refine r_iload hk 0 (dtX3_bestLetter_0 39 (74, .iload 7, 2) rfl) rfl ?_
          refine r_iconst (v := (-1)) hk (dtX3_bestLetter_0 40 (76, .iconst (-1), 1) rfl) (by decide) ?_
          refine r_icmp_eq hk 117 hF (dtX3_bestLetter_0 41 (77, .if_icmp .eq 40, 3) rfl) (by decide) (fun hF => ?_) (fun hF => ?_)
          · exact r_sub hk [2, 3, 4, 5, 6, 7] rfl (j117_18 v7 v8 hF)
          · refine r_aload_n hk 4 (dtX3_bestLetter_0 42 (80, .aload_n 2, 1) rfl) rfl ?_
            refine r_getR hk (k := 2) (fsX2 X q1 q2) cbX2 (by decide) fl_X3_92 (in_tn q1 hq1 q2 hq2 0 (by decide)) (fun _ => rfl) (fun _ _ => rfl) (dtX3_bestLetter_0 43 (81, .getfield 92, 3) rfl) ?_
            refine r_iload hk 0 (dtX3_bestLetter_0 44 (84, .iload 7, 2) rfl) rfl ?_
            refine r_zald hk (in_tn q1 hq1 q2 hq2 3 (by decide)) (fun _ => rfl) hF (dtX3_bestLetter_0 45 (86, .baload, 1) rfl) (fun v20 hF => ?_)
            refine r_if_ne hk 117 hF (dtX3_bestLetter_0 46 (87, .ifCond .ne 30, 3) rfl) (by decide) (fun hF => ?_) (fun hF => ?_)
            · exact r_sub hk [2, 3, 4, 5, 6, 7] rfl (j117_18 v7 v8 hF)
            · refine r_aload_n hk 2 (dtX3_bestLetter_0 47 (90, .aload_n 0, 1) rfl) rfl ?_
              refine r_iload_n hk 3 (dtX3_bestLetter_0 48 (91, .iload_n 1, 1) rfl) rfl ?_
              refine r_aload_n hk 4 (dtX3_bestLetter_0 49 (92, .aload_n 2, 1) rfl) rfl ?_
              refine r_getI hk (k := 5) (fsX2 X q1 q2) cbX2 (by decide) fl_X3_106 (in_tn q1 hq1 q2 hq2 0 (by decide)) (fun _ => rfl) (fun _ _ => rfl) hF (dtX3_bestLetter_0 50 (93, .getfield 106, 3) rfl) (fun v21 hF => ?_)
              refine r_iload hk 1 (dtX3_bestLetter_0 51 (96, .iload 6, 2) rfl) rfl ?_
              refine r_callI hF (fun v22 h H locs ls hH hS hl => run_V (y := yX3_rowsToLookAt) hk (in_main 0 (by decide)) rfl rfl (c_X3_rowsToLookAt (kl K) hk.2.2.2.2.2.2.2.2.2.2.2 X  p1 v21 v13 m0 v22 h) lk_X3_172 me_X3_rowsToLookAt yf_X3_rowsToLookAt (by decide) (by decide) rfl (Nat.le_of_ble_eq_true rfl) rfl (dtX3_bestLetter_0 52 (98, .invokevirtual 172, 3) rfl) hH hS hl) (fun v22 hF => ?_)
              refine r_istore hk [(8, .int v22), (7, .int v14), (6, .int v13), (0, .ref (xad X (0, 0, 0, 0))), (1, .int p1), (2, .ref (xad X (2, q1, q2, 0))), (3, .int v7), (4, .int v8), (5, .int v9)] (dtX3_bestLetter_0 53 (101, .istore 8, 2) rfl) (by decide) rfl ?_
              refine r_iload hk 0 (dtX3_bestLetter_0 54 (103, .iload 8, 2) rfl) rfl ?_
              refine r_iload hk 7 (dtX3_bestLetter_0 55 (105, .iload 4, 2) rfl) rfl ?_
              refine r_icmp_ge hk 117 hF (dtX3_bestLetter_0 56 (107, .if_icmp .ge 10, 3) rfl) (by decide) (fun hF => ?_) (fun hF => ?_)
              · exact r_sub hk [3, 4, 5, 6, 7, 8] rfl (j117_18 v7 v8 hF)
              · refine r_iload hk 0 (dtX3_bestLetter_0 57 (110, .iload 8, 2) rfl) rfl ?_
                refine r_istore hk [(4, .int v22), (8, .int v22), (7, .int v14), (6, .int v13), (0, .ref (xad X (0, 0, 0, 0))), (1, .int p1), (2, .ref (xad X (2, q1, q2, 0))), (3, .int v7), (5, .int v9)] (dtX3_bestLetter_0 58 (112, .istore 4, 2) rfl) (by decide) rfl ?_
                refine r_iload hk 3 (dtX3_bestLetter_0 59 (114, .iload 6, 2) rfl) rfl ?_
                refine r_istore_n hk [(3, .int v13), (4, .int v22), (8, .int v22), (7, .int v14), (6, .int v13), (0, .ref (xad X (0, 0, 0, 0))), (1, .int p1), (2, .ref (xad X (2, q1, q2, 0))), (5, .int v9)] (dtX3_bestLetter_0 60 (116, .istore_n 3, 1) rfl) (by decide) rfl ?_
                exact r_sub hk [5, 6, 7, 0, 1, 8] rfl (j117_18 v13 v22 hF)
  exact r_sub hk [4, 5, 3, 2, 1, 0] rfl (l11 fu (-1) v4 0 hF)
set_option maxHeartbeats 4000000 in
set_option maxRecDepth 100000 in
theorem c_X3_bestIndex (l : Launch) (hlf : l.stackTraces = false) (X : XW)  (p1 : Int32) (m0 : Mem) (rv : Int32 ⊕ Nat) (mE : Mem) (hF : F_X3_bestIndex p1 m0 = some (rv, mE)) : MT X l yX3_bestIndex cX3_bestIndex 2 (some .int) 8 [.ref (xad X (0, 0, 0, 0)), .int p1] m0 rv mE (QTI X rv mE) := by
  refine startTI hlf (by decide +kernel) rfl [(0, .ref (xad X (0, 0, 0, 0))), (1, .int p1)] rfl (Nat.le_of_ble_eq_true rfl) (fun K hk hR hX => ?_)
  unfold F_X3_bestIndex at hF
  refine r_iload_n hk 1 (dtX3_bestIndex_0 0 (0, .iload_n 1, 1) rfl) rfl ?_
  refine r_callI hF (fun v1 h H locs ls hH hS hl => run_S hk (c_X3_isTenant (kl K) hk.2.2.2.2.2.2.2.2.2.2.2 X  p1 m0 v1 h) lk_X3_34 me_X3_isTenant yf_X3_isTenant (by decide) (by decide) rfl (Nat.le_of_ble_eq_true rfl) rfl (dtX3_bestIndex_0 1 (1, .invokestatic 34, 3) rfl) hH hS hl) (fun v1 hF => ?_)
  refine r_callVts hk hF (fun c h => by cases Option.some.inj h; exact hX c rfl) (fun R h hf H locs ls hH hS hl => runT_S hk (c_X3_require (kl K) hk.2.2.2.2.2.2.2.2.2.2.2 X  v1 m0 R h) lk_X3_41 me_X3_require yf_X3_require (by decide) (by decide) rfl (Nat.le_of_ble_eq_true rfl) rfl (dtX3_bestIndex_0 2 (4, .invokestatic 41, 3) rfl) hf hH hS hl) (fun _ hF => ?_)
  refine r_aload_n hk 0 (dtX3_bestIndex_0 3 (7, .aload_n 0, 1) rfl) rfl ?_
  refine r_callIm hF (fun v2 m3 h H locs ls hH hS hl => run_V (y := yX3_readQuestion) hk (in_main 0 (by decide)) rfl rfl (c_X3_readQuestion (kl K) hk.2.2.2.2.2.2.2.2.2.2.2 X   m0 v2 m3 h) lk_X3_159 me_X3_readQuestion yf_X3_readQuestion (by decide) (by decide) rfl (Nat.le_of_ble_eq_true rfl) rfl (dtX3_bestIndex_0 4 (8, .invokevirtual 159, 3) rfl) hH hS hl) (fun v2 m3 hF => ?_)
  have j23_5 : ∀ (v4 : Int32), (J_X3_bestIndex_23 m3) v4 = some (rv, mE) → G X K 23 [] [.int v4] m3 := by
    intro v4 hF
    unfold J_X3_bestIndex_23 at hF
    cases Option.some.inj hF
    exact hR v4 rfl _ _ (dtX3_bestIndex_0 11 (23, .ireturn, 1) rfl)
  refine r_if_eq hk 22 hF (dtX3_bestIndex_0 5 (11, .ifCond .eq 11, 3) rfl) (by decide) (fun hF => ?_) (fun hF => ?_)
  · refine r_iconst (v := (-1)) hk (dtX3_bestIndex_0 10 (22, .iconst (-1), 1) rfl) (by decide) ?_
    exact r_sub hk [] rfl (j23_5 (-1) hF)
  · refine r_aload_n hk 0 (dtX3_bestIndex_0 6 (14, .aload_n 0, 1) rfl) rfl ?_
    refine r_iload_n hk 1 (dtX3_bestIndex_0 7 (15, .iload_n 1, 1) rfl) rfl ?_
    refine r_callI hF (fun v6 h H locs ls hH hS hl => run_V (y := yX3_bestLetter) hk (in_main 0 (by decide)) rfl rfl (c_X3_bestLetter (kl K) hk.2.2.2.2.2.2.2.2.2.2.2 X  p1 m3 v6 h) lk_X3_219 me_X3_bestLetter yf_X3_bestLetter (by decide) (by decide) rfl (Nat.le_of_ble_eq_true rfl) rfl (dtX3_bestIndex_0 8 (16, .invokevirtual 219, 3) rfl) hH hS hl) (fun v6 hF => ?_)
    refine r_goto hk 23 (dtX3_bestIndex_0 9 (19, .goto 4, 3) rfl) (by decide) ?_
    exact r_sub hk [] rfl (j23_5 v6 hF)
set_option maxHeartbeats 4000000 in
set_option maxRecDepth 100000 in
theorem c_X3_clearBuffer (l : Launch) (hlf : l.stackTraces = false) (X : XW)   (m0 : Mem) (rv : Int32) (mE : Mem) (hF : F_X3_clearBuffer m0 = some (rv, mE)) : MX X l yX3_clearBuffer cX3_clearBuffer 2 (some .int) 0 [.ref (xad X (0, 0, 0, 0))] m0 (QI X rv mE) := by
  refine startI hlf (by decide +kernel) rfl [(0, .ref (xad X (0, 0, 0, 0)))] rfl (Nat.le_of_ble_eq_true rfl) (fun K hk hR => ?_)
  unfold F_X3_clearBuffer at hF
  refine r_aload_n hk 0 (dtX3_clearBuffer_0 0 (0, .aload_n 0, 1) rfl) rfl ?_
  refine r_getI hk (k := 6) (fsX3 X) cbX3 (by decide) fl_X3_145 (in_main 0 (by decide)) (fun _ => rfl) (fun _ _ => rfl) hF (dtX3_clearBuffer_0 1 (1, .getfield 145, 3) rfl) (fun v1 hF => ?_)
  refine r_istore_n hk [(1, .int v1), (0, .ref (xad X (0, 0, 0, 0)))] (dtX3_clearBuffer_0 2 (4, .istore_n 1, 1) rfl) (by decide) rfl ?_
  refine r_aload_n hk 1 (dtX3_clearBuffer_0 3 (5, .aload_n 0, 1) rfl) rfl ?_
  refine r_iconst (v := 0) hk (dtX3_clearBuffer_0 4 (6, .iconst 0, 1) rfl) (by decide) ?_
  refine r_putI hk (k := 6) (fsX3 X) cbX3 (by decide) fl_X3_145 (in_main 0 (by decide)) (fun _ => rfl) rfl rfl (fun _ _ _ => rfl) (fun _ _ => (by decide : 6 < 7)) hF (dtX3_clearBuffer_0 5 (7, .putfield 145, 3) rfl) (fun m2 hF => ?_)
  refine r_iload_n hk 0 (dtX3_clearBuffer_0 6 (10, .iload_n 1, 1) rfl) rfl ?_
  cases Option.some.inj hF
  exact hR _ _ (dtX3_clearBuffer_0 7 (11, .ireturn, 1) rfl)
set_option maxHeartbeats 4000000 in
set_option maxRecDepth 100000 in
theorem c_X2_refuse (l : Launch) (hlf : l.stackTraces = false) (X : XW) (i0 : Nat) (hi0 : i0 < 7) (j0 : Nat) (hj0 : j0 < 3) (p1 : Int32) (m0 : Mem) (rv : Int32) (mE : Mem) (hF : F_X2_refuse i0 j0 p1 m0 = some (rv, mE)) : MX X l yX2_refuse cX2_refuse 2 (some .int) 0 [.ref (xad X (2, i0, j0, 0)), .int p1] m0 (QI X rv mE) := by
  refine startI hlf (by decide +kernel) rfl [(0, .ref (xad X (2, i0, j0, 0))), (1, .int p1)] rfl (Nat.le_of_ble_eq_true rfl) (fun K hk hR => ?_)
  unfold F_X2_refuse at hF
  refine r_aload_n hk 0 (dtX2_refuse_0 0 (0, .aload_n 0, 1) rfl) rfl ?_
  refine r_dup hk (dtX2_refuse_0 1 (1, .dup, 1) rfl) rfl ?_
  refine r_getI hk (k := 9) (fsX2 X i0 j0) cbX2 (by decide) fl_X2_46 (in_tn i0 hi0 j0 hj0 0 (by decide)) (fun _ => rfl) (fun _ _ => rfl) hF (dtX2_refuse_0 2 (2, .getfield 46, 3) rfl) (fun v1 hF => ?_)
  refine r_iconst (v := 1) hk (dtX2_refuse_0 3 (5, .iconst 1, 1) rfl) (by decide) ?_
  refine r_iadd hk hF (dtX2_refuse_0 4 (6, .iadd, 1) rfl) (fun v2 hF => ?_)
  refine r_putI hk (k := 9) (fsX2 X i0 j0) cbX2 (by decide) fl_X2_46 (in_tn i0 hi0 j0 hj0 0 (by decide)) (fun _ => rfl) rfl rfl (fun _ _ _ => rfl) (fun _ _ => (by decide : 9 < 10)) hF (dtX2_refuse_0 5 (7, .putfield 46, 3) rfl) (fun m3 hF => ?_)
  refine r_iload_n hk 1 (dtX2_refuse_0 6 (10, .iload_n 1, 1) rfl) rfl ?_
  refine r_ineg hk hF (dtX2_refuse_0 7 (11, .ineg, 1) rfl) (fun v4 hF => ?_)
  refine r_iconst (v := 1) hk (dtX2_refuse_0 8 (12, .iconst 1, 1) rfl) (by decide) ?_
  refine r_isub hk hF (dtX2_refuse_0 9 (13, .isub, 1) rfl) (fun v5 hF => ?_)
  cases Option.some.inj hF
  exact hR _ _ (dtX2_refuse_0 10 (14, .ireturn, 1) rfl)
set_option maxHeartbeats 4000000 in
set_option maxRecDepth 100000 in
theorem c_X3_mean (l : Launch) (hlf : l.stackTraces = false) (X : XW)  (p1 : Int32) (p2 : Int32) (p3 : Int32) (m0 : Mem) (rv : Int32 ⊕ Nat) (mE : Mem) (hF : F_X3_mean p1 p2 p3 m0 = some (rv, mE)) : MT X l yX3_mean cX3_mean 6 (some .int) 8 [.ref (xad X (0, 0, 0, 0)), .int p1, .int p2, .int p3] m0 rv mE (QTI X rv mE) := by
  refine startTI hlf (by decide +kernel) rfl [(0, .ref (xad X (0, 0, 0, 0))), (1, .int p1), (2, .int p2), (3, .int p3)] rfl (Nat.le_of_ble_eq_true rfl) (fun K hk hR hX => ?_)
  unfold F_X3_mean at hF
  refine r_iload_n hk 1 (dtX3_mean_0 0 (0, .iload_n 1, 1) rfl) rfl ?_
  refine r_callI hF (fun v1 h H locs ls hH hS hl => run_S hk (c_X3_isTenant (kl K) hk.2.2.2.2.2.2.2.2.2.2.2 X  p1 m0 v1 h) lk_X3_34 me_X3_isTenant yf_X3_isTenant (by decide) (by decide) rfl (Nat.le_of_ble_eq_true rfl) rfl (dtX3_mean_0 1 (1, .invokestatic 34, 3) rfl) hH hS hl) (fun v1 hF => ?_)
  have j28_3 : ∀ (v2 : Int32), (J_X3_mean_28 p1 p2 p3 m0) v2 = some (rv, mE) → G X K 28 [(0, .ref (xad X (0, 0, 0, 0))), (1, .int p1), (2, .int p2), (3, .int p3)] [.int v2] m0 := by
    intro v2 hF
    unfold J_X3_mean_28 at hF
    refine r_callVts hk hF (fun c h => by cases Option.some.inj h; exact hX c rfl) (fun R h hf H locs ls hH hS hl => runT_S hk (c_X3_require (kl K) hk.2.2.2.2.2.2.2.2.2.2.2 X  v2 m0 R h) lk_X3_41 me_X3_require yf_X3_require (by decide) (by decide) rfl (Nat.le_of_ble_eq_true rfl) rfl (dtX3_mean_0 14 (28, .invokestatic 41, 3) rfl) hf hH hS hl) (fun _ hF => ?_)
    refine r_aload_n hk 0 (dtX3_mean_0 15 (31, .aload_n 0, 1) rfl) rfl ?_
    refine r_callRm (fun q => xad X (1, q, 0, 0)) hF (fun q4 m5 h H locs ls hH hS hl => run_V (y := yX3_save) hk (in_main 0 (by decide)) rfl rfl (c_X3_save (kl K) hk.2.2.2.2.2.2.2.2.2.2.2 X   m0 q4 m5 h) lk_X3_45 me_X3_save yf_X3_save (by decide) (by decide) rfl (Nat.le_of_ble_eq_true rfl) rfl (dtX3_mean_0 16 (32, .invokevirtual 45, 3) rfl) hH hS hl) (fun q4 m5 _ hF => ?_)
    obtain ⟨hq4, hF⟩ := bp_some hF
    refine r_pop hk (dtX3_mean_0 17 (35, .pop, 1) rfl) rfl ?_
    refine r_aload_n hk 0 (dtX3_mean_0 18 (36, .aload_n 0, 1) rfl) rfl ?_
    refine r_getS hk fl_X3_30 hF (dtX3_mean_0 19 (37, .getfield 30, 3) rfl) (fun q6 hq6 hF => ?_)
    refine r_getR hk (k := 0) (fsX1 X q6) cbX1 (by decide) fl_X3_49 (in_st q6 hq6 0 (by decide)) (fun _ => rfl) (fun _ _ => rfl) (dtX3_mean_0 20 (40, .getfield 49, 3) rfl) ?_
    refine r_iload_n hk 1 (dtX3_mean_0 21 (43, .iload_n 1, 1) rfl) rfl ?_
    refine r_aldT hk hq6 hF (dtX3_mean_0 22 (44, .aaload, 1) rfl) (fun q7 hq7 hF => ?_)
    refine r_astore hk [(4, .ref (xad X (2, q6, q7, 0))), (0, .ref (xad X (0, 0, 0, 0))), (1, .int p1), (2, .int p2), (3, .int p3)] (dtX3_mean_0 23 (45, .astore 4, 2) rfl) (by decide) rfl ?_
    refine r_aload hk 0 (dtX3_mean_0 24 (47, .aload 4, 2) rfl) rfl ?_
    refine r_callI hF (fun v8 h H locs ls hH hS hl => run_V (y := yX2_meanings) hk (in_tn q6 hq6 q7 hq7 0 (by decide)) rfl rfl (c_X2_meanings (kl K) hk.2.2.2.2.2.2.2.2.2.2.2 X q6 hq6 q7 hq7  m5 v8 h) lk_X3_53 me_X2_meanings yf_X2_meanings (by decide) (by decide) rfl (Nat.le_of_ble_eq_true rfl) rfl (dtX3_mean_0 25 (49, .invokevirtual 53, 3) rfl) hH hS hl) (fun v8 hF => ?_)
    refine r_aload hk 0 (dtX3_mean_0 26 (52, .aload 4, 2) rfl) rfl ?_
    refine r_getI hk (k := 4) (fsX2 X q6 q7) cbX2 (by decide) fl_X3_59 (in_tn q6 hq6 q7 hq7 0 (by decide)) (fun _ => rfl) (fun _ _ => rfl) hF (dtX3_mean_0 27 (54, .getfield 59, 3) rfl) (fun v9 hF => ?_)
    refine r_icmp_lt hk 67 hF (dtX3_mean_0 28 (57, .if_icmp .lt 10, 3) rfl) (by decide) (fun hF => ?_) (fun hF => ?_)
    · refine r_aload hk 0 (dtX3_mean_0 33 (67, .aload 4, 2) rfl) rfl ?_
      refine r_iload_n hk 3 (dtX3_mean_0 34 (69, .iload_n 2, 1) rfl) rfl ?_
      refine r_callI hF (fun v10 h H locs ls hH hS hl => run_V (y := yX2_columnOf) hk (in_tn q6 hq6 q7 hq7 0 (by decide)) rfl rfl (c_X2_columnOf (kl K) hk.2.2.2.2.2.2.2.2.2.2.2 X q6 hq6 q7 hq7 p2 m5 v10 h) lk_X3_67 me_X2_columnOf yf_X2_columnOf (by decide) (by decide) rfl (Nat.le_of_ble_eq_true rfl) rfl (dtX3_mean_0 35 (70, .invokevirtual 67, 3) rfl) hH hS hl) (fun v10 hF => ?_)
      refine r_iconst (v := (-1)) hk (dtX3_mean_0 36 (73, .iconst (-1), 1) rfl) (by decide) ?_
      refine r_icmp_eq hk 84 hF (dtX3_mean_0 37 (74, .if_icmp .eq 10, 3) rfl) (by decide) (fun hF => ?_) (fun hF => ?_)
      · refine r_aload hk 0 (dtX3_mean_0 42 (84, .aload 4, 2) rfl) rfl ?_
        refine r_iconst (v := (-1)) hk (dtX3_mean_0 43 (86, .iconst (-1), 1) rfl) (by decide) ?_
        refine r_callI hF (fun v11 h H locs ls hH hS hl => run_V (y := yX2_columnOf) hk (in_tn q6 hq6 q7 hq7 0 (by decide)) rfl rfl (c_X2_columnOf (kl K) hk.2.2.2.2.2.2.2.2.2.2.2 X q6 hq6 q7 hq7 (-1) m5 v11 h) lk_X3_67 me_X2_columnOf yf_X2_columnOf (by decide) (by decide) rfl (Nat.le_of_ble_eq_true rfl) rfl (dtX3_mean_0 44 (87, .invokevirtual 67, 3) rfl) hH hS hl) (fun v11 hF => ?_)
        refine r_istore hk [(5, .int v11), (4, .ref (xad X (2, q6, q7, 0))), (0, .ref (xad X (0, 0, 0, 0))), (1, .int p1), (2, .int p2), (3, .int p3)] (dtX3_mean_0 45 (90, .istore 5, 2) rfl) (by decide) rfl ?_
        refine r_iload hk 0 (dtX3_mean_0 46 (92, .iload 5, 2) rfl) rfl ?_
        refine r_iconst (v := (-1)) hk (dtX3_mean_0 47 (94, .iconst (-1), 1) rfl) (by decide) ?_
        refine r_icmp_ne hk 105 hF (dtX3_mean_0 48 (95, .if_icmp .ne 10, 3) rfl) (by decide) (fun hF => ?_) (fun hF => ?_)
        · refine r_aload hk 1 (dtX3_mean_0 53 (105, .aload 4, 2) rfl) rfl ?_
          refine r_iload hk 0 (dtX3_mean_0 54 (107, .iload 5, 2) rfl) rfl ?_
          refine r_iload_n hk 4 (dtX3_mean_0 55 (109, .iload_n 2, 1) rfl) rfl ?_
          refine r_iload_n hk 5 (dtX3_mean_0 56 (110, .iload_n 3, 1) rfl) rfl ?_
          refine r_iconst (v := 0) hk (dtX3_mean_0 57 (111, .iconst 0, 1) rfl) (by decide) ?_
          refine r_callVm hF (fun w m12 h H locs ls hH hS hl => run_V (y := yX2_define) hk (in_tn q6 hq6 q7 hq7 0 (by decide)) rfl rfl (c_X2_define (kl K) hk.2.2.2.2.2.2.2.2.2.2.2 X q6 hq6 q7 hq7 v11 p2 p3 0 m5 w m12 h) lk_X3_70 me_X2_define yf_X2_define (by decide) (by decide) rfl (Nat.le_of_ble_eq_true rfl) rfl (dtX3_mean_0 58 (112, .invokevirtual 70, 3) rfl) hH hS hl) (fun _ m12 hF => ?_)
          refine r_iload hk 0 (dtX3_mean_0 59 (115, .iload 5, 2) rfl) rfl ?_
          cases Option.some.inj hF
          exact hR v11 rfl _ _ (dtX3_mean_0 60 (117, .ireturn, 1) rfl)
        · refine r_aload hk 1 (dtX3_mean_0 49 (98, .aload 4, 2) rfl) rfl ?_
          refine r_iconst (v := 4) hk (dtX3_mean_0 50 (100, .iconst 4, 1) rfl) (by decide) ?_
          refine r_callIm hF (fun v13 m14 h H locs ls hH hS hl => run_V (y := yX2_refuse) hk (in_tn q6 hq6 q7 hq7 0 (by decide)) rfl rfl (c_X2_refuse (kl K) hk.2.2.2.2.2.2.2.2.2.2.2 X q6 hq6 q7 hq7 4 m5 v13 m14 h) lk_X3_63 me_X2_refuse yf_X2_refuse (by decide) (by decide) rfl (Nat.le_of_ble_eq_true rfl) rfl (dtX3_mean_0 51 (101, .invokevirtual 63, 3) rfl) hH hS hl) (fun v13 m14 hF => ?_)
          cases Option.some.inj hF
          exact hR v13 rfl _ _ (dtX3_mean_0 52 (104, .ireturn, 1) rfl)
      · refine r_aload hk 0 (dtX3_mean_0 38 (77, .aload 4, 2) rfl) rfl ?_
        refine r_iconst (v := 3) hk (dtX3_mean_0 39 (79, .iconst 3, 1) rfl) (by decide) ?_
        refine r_callIm hF (fun v15 m16 h H locs ls hH hS hl => run_V (y := yX2_refuse) hk (in_tn q6 hq6 q7 hq7 0 (by decide)) rfl rfl (c_X2_refuse (kl K) hk.2.2.2.2.2.2.2.2.2.2.2 X q6 hq6 q7 hq7 3 m5 v15 m16 h) lk_X3_63 me_X2_refuse yf_X2_refuse (by decide) (by decide) rfl (Nat.le_of_ble_eq_true rfl) rfl (dtX3_mean_0 40 (80, .invokevirtual 63, 3) rfl) hH hS hl) (fun v15 m16 hF => ?_)
        cases Option.some.inj hF
        exact hR v15 rfl _ _ (dtX3_mean_0 41 (83, .ireturn, 1) rfl)
    · refine r_aload hk 0 (dtX3_mean_0 29 (60, .aload 4, 2) rfl) rfl ?_
      refine r_iconst (v := 1) hk (dtX3_mean_0 30 (62, .iconst 1, 1) rfl) (by decide) ?_
      refine r_callIm hF (fun v17 m18 h H locs ls hH hS hl => run_V (y := yX2_refuse) hk (in_tn q6 hq6 q7 hq7 0 (by decide)) rfl rfl (c_X2_refuse (kl K) hk.2.2.2.2.2.2.2.2.2.2.2 X q6 hq6 q7 hq7 1 m5 v17 m18 h) lk_X3_63 me_X2_refuse yf_X2_refuse (by decide) (by decide) rfl (Nat.le_of_ble_eq_true rfl) rfl (dtX3_mean_0 31 (63, .invokevirtual 63, 3) rfl) hH hS hl) (fun v17 m18 hF => ?_)
      cases Option.some.inj hF
      exact hR v17 rfl _ _ (dtX3_mean_0 32 (66, .ireturn, 1) rfl)
  have j27_19 : (J_X3_mean_27 p1 p2 p3 m0) = some (rv, mE) → G X K 27 [(0, .ref (xad X (0, 0, 0, 0))), (1, .int p1), (2, .int p2), (3, .int p3)] [] m0 := by
    intro hF
    unfold J_X3_mean_27 at hF
    refine r_iconst (v := 0) hk (dtX3_mean_0 13 (27, .iconst 0, 1) rfl) (by decide) ?_
    exact r_sub hk [0, 1, 2, 3] rfl (j28_3 0 hF)
  refine r_if_eq hk 27 hF (dtX3_mean_0 2 (4, .ifCond .eq 23, 3) rfl) (by decide) (fun hF => ?_) (fun hF => ?_)
  · exact r_sub hk [0, 1, 2, 3] rfl (j27_19 hF)
  · refine r_iload_n hk 2 (dtX3_mean_0 3 (7, .iload_n 2, 1) rfl) rfl ?_
    refine r_callI hF (fun v20 h H locs ls hH hS hl => run_S hk (c_X3_isLetter (kl K) hk.2.2.2.2.2.2.2.2.2.2.2 X  p2 m0 v20 h) lk_X3_38 me_X3_isLetter yf_X3_isLetter (by decide) (by decide) rfl (Nat.le_of_ble_eq_true rfl) rfl (dtX3_mean_0 4 (8, .invokestatic 38, 3) rfl) hH hS hl) (fun v20 hF => ?_)
    refine r_if_eq hk 27 hF (dtX3_mean_0 5 (11, .ifCond .eq 16, 3) rfl) (by decide) (fun hF => ?_) (fun hF => ?_)
    · exact r_sub hk [0, 1, 2, 3] rfl (j27_19 hF)
    · refine r_iload_n hk 3 (dtX3_mean_0 6 (14, .iload_n 3, 1) rfl) rfl ?_
      refine r_if_lt hk 27 hF (dtX3_mean_0 7 (15, .ifCond .lt 12, 3) rfl) (by decide) (fun hF => ?_) (fun hF => ?_)
      · exact r_sub hk [0, 1, 2, 3] rfl (j27_19 hF)
      · refine r_iload_n hk 3 (dtX3_mean_0 8 (18, .iload_n 3, 1) rfl) rfl ?_
        refine r_iconst (v := 2) hk (dtX3_mean_0 9 (19, .iconst 2, 1) rfl) (by decide) ?_
        refine r_icmp_gt hk 27 hF (dtX3_mean_0 10 (20, .if_icmp .gt 7, 3) rfl) (by decide) (fun hF => ?_) (fun hF => ?_)
        · exact r_sub hk [0, 1, 2, 3] rfl (j27_19 hF)
        · refine r_iconst (v := 1) hk (dtX3_mean_0 11 (23, .iconst 1, 1) rfl) (by decide) ?_
          refine r_goto hk 28 (dtX3_mean_0 12 (24, .goto 4, 3) rfl) (by decide) ?_
          exact r_sub hk [0, 1, 2, 3] rfl (j28_3 1 hF)
set_option maxHeartbeats 4000000 in
set_option maxRecDepth 100000 in
theorem c_X1_setValue (l : Launch) (hlf : l.stackTraces = false) (X : XW) (i0 : Nat) (hi0 : i0 < 7) (p1 : Int32) (p2 : Int32) (p3 : Int32) (m0 : Mem) (rv : Unit) (mE : Mem) (hF : F_X1_setValue i0 p1 p2 p3 m0 = some (rv, mE)) : MX X l yX1_setValue cX1_setValue 4 none 0 [.ref (xad X (1, i0, 0, 0)), .int p1, .int p2, .int p3] m0 (QV X mE) := by
  refine startV hlf (by decide +kernel) rfl [(0, .ref (xad X (1, i0, 0, 0))), (1, .int p1), (2, .int p2), (3, .int p3)] rfl (Nat.le_of_ble_eq_true rfl) (fun K hk hR => ?_)
  unfold F_X1_setValue at hF
  refine r_iload_n hk 1 (dtX1_setValue_0 0 (0, .iload_n 1, 1) rfl) rfl ?_
  have j34_2 : ∀ (m1 : Mem), J_X1_setValue_34 m1 = some (rv, mE) → G X K 34 [] [] m1 := by
    intro m1 hF
    unfold J_X1_setValue_34 at hF
    cases Option.some.inj hF
    exact hR _ _ (dtX1_setValue_0 20 (34, .return_, 1) rfl)
  refine r_if_lt hk 34 hF (dtX1_setValue_0 1 (1, .ifCond .lt 33, 3) rfl) (by decide) (fun hF => ?_) (fun hF => ?_)
  · exact r_sub hk [] rfl (j34_2 m0 hF)
  · refine r_iload_n hk 1 (dtX1_setValue_0 2 (4, .iload_n 1, 1) rfl) rfl ?_
    refine r_aload_n hk 0 (dtX1_setValue_0 3 (5, .aload_n 0, 1) rfl) rfl ?_
    refine r_getI hk (k := 3) (fsX1 X i0) cbX1 (by decide) fl_X1_29 (in_st i0 hi0 0 (by decide)) (fun _ => rfl) (fun _ _ => rfl) hF (dtX1_setValue_0 4 (6, .getfield 29, 3) rfl) (fun v3 hF => ?_)
    refine r_icmp_ge hk 34 hF (dtX1_setValue_0 5 (9, .if_icmp .ge 25, 3) rfl) (by decide) (fun hF => ?_) (fun hF => ?_)
    · exact r_sub hk [] rfl (j34_2 m0 hF)
    · refine r_iload_n hk 2 (dtX1_setValue_0 6 (12, .iload_n 2, 1) rfl) rfl ?_
      refine r_if_lt hk 34 hF (dtX1_setValue_0 7 (13, .ifCond .lt 21, 3) rfl) (by decide) (fun hF => ?_) (fun hF => ?_)
      · exact r_sub hk [] rfl (j34_2 m0 hF)
      · refine r_iload_n hk 2 (dtX1_setValue_0 8 (16, .iload_n 2, 1) rfl) rfl ?_
        refine r_bipush (v := 8) hk (dtX1_setValue_0 9 (17, .bipush 8, 2) rfl) (by decide) ?_
        refine r_icmp_ge hk 34 hF (dtX1_setValue_0 10 (19, .if_icmp .ge 15, 3) rfl) (by decide) (fun hF => ?_) (fun hF => ?_)
        · exact r_sub hk [] rfl (j34_2 m0 hF)
        · refine r_aload_n hk 0 (dtX1_setValue_0 11 (22, .aload_n 0, 1) rfl) rfl ?_
          refine r_getR hk (k := 2) (fsX1 X i0) cbX1 (by decide) fl_X1_21 (in_st i0 hi0 0 (by decide)) (fun _ => rfl) (fun _ _ => rfl) (dtX1_setValue_0 12 (23, .getfield 21, 3) rfl) ?_
          refine r_iload_n hk 1 (dtX1_setValue_0 13 (26, .iload_n 1, 1) rfl) rfl ?_
          refine r_bipush (v := 8) hk (dtX1_setValue_0 14 (27, .bipush 8, 2) rfl) (by decide) ?_
          refine r_imul hk hF (dtX1_setValue_0 15 (29, .imul, 1) rfl) (fun v4 hF => ?_)
          refine r_iload_n hk 2 (dtX1_setValue_0 16 (30, .iload_n 2, 1) rfl) rfl ?_
          refine r_iadd hk hF (dtX1_setValue_0 17 (31, .iadd, 1) rfl) (fun v5 hF => ?_)
          refine r_iload_n hk 3 (dtX1_setValue_0 18 (32, .iload_n 3, 1) rfl) rfl ?_
          refine r_iast hk (in_st i0 hi0 3 (by decide)) (fun _ => rfl) hF (dtX1_setValue_0 19 (33, .iastore, 1) rfl) (fun m6 hF => ?_)
          exact r_sub hk [] rfl (j34_2 m6 hF)
set_option maxHeartbeats 4000000 in
set_option maxRecDepth 100000 in
theorem c_X1_shiftValues (l : Launch) (hlf : l.stackTraces = false) (X : XW) (i0 : Nat) (hi0 : i0 < 7) (p1 : Int32) (p2 : Int32) (p3 : Int32) (m0 : Mem) (rv : Unit) (mE : Mem) (hF : F_X1_shiftValues i0 p1 p2 p3 m0 = some (rv, mE)) : MX X l yX1_shiftValues cX1_shiftValues 5 none 1 [.ref (xad X (1, i0, 0, 0)), .int p1, .int p2, .int p3] m0 (QV X mE) := by
  refine startV hlf (by decide +kernel) rfl [(0, .ref (xad X (1, i0, 0, 0))), (1, .int p1), (2, .int p2), (3, .int p3)] rfl (Nat.le_of_ble_eq_true rfl) (fun K hk hR => ?_)
  unfold F_X1_shiftValues at hF
  refine r_iconst (v := 0) hk (dtX1_shiftValues_0 0 (0, .iconst 0, 1) rfl) (by decide) ?_
  refine r_istore hk [(4, .int 0), (0, .ref (xad X (1, i0, 0, 0))), (1, .int p1), (2, .int p2), (3, .int p3)] (dtX1_shiftValues_0 1 (1, .istore 4, 2) rfl) (by decide) rfl ?_
  have e52_2 : ∀ (m1 : Mem), C_X1_shiftValues_52 m1 = some (rv, mE) → G X K 52 [] [] m1 := by
    intro m1 hF
    unfold C_X1_shiftValues_52 at hF
    cases Option.some.inj hF
    exact hR _ _ (dtX1_shiftValues_0 27 (52, .return_, 1) rfl)
  have l6 : ∀ (n6 : Nat) (v3 : Int32) (m4 : Mem), L_X1_shiftValues_3 i0 p1 p2 p3 n6 v3 m4 = some (rv, mE) → G X K 3 [(0, .ref (xad X (1, i0, 0, 0))), (1, .int p1), (2, .int p2), (3, .int p3), (4, .int v3)] [] m4 := by
    intro n6
    induction n6 with
    | zero => intro v3 m4 hF; exact nomatch (show (none : Option (Unit × Mem)) = some (rv, mE) from hF)
    | succ n6 ih6 =>
      intro v3 m4 hF
      rw [L_X1_shiftValues_3] at hF
      refine r_iload hk 4 (dtX1_shiftValues_0 2 (3, .iload 4, 2) rfl) rfl ?_
      refine r_aload_n hk 0 (dtX1_shiftValues_0 3 (5, .aload_n 0, 1) rfl) rfl ?_
      refine r_getI hk (k := 3) (fsX1 X i0) cbX1 (by decide) fl_X1_29 (in_st i0 hi0 0 (by decide)) (fun _ => rfl) (fun _ _ => rfl) hF (dtX1_shiftValues_0 4 (6, .getfield 29, 3) rfl) (fun v7 hF => ?_)
      refine r_icmp_ge hk 52 hF (dtX1_shiftValues_0 5 (9, .if_icmp .ge 43, 3) rfl) (by decide) (fun hF => ?_) (fun hF => ?_)
      · exact r_sub hk [] rfl (e52_2 m4 hF)
      · refine r_aload_n hk 0 (dtX1_shiftValues_0 6 (12, .aload_n 0, 1) rfl) rfl ?_
        refine r_getR hk (k := 1) (fsX1 X i0) cbX1 (by decide) fl_X1_17 (in_st i0 hi0 0 (by decide)) (fun _ => rfl) (fun _ _ => rfl) (dtX1_shiftValues_0 7 (13, .getfield 17, 3) rfl) ?_
        refine r_iload hk 4 (dtX1_shiftValues_0 8 (16, .iload 4, 2) rfl) rfl ?_
        refine r_iald hk (in_st i0 hi0 2 (by decide)) (fun _ => rfl) hF (dtX1_shiftValues_0 9 (18, .iaload, 1) rfl) (fun v8 hF => ?_)
        refine r_iload_n hk 1 (dtX1_shiftValues_0 10 (19, .iload_n 1, 1) rfl) rfl ?_
        have j46_10 : ∀ (m9 : Mem), (J_X1_shiftValues_46 v3 (fun w0 w1 => L_X1_shiftValues_3 i0 p1 p2 p3 n6 w0 w1)) m9 = some (rv, mE) → G X K 46 [(0, .ref (xad X (1, i0, 0, 0))), (1, .int p1), (2, .int p2), (3, .int p3), (4, .int v3)] [] m9 := by
          intro m9 hF
          unfold J_X1_shiftValues_46 at hF
          refine r_iinc hk 1 4 (fun v11 => [(4, .int v11), (0, .ref (xad X (1, i0, 0, 0))), (1, .int p1), (2, .int p2), (3, .int p3)]) hF (dtX1_shiftValues_0 25 (46, .iinc 4 1, 3) rfl) rfl (by decide) (by decide) (fun _ => rfl) (fun v11 hF => ?_)
          refine r_goto hk 3 (dtX1_shiftValues_0 26 (49, .goto (-46), 3) rfl) (by decide) ?_
          exact r_sub hk [1, 2, 3, 4, 0] rfl (ih6 v11 m9 hF)
        refine r_icmp_ne hk 46 hF (dtX1_shiftValues_0 11 (20, .if_icmp .ne 26, 3) rfl) (by decide) (fun hF => ?_) (fun hF => ?_)
        · exact r_sub hk [0, 1, 2, 3, 4] rfl (j46_10 m4 hF)
        · refine r_aload_n hk 0 (dtX1_shiftValues_0 12 (23, .aload_n 0, 1) rfl) rfl ?_
          refine r_iload hk 4 (dtX1_shiftValues_0 13 (24, .iload 4, 2) rfl) rfl ?_
          refine r_iload_n hk 3 (dtX1_shiftValues_0 14 (26, .iload_n 3, 1) rfl) rfl ?_
          refine r_aload_n hk 0 (dtX1_shiftValues_0 15 (27, .aload_n 0, 1) rfl) rfl ?_
          refine r_iload hk 4 (dtX1_shiftValues_0 16 (28, .iload 4, 2) rfl) rfl ?_
          refine r_iload_n hk 2 (dtX1_shiftValues_0 17 (30, .iload_n 2, 1) rfl) rfl ?_
          refine r_callI hF (fun v12 h H locs ls hH hS hl => run_V (y := yX1_valueAt) hk (in_st i0 hi0 0 (by decide)) rfl rfl (c_X1_valueAt (kl K) hk.2.2.2.2.2.2.2.2.2.2.2 X i0 hi0 v3 p2 m4 v12 h) lk_X1_40 me_X1_valueAt yf_X1_valueAt (by decide) (by decide) rfl (Nat.le_of_ble_eq_true rfl) rfl (dtX1_shiftValues_0 18 (31, .invokevirtual 40, 3) rfl) hH hS hl) (fun v12 hF => ?_)
          refine r_callVm hF (fun w m13 h H locs ls hH hS hl => run_V (y := yX1_setValue) hk (in_st i0 hi0 0 (by decide)) rfl rfl (c_X1_setValue (kl K) hk.2.2.2.2.2.2.2.2.2.2.2 X i0 hi0 v3 p3 v12 m4 w m13 h) lk_X1_44 me_X1_setValue yf_X1_setValue (by decide) (by decide) rfl (Nat.le_of_ble_eq_true rfl) rfl (dtX1_shiftValues_0 19 (34, .invokevirtual 44, 3) rfl) hH hS hl) (fun _ m13 hF => ?_)
          refine r_aload_n hk 0 (dtX1_shiftValues_0 20 (37, .aload_n 0, 1) rfl) rfl ?_
          refine r_iload hk 4 (dtX1_shiftValues_0 21 (38, .iload 4, 2) rfl) rfl ?_
          refine r_iload_n hk 2 (dtX1_shiftValues_0 22 (40, .iload_n 2, 1) rfl) rfl ?_
          refine r_ldc hk cn_X1_39 (dtX1_shiftValues_0 23 (41, .ldc 39, 2) rfl) ?_
          refine r_callVm hF (fun w m14 h H locs ls hH hS hl => run_V (y := yX1_setValue) hk (in_st i0 hi0 0 (by decide)) rfl rfl (c_X1_setValue (kl K) hk.2.2.2.2.2.2.2.2.2.2.2 X i0 hi0 v3 p2 (-1000000) m13 w m14 h) lk_X1_44 me_X1_setValue yf_X1_setValue (by decide) (by decide) rfl (Nat.le_of_ble_eq_true rfl) rfl (dtX1_shiftValues_0 24 (43, .invokevirtual 44, 3) rfl) hH hS hl) (fun _ m14 hF => ?_)
          exact r_sub hk [0, 1, 2, 3, 4] rfl (j46_10 m14 hF)
  exact r_sub hk [1, 2, 3, 4, 0] rfl (l6 fu 0 m0 hF)
set_option maxHeartbeats 4000000 in
set_option maxRecDepth 100000 in
theorem c_X2_makeSpare (l : Launch) (hlf : l.stackTraces = false) (X : XW) (i0 : Nat) (hi0 : i0 < 7) (j0 : Nat) (hj0 : j0 < 3) (p1 : Int32) (m0 : Mem) (rv : Unit) (mE : Mem) (hF : F_X2_makeSpare i0 j0 p1 m0 = some (rv, mE)) : MX X l yX2_makeSpare cX2_makeSpare 2 none 1 [.ref (xad X (2, i0, j0, 0)), .int p1] m0 (QV X mE) := by
  refine startV hlf (by decide +kernel) rfl [(0, .ref (xad X (2, i0, j0, 0))), (1, .int p1)] rfl (Nat.le_of_ble_eq_true rfl) (fun K hk hR => ?_)
  unfold F_X2_makeSpare at hF
  refine r_aload_n hk 0 (dtX2_makeSpare_0 0 (0, .aload_n 0, 1) rfl) rfl ?_
  refine r_iload_n hk 1 (dtX2_makeSpare_0 1 (1, .iload_n 1, 1) rfl) rfl ?_
  refine r_iconst (v := (-1)) hk (dtX2_makeSpare_0 2 (2, .iconst (-1), 1) rfl) (by decide) ?_
  refine r_iconst (v := 0) hk (dtX2_makeSpare_0 3 (3, .iconst 0, 1) rfl) (by decide) ?_
  refine r_iconst (v := 0) hk (dtX2_makeSpare_0 4 (4, .iconst 0, 1) rfl) (by decide) ?_
  refine r_callVm hF (fun w m1 h H locs ls hH hS hl => run_V (y := yX2_define) hk (in_tn i0 hi0 j0 hj0 0 (by decide)) rfl rfl (c_X2_define (kl K) hk.2.2.2.2.2.2.2.2.2.2.2 X i0 hi0 j0 hj0 p1 (-1) 0 0 m0 w m1 h) lk_X2_29 me_X2_define yf_X2_define (by decide) (by decide) rfl (Nat.le_of_ble_eq_true rfl) rfl (dtX2_makeSpare_0 5 (5, .invokevirtual 29, 3) rfl) hH hS hl) (fun _ m1 hF => ?_)
  cases Option.some.inj hF
  exact hR _ _ (dtX2_makeSpare_0 6 (8, .return_, 1) rfl)
set_option maxHeartbeats 4000000 in
set_option maxRecDepth 100000 in
theorem c_X3_forget (l : Launch) (hlf : l.stackTraces = false) (X : XW)  (p1 : Int32) (p2 : Int32) (m0 : Mem) (rv : Int32 ⊕ Nat) (mE : Mem) (hF : F_X3_forget p1 p2 m0 = some (rv, mE)) : MT X l yX3_forget cX3_forget 6 (some .int) 8 [.ref (xad X (0, 0, 0, 0)), .int p1, .int p2] m0 rv mE (QTI X rv mE) := by
  refine startTI hlf (by decide +kernel) rfl [(0, .ref (xad X (0, 0, 0, 0))), (1, .int p1), (2, .int p2)] rfl (Nat.le_of_ble_eq_true rfl) (fun K hk hR hX => ?_)
  unfold F_X3_forget at hF
  refine r_iload_n hk 1 (dtX3_forget_0 0 (0, .iload_n 1, 1) rfl) rfl ?_
  refine r_callI hF (fun v1 h H locs ls hH hS hl => run_S hk (c_X3_isTenant (kl K) hk.2.2.2.2.2.2.2.2.2.2.2 X  p1 m0 v1 h) lk_X3_34 me_X3_isTenant yf_X3_isTenant (by decide) (by decide) rfl (Nat.le_of_ble_eq_true rfl) rfl (dtX3_forget_0 1 (1, .invokestatic 34, 3) rfl) hH hS hl) (fun v1 hF => ?_)
  have j19_3 : ∀ (v2 : Int32), (J_X3_forget_19 p1 p2 m0) v2 = some (rv, mE) → G X K 19 [(0, .ref (xad X (0, 0, 0, 0))), (1, .int p1), (2, .int p2)] [.int v2] m0 := by
    intro v2 hF
    unfold J_X3_forget_19 at hF
    refine r_callVts hk hF (fun c h => by cases Option.some.inj h; exact hX c rfl) (fun R h hf H locs ls hH hS hl => runT_S hk (c_X3_require (kl K) hk.2.2.2.2.2.2.2.2.2.2.2 X  v2 m0 R h) lk_X3_41 me_X3_require yf_X3_require (by decide) (by decide) rfl (Nat.le_of_ble_eq_true rfl) rfl (dtX3_forget_0 9 (19, .invokestatic 41, 3) rfl) hf hH hS hl) (fun _ hF => ?_)
    refine r_aload_n hk 0 (dtX3_forget_0 10 (22, .aload_n 0, 1) rfl) rfl ?_
    refine r_callRm (fun q => xad X (1, q, 0, 0)) hF (fun q4 m5 h H locs ls hH hS hl => run_V (y := yX3_save) hk (in_main 0 (by decide)) rfl rfl (c_X3_save (kl K) hk.2.2.2.2.2.2.2.2.2.2.2 X   m0 q4 m5 h) lk_X3_45 me_X3_save yf_X3_save (by decide) (by decide) rfl (Nat.le_of_ble_eq_true rfl) rfl (dtX3_forget_0 11 (23, .invokevirtual 45, 3) rfl) hH hS hl) (fun q4 m5 _ hF => ?_)
    obtain ⟨hq4, hF⟩ := bp_some hF
    refine r_pop hk (dtX3_forget_0 12 (26, .pop, 1) rfl) rfl ?_
    refine r_aload_n hk 0 (dtX3_forget_0 13 (27, .aload_n 0, 1) rfl) rfl ?_
    refine r_getS hk fl_X3_30 hF (dtX3_forget_0 14 (28, .getfield 30, 3) rfl) (fun q6 hq6 hF => ?_)
    refine r_getR hk (k := 0) (fsX1 X q6) cbX1 (by decide) fl_X3_49 (in_st q6 hq6 0 (by decide)) (fun _ => rfl) (fun _ _ => rfl) (dtX3_forget_0 15 (31, .getfield 49, 3) rfl) ?_
    refine r_iload_n hk 1 (dtX3_forget_0 16 (34, .iload_n 1, 1) rfl) rfl ?_
    refine r_aldT hk hq6 hF (dtX3_forget_0 17 (35, .aaload, 1) rfl) (fun q7 hq7 hF => ?_)
    refine r_astore_n hk [(3, .ref (xad X (2, q6, q7, 0))), (0, .ref (xad X (0, 0, 0, 0))), (1, .int p1), (2, .int p2)] (dtX3_forget_0 18 (36, .astore_n 3, 1) rfl) (by decide) rfl ?_
    refine r_aload_n hk 0 (dtX3_forget_0 19 (37, .aload_n 3, 1) rfl) rfl ?_
    refine r_iload_n hk 3 (dtX3_forget_0 20 (38, .iload_n 2, 1) rfl) rfl ?_
    refine r_callI hF (fun v8 h H locs ls hH hS hl => run_V (y := yX2_columnOf) hk (in_tn q6 hq6 q7 hq7 0 (by decide)) rfl rfl (c_X2_columnOf (kl K) hk.2.2.2.2.2.2.2.2.2.2.2 X q6 hq6 q7 hq7 p2 m5 v8 h) lk_X3_67 me_X2_columnOf yf_X2_columnOf (by decide) (by decide) rfl (Nat.le_of_ble_eq_true rfl) rfl (dtX3_forget_0 21 (39, .invokevirtual 67, 3) rfl) hH hS hl) (fun v8 hF => ?_)
    refine r_istore hk [(4, .int v8), (3, .ref (xad X (2, q6, q7, 0))), (0, .ref (xad X (0, 0, 0, 0))), (1, .int p1), (2, .int p2)] (dtX3_forget_0 22 (42, .istore 4, 2) rfl) (by decide) rfl ?_
    refine r_iload hk 0 (dtX3_forget_0 23 (44, .iload 4, 2) rfl) rfl ?_
    refine r_iconst (v := (-1)) hk (dtX3_forget_0 24 (46, .iconst (-1), 1) rfl) (by decide) ?_
    refine r_icmp_ne hk 56 hF (dtX3_forget_0 25 (47, .if_icmp .ne 9, 3) rfl) (by decide) (fun hF => ?_) (fun hF => ?_)
    · refine r_aload_n hk 2 (dtX3_forget_0 30 (56, .aload_n 0, 1) rfl) rfl ?_
      refine r_getS hk fl_X3_30 hF (dtX3_forget_0 31 (57, .getfield 30, 3) rfl) (fun q9 hq9 hF => ?_)
      refine r_iload_n hk 3 (dtX3_forget_0 32 (60, .iload_n 1, 1) rfl) rfl ?_
      refine r_iload hk 0 (dtX3_forget_0 33 (61, .iload 4, 2) rfl) rfl ?_
      refine r_callI hF (fun v10 h H locs ls hH hS hl => run_V (y := yX1_rowsWithValue) hk (in_st q9 hq9 0 (by decide)) rfl rfl (c_X1_rowsWithValue (kl K) hk.2.2.2.2.2.2.2.2.2.2.2 X q9 hq9 p1 v8 m5 v10 h) lk_X3_74 me_X1_rowsWithValue yf_X1_rowsWithValue (by decide) (by decide) rfl (Nat.le_of_ble_eq_true rfl) rfl (dtX3_forget_0 34 (63, .invokevirtual 74, 3) rfl) hH hS hl) (fun v10 hF => ?_)
      refine r_istore hk [(5, .int v10), (4, .int v8), (3, .ref (xad X (2, q6, q7, 0))), (0, .ref (xad X (0, 0, 0, 0))), (1, .int p1), (2, .int p2)] (dtX3_forget_0 35 (66, .istore 5, 2) rfl) (by decide) rfl ?_
      refine r_aload_n hk 3 (dtX3_forget_0 36 (68, .aload_n 0, 1) rfl) rfl ?_
      refine r_getS hk fl_X3_30 hF (dtX3_forget_0 37 (69, .getfield 30, 3) rfl) (fun q11 hq11 hF => ?_)
      refine r_iload_n hk 4 (dtX3_forget_0 38 (72, .iload_n 1, 1) rfl) rfl ?_
      refine r_iload hk 1 (dtX3_forget_0 39 (73, .iload 4, 2) rfl) rfl ?_
      refine r_iconst (v := (-1)) hk (dtX3_forget_0 40 (75, .iconst (-1), 1) rfl) (by decide) ?_
      refine r_callVm hF (fun w m12 h H locs ls hH hS hl => run_V (y := yX1_shiftValues) hk (in_st q11 hq11 0 (by decide)) rfl rfl (c_X1_shiftValues (kl K) hk.2.2.2.2.2.2.2.2.2.2.2 X q11 hq11 p1 v8 (-1) m5 w m12 h) lk_X3_78 me_X1_shiftValues yf_X1_shiftValues (by decide) (by decide) rfl (Nat.le_of_ble_eq_true rfl) rfl (dtX3_forget_0 41 (76, .invokevirtual 78, 3) rfl) hH hS hl) (fun _ m12 hF => ?_)
      refine r_aload_n hk 2 (dtX3_forget_0 42 (79, .aload_n 3, 1) rfl) rfl ?_
      refine r_iload hk 1 (dtX3_forget_0 43 (80, .iload 4, 2) rfl) rfl ?_
      refine r_callVm hF (fun w m13 h H locs ls hH hS hl => run_V (y := yX2_makeSpare) hk (in_tn q6 hq6 q7 hq7 0 (by decide)) rfl rfl (c_X2_makeSpare (kl K) hk.2.2.2.2.2.2.2.2.2.2.2 X q6 hq6 q7 hq7 v8 m12 w m13 h) lk_X3_82 me_X2_makeSpare yf_X2_makeSpare (by decide) (by decide) rfl (Nat.le_of_ble_eq_true rfl) rfl (dtX3_forget_0 44 (82, .invokevirtual 82, 3) rfl) hH hS hl) (fun _ m13 hF => ?_)
      refine r_iload hk 0 (dtX3_forget_0 45 (85, .iload 5, 2) rfl) rfl ?_
      cases Option.some.inj hF
      exact hR v10 rfl _ _ (dtX3_forget_0 46 (87, .ireturn, 1) rfl)
    · refine r_aload_n hk 1 (dtX3_forget_0 26 (50, .aload_n 3, 1) rfl) rfl ?_
      refine r_iconst (v := 5) hk (dtX3_forget_0 27 (51, .iconst 5, 1) rfl) (by decide) ?_
      refine r_callIm hF (fun v14 m15 h H locs ls hH hS hl => run_V (y := yX2_refuse) hk (in_tn q6 hq6 q7 hq7 0 (by decide)) rfl rfl (c_X2_refuse (kl K) hk.2.2.2.2.2.2.2.2.2.2.2 X q6 hq6 q7 hq7 5 m5 v14 m15 h) lk_X3_63 me_X2_refuse yf_X2_refuse (by decide) (by decide) rfl (Nat.le_of_ble_eq_true rfl) rfl (dtX3_forget_0 28 (52, .invokevirtual 63, 3) rfl) hH hS hl) (fun v14 m15 hF => ?_)
      cases Option.some.inj hF
      exact hR v14 rfl _ _ (dtX3_forget_0 29 (55, .ireturn, 1) rfl)
  have j18_16 : (J_X3_forget_18 p1 p2 m0) = some (rv, mE) → G X K 18 [(0, .ref (xad X (0, 0, 0, 0))), (1, .int p1), (2, .int p2)] [] m0 := by
    intro hF
    unfold J_X3_forget_18 at hF
    refine r_iconst (v := 0) hk (dtX3_forget_0 8 (18, .iconst 0, 1) rfl) (by decide) ?_
    exact r_sub hk [0, 1, 2] rfl (j19_3 0 hF)
  refine r_if_eq hk 18 hF (dtX3_forget_0 2 (4, .ifCond .eq 14, 3) rfl) (by decide) (fun hF => ?_) (fun hF => ?_)
  · exact r_sub hk [0, 1, 2] rfl (j18_16 hF)
  · refine r_iload_n hk 2 (dtX3_forget_0 3 (7, .iload_n 2, 1) rfl) rfl ?_
    refine r_callI hF (fun v17 h H locs ls hH hS hl => run_S hk (c_X3_isLetter (kl K) hk.2.2.2.2.2.2.2.2.2.2.2 X  p2 m0 v17 h) lk_X3_38 me_X3_isLetter yf_X3_isLetter (by decide) (by decide) rfl (Nat.le_of_ble_eq_true rfl) rfl (dtX3_forget_0 4 (8, .invokestatic 38, 3) rfl) hH hS hl) (fun v17 hF => ?_)
    refine r_if_eq hk 18 hF (dtX3_forget_0 5 (11, .ifCond .eq 7, 3) rfl) (by decide) (fun hF => ?_) (fun hF => ?_)
    · exact r_sub hk [0, 1, 2] rfl (j18_16 hF)
    · refine r_iconst (v := 1) hk (dtX3_forget_0 6 (14, .iconst 1, 1) rfl) (by decide) ?_
      refine r_goto hk 19 (dtX3_forget_0 7 (15, .goto 4, 3) rfl) (by decide) ?_
      exact r_sub hk [0, 1, 2] rfl (j19_3 1 hF)
set_option maxHeartbeats 4000000 in
set_option maxRecDepth 100000 in
theorem c_X3_pack (l : Launch) (hlf : l.stackTraces = false) (X : XW)  (p1 : Int32) (m0 : Mem) (rv : Int32 ⊕ Nat) (mE : Mem) (hF : F_X3_pack p1 m0 = some (rv, mE)) : MT X l yX3_pack cX3_pack 6 (some .int) 8 [.ref (xad X (0, 0, 0, 0)), .int p1] m0 rv mE (QTI X rv mE) := by
  refine startTI hlf (by decide +kernel) rfl [(0, .ref (xad X (0, 0, 0, 0))), (1, .int p1)] rfl (Nat.le_of_ble_eq_true rfl) (fun K hk hR hX => ?_)
  unfold F_X3_pack at hF
  refine r_iload_n hk 1 (dtX3_pack_0 0 (0, .iload_n 1, 1) rfl) rfl ?_
  refine r_callI hF (fun v1 h H locs ls hH hS hl => run_S hk (c_X3_isTenant (kl K) hk.2.2.2.2.2.2.2.2.2.2.2 X  p1 m0 v1 h) lk_X3_34 me_X3_isTenant yf_X3_isTenant (by decide) (by decide) rfl (Nat.le_of_ble_eq_true rfl) rfl (dtX3_pack_0 1 (1, .invokestatic 34, 3) rfl) hH hS hl) (fun v1 hF => ?_)
  refine r_callVts hk hF (fun c h => by cases Option.some.inj h; exact hX c rfl) (fun R h hf H locs ls hH hS hl => runT_S hk (c_X3_require (kl K) hk.2.2.2.2.2.2.2.2.2.2.2 X  v1 m0 R h) lk_X3_41 me_X3_require yf_X3_require (by decide) (by decide) rfl (Nat.le_of_ble_eq_true rfl) rfl (dtX3_pack_0 2 (4, .invokestatic 41, 3) rfl) hf hH hS hl) (fun _ hF => ?_)
  refine r_aload_n hk 0 (dtX3_pack_0 3 (7, .aload_n 0, 1) rfl) rfl ?_
  refine r_callRm (fun q => xad X (1, q, 0, 0)) hF (fun q2 m3 h H locs ls hH hS hl => run_V (y := yX3_save) hk (in_main 0 (by decide)) rfl rfl (c_X3_save (kl K) hk.2.2.2.2.2.2.2.2.2.2.2 X   m0 q2 m3 h) lk_X3_45 me_X3_save yf_X3_save (by decide) (by decide) rfl (Nat.le_of_ble_eq_true rfl) rfl (dtX3_pack_0 4 (8, .invokevirtual 45, 3) rfl) hH hS hl) (fun q2 m3 _ hF => ?_)
  obtain ⟨hq2, hF⟩ := bp_some hF
  refine r_pop hk (dtX3_pack_0 5 (11, .pop, 1) rfl) rfl ?_
  refine r_aload_n hk 0 (dtX3_pack_0 6 (12, .aload_n 0, 1) rfl) rfl ?_
  refine r_getS hk fl_X3_30 hF (dtX3_pack_0 7 (13, .getfield 30, 3) rfl) (fun q4 hq4 hF => ?_)
  refine r_getR hk (k := 0) (fsX1 X q4) cbX1 (by decide) fl_X3_49 (in_st q4 hq4 0 (by decide)) (fun _ => rfl) (fun _ _ => rfl) (dtX3_pack_0 8 (16, .getfield 49, 3) rfl) ?_
  refine r_iload_n hk 1 (dtX3_pack_0 9 (19, .iload_n 1, 1) rfl) rfl ?_
  refine r_aldT hk hq4 hF (dtX3_pack_0 10 (20, .aaload, 1) rfl) (fun q5 hq5 hF => ?_)
  refine r_astore_n hk [(2, .ref (xad X (2, q4, q5, 0))), (0, .ref (xad X (0, 0, 0, 0))), (1, .int p1)] (dtX3_pack_0 11 (21, .astore_n 2, 1) rfl) (by decide) rfl ?_
  refine r_iconst (v := 0) hk (dtX3_pack_0 12 (22, .iconst 0, 1) rfl) (by decide) ?_
  refine r_istore_n hk [(3, .int 0), (2, .ref (xad X (2, q4, q5, 0))), (0, .ref (xad X (0, 0, 0, 0))), (1, .int p1)] (dtX3_pack_0 13 (23, .istore_n 3, 1) rfl) (by decide) rfl ?_
  refine r_iconst (v := 0) hk (dtX3_pack_0 14 (24, .iconst 0, 1) rfl) (by decide) ?_
  refine r_istore hk [(4, .int 0), (3, .int 0), (2, .ref (xad X (2, q4, q5, 0))), (0, .ref (xad X (0, 0, 0, 0))), (1, .int p1)] (dtX3_pack_0 15 (25, .istore 4, 2) rfl) (by decide) rfl ?_
  refine r_iconst (v := 0) hk (dtX3_pack_0 16 (27, .iconst 0, 1) rfl) (by decide) ?_
  refine r_istore hk [(5, .int 0), (4, .int 0), (3, .int 0), (2, .ref (xad X (2, q4, q5, 0))), (0, .ref (xad X (0, 0, 0, 0))), (1, .int p1)] (dtX3_pack_0 17 (28, .istore 5, 2) rfl) (by decide) rfl ?_
  have e109_8 : ∀ (v6 : Int32) (m7 : Mem), C_X3_pack_109 v6 m7 = some (rv, mE) → G X K 109 [(4, .int v6)] [] m7 := by
    intro v6 m7 hF
    unfold C_X3_pack_109 at hF
    refine r_iload hk 0 (dtX3_pack_0 58 (109, .iload 4, 2) rfl) rfl ?_
    cases Option.some.inj hF
    exact hR v6 rfl _ _ (dtX3_pack_0 59 (111, .ireturn, 1) rfl)
  have l14 : ∀ (n14 : Nat) (v9 : Int32) (v10 : Int32) (v11 : Int32) (m12 : Mem), L_X3_pack_30 p1 q4 q5 n14 v9 v10 v11 m12 = some (rv, mE) → G X K 30 [(0, .ref (xad X (0, 0, 0, 0))), (1, .int p1), (2, .ref (xad X (2, q4, q5, 0))), (3, .int v9), (4, .int v10), (5, .int v11)] [] m12 := by
    intro n14
    induction n14 with
    | zero => intro v9 v10 v11 m12 hF; exact nomatch (show (none : Option ((Int32 ⊕ Nat) × Mem)) = some (rv, mE) from hF)
    | succ n14 ih14 =>
      intro v9 v10 v11 m12 hF
      rw [L_X3_pack_30] at hF
      refine r_iload hk 5 (dtX3_pack_0 18 (30, .iload 5, 2) rfl) rfl ?_
      refine r_bipush (v := 8) hk (dtX3_pack_0 19 (32, .bipush 8, 2) rfl) (by decide) ?_
      refine r_icmp_ge hk 109 hF (dtX3_pack_0 20 (34, .if_icmp .ge 75, 3) rfl) (by decide) (fun hF => ?_) (fun hF => ?_)
      · exact r_sub hk [4] rfl (e109_8 v10 m12 hF)
      · refine r_aload_n hk 2 (dtX3_pack_0 21 (37, .aload_n 2, 1) rfl) rfl ?_
        refine r_getR hk (k := 0) (fsX2 X q4 q5) cbX2 (by decide) fl_X3_86 (in_tn q4 hq4 q5 hq5 0 (by decide)) (fun _ => rfl) (fun _ _ => rfl) (dtX3_pack_0 22 (38, .getfield 86, 3) rfl) ?_
        refine r_iload hk 5 (dtX3_pack_0 23 (41, .iload 5, 2) rfl) rfl ?_
        refine r_iald hk (in_tn q4 hq4 q5 hq5 1 (by decide)) (fun _ => rfl) hF (dtX3_pack_0 24 (43, .iaload, 1) rfl) (fun v15 hF => ?_)
        refine r_iconst (v := (-1)) hk (dtX3_pack_0 25 (44, .iconst (-1), 1) rfl) (by decide) ?_
        have j103_19 : ∀ (v16 : Int32) (v17 : Int32) (m18 : Mem), (J_X3_pack_103 v11 (fun w0 w1 w2 w3 => L_X3_pack_30 p1 q4 q5 n14 w0 w1 w2 w3)) v16 v17 m18 = some (rv, mE) → G X K 103 [(0, .ref (xad X (0, 0, 0, 0))), (1, .int p1), (2, .ref (xad X (2, q4, q5, 0))), (3, .int v16), (4, .int v17), (5, .int v11)] [] m18 := by
          intro v16 v17 m18 hF
          unfold J_X3_pack_103 at hF
          refine r_iinc hk 1 5 (fun v20 => [(5, .int v20), (0, .ref (xad X (0, 0, 0, 0))), (1, .int p1), (2, .ref (xad X (2, q4, q5, 0))), (3, .int v16), (4, .int v17)]) hF (dtX3_pack_0 56 (103, .iinc 5 1, 3) rfl) rfl (by decide) (by decide) (fun _ => rfl) (fun v20 hF => ?_)
          refine r_goto hk 30 (dtX3_pack_0 57 (106, .goto (-76), 3) rfl) (by decide) ?_
          exact r_sub hk [1, 2, 3, 4, 5, 0] rfl (ih14 v16 v17 v20 m18 hF)
        refine r_icmp_eq hk 103 hF (dtX3_pack_0 26 (45, .if_icmp .eq 58, 3) rfl) (by decide) (fun hF => ?_) (fun hF => ?_)
        · exact r_sub hk [0, 1, 2, 3, 4, 5] rfl (j103_19 v9 v10 m12 hF)
        · refine r_iload_n hk 3 (dtX3_pack_0 27 (48, .iload_n 3, 1) rfl) rfl ?_
          refine r_iload hk 5 (dtX3_pack_0 28 (49, .iload 5, 2) rfl) rfl ?_
          have j100_23 : ∀ (v21 : Int32) (m22 : Mem), (J_X3_pack_100 v9 v11 (fun w0 w1 w2 w3 => L_X3_pack_30 p1 q4 q5 n14 w0 w1 w2 w3)) v21 m22 = some (rv, mE) → G X K 100 [(0, .ref (xad X (0, 0, 0, 0))), (1, .int p1), (2, .ref (xad X (2, q4, q5, 0))), (3, .int v9), (4, .int v21), (5, .int v11)] [] m22 := by
            intro v21 m22 hF
            unfold J_X3_pack_100 at hF
            refine r_iinc hk 1 3 (fun v24 => [(3, .int v24), (0, .ref (xad X (0, 0, 0, 0))), (1, .int p1), (2, .ref (xad X (2, q4, q5, 0))), (4, .int v21), (5, .int v11)]) hF (dtX3_pack_0 55 (100, .iinc 3 1, 3) rfl) rfl (by decide) (by decide) (fun _ => rfl) (fun v24 hF => ?_)
            exact r_sub hk [1, 2, 3, 0, 4, 5] rfl (j103_19 v24 v21 m22 hF)
          refine r_icmp_ge hk 100 hF (dtX3_pack_0 29 (51, .if_icmp .ge 49, 3) rfl) (by decide) (fun hF => ?_) (fun hF => ?_)
          · exact r_sub hk [0, 1, 2, 3, 4, 5] rfl (j100_23 v10 m12 hF)
          · refine r_aload_n hk 2 (dtX3_pack_0 30 (54, .aload_n 2, 1) rfl) rfl ?_
            refine r_iload_n hk 3 (dtX3_pack_0 31 (55, .iload_n 3, 1) rfl) rfl ?_
            refine r_aload_n hk 2 (dtX3_pack_0 32 (56, .aload_n 2, 1) rfl) rfl ?_
            refine r_getR hk (k := 0) (fsX2 X q4 q5) cbX2 (by decide) fl_X3_86 (in_tn q4 hq4 q5 hq5 0 (by decide)) (fun _ => rfl) (fun _ _ => rfl) (dtX3_pack_0 33 (57, .getfield 86, 3) rfl) ?_
            refine r_iload hk 5 (dtX3_pack_0 34 (60, .iload 5, 2) rfl) rfl ?_
            refine r_iald hk (in_tn q4 hq4 q5 hq5 1 (by decide)) (fun _ => rfl) hF (dtX3_pack_0 35 (62, .iaload, 1) rfl) (fun v25 hF => ?_)
            refine r_aload_n hk 2 (dtX3_pack_0 36 (63, .aload_n 2, 1) rfl) rfl ?_
            refine r_getR hk (k := 1) (fsX2 X q4 q5) cbX2 (by decide) fl_X3_89 (in_tn q4 hq4 q5 hq5 0 (by decide)) (fun _ => rfl) (fun _ _ => rfl) (dtX3_pack_0 37 (64, .getfield 89, 3) rfl) ?_
            refine r_iload hk 5 (dtX3_pack_0 38 (67, .iload 5, 2) rfl) rfl ?_
            refine r_iald hk (in_tn q4 hq4 q5 hq5 2 (by decide)) (fun _ => rfl) hF (dtX3_pack_0 39 (69, .iaload, 1) rfl) (fun v26 hF => ?_)
            refine r_aload_n hk 2 (dtX3_pack_0 40 (70, .aload_n 2, 1) rfl) rfl ?_
            refine r_getR hk (k := 2) (fsX2 X q4 q5) cbX2 (by decide) fl_X3_92 (in_tn q4 hq4 q5 hq5 0 (by decide)) (fun _ => rfl) (fun _ _ => rfl) (dtX3_pack_0 41 (71, .getfield 92, 3) rfl) ?_
            refine r_iload hk 5 (dtX3_pack_0 42 (74, .iload 5, 2) rfl) rfl ?_
            refine r_zald hk (in_tn q4 hq4 q5 hq5 3 (by decide)) (fun _ => rfl) hF (dtX3_pack_0 43 (76, .baload, 1) rfl) (fun v27 hF => ?_)
            refine r_callVm hF (fun w m28 h H locs ls hH hS hl => run_V (y := yX2_define) hk (in_tn q4 hq4 q5 hq5 0 (by decide)) rfl rfl (c_X2_define (kl K) hk.2.2.2.2.2.2.2.2.2.2.2 X q4 hq4 q5 hq5 v9 v25 v26 v27 m12 w m28 h) lk_X3_70 me_X2_define yf_X2_define (by decide) (by decide) rfl (Nat.le_of_ble_eq_true rfl) rfl (dtX3_pack_0 44 (77, .invokevirtual 70, 3) rfl) hH hS hl) (fun _ m28 hF => ?_)
            refine r_aload_n hk 2 (dtX3_pack_0 45 (80, .aload_n 2, 1) rfl) rfl ?_
            refine r_iload hk 5 (dtX3_pack_0 46 (81, .iload 5, 2) rfl) rfl ?_
            refine r_callVm hF (fun w m29 h H locs ls hH hS hl => run_V (y := yX2_makeSpare) hk (in_tn q4 hq4 q5 hq5 0 (by decide)) rfl rfl (c_X2_makeSpare (kl K) hk.2.2.2.2.2.2.2.2.2.2.2 X q4 hq4 q5 hq5 v11 m28 w m29 h) lk_X3_82 me_X2_makeSpare yf_X2_makeSpare (by decide) (by decide) rfl (Nat.le_of_ble_eq_true rfl) rfl (dtX3_pack_0 47 (83, .invokevirtual 82, 3) rfl) hH hS hl) (fun _ m29 hF => ?_)
            refine r_aload_n hk 0 (dtX3_pack_0 48 (86, .aload_n 0, 1) rfl) rfl ?_
            refine r_getS hk fl_X3_30 hF (dtX3_pack_0 49 (87, .getfield 30, 3) rfl) (fun q30 hq30 hF => ?_)
            refine r_iload_n hk 1 (dtX3_pack_0 50 (90, .iload_n 1, 1) rfl) rfl ?_
            refine r_iload hk 5 (dtX3_pack_0 51 (91, .iload 5, 2) rfl) rfl ?_
            refine r_iload_n hk 3 (dtX3_pack_0 52 (93, .iload_n 3, 1) rfl) rfl ?_
            refine r_callVm hF (fun w m31 h H locs ls hH hS hl => run_V (y := yX1_shiftValues) hk (in_st q30 hq30 0 (by decide)) rfl rfl (c_X1_shiftValues (kl K) hk.2.2.2.2.2.2.2.2.2.2.2 X q30 hq30 p1 v11 v9 m29 w m31 h) lk_X3_78 me_X1_shiftValues yf_X1_shiftValues (by decide) (by decide) rfl (Nat.le_of_ble_eq_true rfl) rfl (dtX3_pack_0 53 (94, .invokevirtual 78, 3) rfl) hH hS hl) (fun _ m31 hF => ?_)
            refine r_iinc hk 1 4 (fun v32 => [(4, .int v32), (0, .ref (xad X (0, 0, 0, 0))), (1, .int p1), (2, .ref (xad X (2, q4, q5, 0))), (3, .int v9), (5, .int v11)]) hF (dtX3_pack_0 54 (97, .iinc 4 1, 3) rfl) rfl (by decide) (by decide) (fun _ => rfl) (fun v32 hF => ?_)
            exact r_sub hk [1, 2, 3, 4, 0, 5] rfl (j100_23 v32 m31 hF)
  exact r_sub hk [4, 5, 3, 2, 1, 0] rfl (l14 fu 0 0 0 m3 hF)
set_option maxHeartbeats 4000000 in
set_option maxRecDepth 100000 in
theorem c_X3_index (l : Launch) (hlf : l.stackTraces = false) (X : XW)  (p1 : Int32) (p2 : Int32) (m0 : Mem) (rv : Int32 ⊕ Nat) (mE : Mem) (hF : F_X3_index p1 p2 m0 = some (rv, mE)) : MT X l yX3_index cX3_index 5 (some .int) 8 [.ref (xad X (0, 0, 0, 0)), .int p1, .int p2] m0 rv mE (QTI X rv mE) := by
  refine startTI hlf (by decide +kernel) rfl [(0, .ref (xad X (0, 0, 0, 0))), (1, .int p1), (2, .int p2)] rfl (Nat.le_of_ble_eq_true rfl) (fun K hk hR hX => ?_)
  unfold F_X3_index at hF
  refine r_iload_n hk 1 (dtX3_index_0 0 (0, .iload_n 1, 1) rfl) rfl ?_
  refine r_callI hF (fun v1 h H locs ls hH hS hl => run_S hk (c_X3_isTenant (kl K) hk.2.2.2.2.2.2.2.2.2.2.2 X  p1 m0 v1 h) lk_X3_34 me_X3_isTenant yf_X3_isTenant (by decide) (by decide) rfl (Nat.le_of_ble_eq_true rfl) rfl (dtX3_index_0 1 (1, .invokestatic 34, 3) rfl) hH hS hl) (fun v1 hF => ?_)
  have j19_3 : ∀ (v2 : Int32), (J_X3_index_19 p1 p2 m0) v2 = some (rv, mE) → G X K 19 [(0, .ref (xad X (0, 0, 0, 0))), (1, .int p1), (2, .int p2)] [.int v2] m0 := by
    intro v2 hF
    unfold J_X3_index_19 at hF
    refine r_callVts hk hF (fun c h => by cases Option.some.inj h; exact hX c rfl) (fun R h hf H locs ls hH hS hl => runT_S hk (c_X3_require (kl K) hk.2.2.2.2.2.2.2.2.2.2.2 X  v2 m0 R h) lk_X3_41 me_X3_require yf_X3_require (by decide) (by decide) rfl (Nat.le_of_ble_eq_true rfl) rfl (dtX3_index_0 9 (19, .invokestatic 41, 3) rfl) hf hH hS hl) (fun _ hF => ?_)
    refine r_aload_n hk 0 (dtX3_index_0 10 (22, .aload_n 0, 1) rfl) rfl ?_
    refine r_callRm (fun q => xad X (1, q, 0, 0)) hF (fun q4 m5 h H locs ls hH hS hl => run_V (y := yX3_save) hk (in_main 0 (by decide)) rfl rfl (c_X3_save (kl K) hk.2.2.2.2.2.2.2.2.2.2.2 X   m0 q4 m5 h) lk_X3_45 me_X3_save yf_X3_save (by decide) (by decide) rfl (Nat.le_of_ble_eq_true rfl) rfl (dtX3_index_0 11 (23, .invokevirtual 45, 3) rfl) hH hS hl) (fun q4 m5 _ hF => ?_)
    obtain ⟨hq4, hF⟩ := bp_some hF
    refine r_pop hk (dtX3_index_0 12 (26, .pop, 1) rfl) rfl ?_
    refine r_aload_n hk 0 (dtX3_index_0 13 (27, .aload_n 0, 1) rfl) rfl ?_
    refine r_getS hk fl_X3_30 hF (dtX3_index_0 14 (28, .getfield 30, 3) rfl) (fun q6 hq6 hF => ?_)
    refine r_getR hk (k := 0) (fsX1 X q6) cbX1 (by decide) fl_X3_49 (in_st q6 hq6 0 (by decide)) (fun _ => rfl) (fun _ _ => rfl) (dtX3_index_0 15 (31, .getfield 49, 3) rfl) ?_
    refine r_iload_n hk 1 (dtX3_index_0 16 (34, .iload_n 1, 1) rfl) rfl ?_
    refine r_aldT hk hq6 hF (dtX3_index_0 17 (35, .aaload, 1) rfl) (fun q7 hq7 hF => ?_)
    refine r_astore_n hk [(3, .ref (xad X (2, q6, q7, 0))), (0, .ref (xad X (0, 0, 0, 0))), (1, .int p1), (2, .int p2)] (dtX3_index_0 18 (36, .astore_n 3, 1) rfl) (by decide) rfl ?_
    refine r_aload_n hk 0 (dtX3_index_0 19 (37, .aload_n 3, 1) rfl) rfl ?_
    refine r_iload_n hk 3 (dtX3_index_0 20 (38, .iload_n 2, 1) rfl) rfl ?_
    refine r_callI hF (fun v8 h H locs ls hH hS hl => run_V (y := yX2_columnOf) hk (in_tn q6 hq6 q7 hq7 0 (by decide)) rfl rfl (c_X2_columnOf (kl K) hk.2.2.2.2.2.2.2.2.2.2.2 X q6 hq6 q7 hq7 p2 m5 v8 h) lk_X3_67 me_X2_columnOf yf_X2_columnOf (by decide) (by decide) rfl (Nat.le_of_ble_eq_true rfl) rfl (dtX3_index_0 21 (39, .invokevirtual 67, 3) rfl) hH hS hl) (fun v8 hF => ?_)
    refine r_istore hk [(4, .int v8), (3, .ref (xad X (2, q6, q7, 0))), (0, .ref (xad X (0, 0, 0, 0))), (1, .int p1), (2, .int p2)] (dtX3_index_0 22 (42, .istore 4, 2) rfl) (by decide) rfl ?_
    refine r_iload hk 0 (dtX3_index_0 23 (44, .iload 4, 2) rfl) rfl ?_
    refine r_iconst (v := (-1)) hk (dtX3_index_0 24 (46, .iconst (-1), 1) rfl) (by decide) ?_
    refine r_icmp_ne hk 56 hF (dtX3_index_0 25 (47, .if_icmp .ne 9, 3) rfl) (by decide) (fun hF => ?_) (fun hF => ?_)
    · refine r_aload_n hk 1 (dtX3_index_0 30 (56, .aload_n 3, 1) rfl) rfl ?_
      refine r_getR hk (k := 2) (fsX2 X q6 q7) cbX2 (by decide) fl_X3_92 (in_tn q6 hq6 q7 hq7 0 (by decide)) (fun _ => rfl) (fun _ _ => rfl) (dtX3_index_0 31 (57, .getfield 92, 3) rfl) ?_
      refine r_iload hk 0 (dtX3_index_0 32 (60, .iload 4, 2) rfl) rfl ?_
      refine r_aload_n hk 1 (dtX3_index_0 33 (62, .aload_n 3, 1) rfl) rfl ?_
      refine r_getR hk (k := 2) (fsX2 X q6 q7) cbX2 (by decide) fl_X3_92 (in_tn q6 hq6 q7 hq7 0 (by decide)) (fun _ => rfl) (fun _ _ => rfl) (dtX3_index_0 34 (63, .getfield 92, 3) rfl) ?_
      refine r_iload hk 0 (dtX3_index_0 35 (66, .iload 4, 2) rfl) rfl ?_
      refine r_zald hk (in_tn q6 hq6 q7 hq7 3 (by decide)) (fun _ => rfl) hF (dtX3_index_0 36 (68, .baload, 1) rfl) (fun v9 hF => ?_)
      have j77_11 : ∀ (v10 : Int32), (J_X3_index_77 m5 q6 q7 v8) v10 = some (rv, mE) → G X K 77 [(3, .ref (xad X (2, q6, q7, 0))), (4, .int v8)] [.int v10, .int v8, .ref (xad X (2, q6, q7, 3))] m5 := by
        intro v10 hF
        unfold J_X3_index_77 at hF
        refine r_zast hk (in_tn q6 hq6 q7 hq7 3 (by decide)) (fun _ => rfl) hF (dtX3_index_0 41 (77, .bastore, 1) rfl) (fun m12 hF => ?_)
        refine r_aload_n hk 0 (dtX3_index_0 42 (78, .aload_n 3, 1) rfl) rfl ?_
        refine r_getR hk (k := 2) (fsX2 X q6 q7) cbX2 (by decide) fl_X3_92 (in_tn q6 hq6 q7 hq7 0 (by decide)) (fun _ => rfl) (fun _ _ => rfl) (dtX3_index_0 43 (79, .getfield 92, 3) rfl) ?_
        refine r_iload hk 1 (dtX3_index_0 44 (82, .iload 4, 2) rfl) rfl ?_
        refine r_zald hk (in_tn q6 hq6 q7 hq7 3 (by decide)) (fun _ => rfl) hF (dtX3_index_0 45 (84, .baload, 1) rfl) (fun v13 hF => ?_)
        refine r_callI hF (fun v14 h H locs ls hH hS hl => run_S hk (c_X3_asNumber (kl K) hk.2.2.2.2.2.2.2.2.2.2.2 X  v13 m12 v14 h) lk_X3_96 me_X3_asNumber yf_X3_asNumber (by decide) (by decide) rfl (Nat.le_of_ble_eq_true rfl) rfl (dtX3_index_0 46 (85, .invokestatic 96, 3) rfl) hH hS hl) (fun v14 hF => ?_)
        cases Option.some.inj hF
        exact hR v14 rfl _ _ (dtX3_index_0 47 (88, .ireturn, 1) rfl)
      refine r_if_ne hk 76 hF (dtX3_index_0 37 (69, .ifCond .ne 7, 3) rfl) (by decide) (fun hF => ?_) (fun hF => ?_)
      · refine r_iconst (v := 0) hk (dtX3_index_0 40 (76, .iconst 0, 1) rfl) (by decide) ?_
        exact r_sub hk [1, 0] rfl (j77_11 0 hF)
      · refine r_iconst (v := 1) hk (dtX3_index_0 38 (72, .iconst 1, 1) rfl) (by decide) ?_
        refine r_goto hk 77 (dtX3_index_0 39 (73, .goto 4, 3) rfl) (by decide) ?_
        exact r_sub hk [1, 0] rfl (j77_11 1 hF)
    · refine r_aload_n hk 1 (dtX3_index_0 26 (50, .aload_n 3, 1) rfl) rfl ?_
      refine r_iconst (v := 5) hk (dtX3_index_0 27 (51, .iconst 5, 1) rfl) (by decide) ?_
      refine r_callIm hF (fun v15 m16 h H locs ls hH hS hl => run_V (y := yX2_refuse) hk (in_tn q6 hq6 q7 hq7 0 (by decide)) rfl rfl (c_X2_refuse (kl K) hk.2.2.2.2.2.2.2.2.2.2.2 X q6 hq6 q7 hq7 5 m5 v15 m16 h) lk_X3_63 me_X2_refuse yf_X2_refuse (by decide) (by decide) rfl (Nat.le_of_ble_eq_true rfl) rfl (dtX3_index_0 28 (52, .invokevirtual 63, 3) rfl) hH hS hl) (fun v15 m16 hF => ?_)
      cases Option.some.inj hF
      exact hR v15 rfl _ _ (dtX3_index_0 29 (55, .ireturn, 1) rfl)
  have j18_17 : (J_X3_index_18 p1 p2 m0) = some (rv, mE) → G X K 18 [(0, .ref (xad X (0, 0, 0, 0))), (1, .int p1), (2, .int p2)] [] m0 := by
    intro hF
    unfold J_X3_index_18 at hF
    refine r_iconst (v := 0) hk (dtX3_index_0 8 (18, .iconst 0, 1) rfl) (by decide) ?_
    exact r_sub hk [0, 1, 2] rfl (j19_3 0 hF)
  refine r_if_eq hk 18 hF (dtX3_index_0 2 (4, .ifCond .eq 14, 3) rfl) (by decide) (fun hF => ?_) (fun hF => ?_)
  · exact r_sub hk [0, 1, 2] rfl (j18_17 hF)
  · refine r_iload_n hk 2 (dtX3_index_0 3 (7, .iload_n 2, 1) rfl) rfl ?_
    refine r_callI hF (fun v18 h H locs ls hH hS hl => run_S hk (c_X3_isLetter (kl K) hk.2.2.2.2.2.2.2.2.2.2.2 X  p2 m0 v18 h) lk_X3_38 me_X3_isLetter yf_X3_isLetter (by decide) (by decide) rfl (Nat.le_of_ble_eq_true rfl) rfl (dtX3_index_0 4 (8, .invokestatic 38, 3) rfl) hH hS hl) (fun v18 hF => ?_)
    refine r_if_eq hk 18 hF (dtX3_index_0 5 (11, .ifCond .eq 7, 3) rfl) (by decide) (fun hF => ?_) (fun hF => ?_)
    · exact r_sub hk [0, 1, 2] rfl (j18_17 hF)
    · refine r_iconst (v := 1) hk (dtX3_index_0 6 (14, .iconst 1, 1) rfl) (by decide) ?_
      refine r_goto hk 19 (dtX3_index_0 7 (15, .goto 4, 3) rfl) (by decide) ?_
      exact r_sub hk [0, 1, 2] rfl (j19_3 1 hF)
