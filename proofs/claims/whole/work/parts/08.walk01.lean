/-! the walks (written by dec.py) -/
set_option maxHeartbeats 4000000 in
set_option maxRecDepth 100000 in
theorem c_X3_readQuestion (l : Launch) (hlf : l.stackTraces = false) (X : XW)   (m0 : Mem) (rv : Int32) (mE : Mem) (hF : F_X3_readQuestion m0 = some (rv, mE)) : MX X l yX3_readQuestion cX3_readQuestion 1 (some .boolean) 4 [.ref (xad X (0, 0, 0, 0))] m0 (QI X rv mE) := by
  refine startZ hlf (by decide +kernel) rfl [(0, .ref (xad X (0, 0, 0, 0)))] rfl (Nat.le_of_ble_eq_true rfl) (fun K hk hR => ?_)
  unfold F_X3_readQuestion at hF
  refine r_aload_n hk 0 (dtX3_readQuestion_0 0 (0, .aload_n 0, 1) rfl) rfl ?_
  refine r_getR hk (k := 2) (fsX3 X) cbX3 (by decide) fl_X3_22 (in_main 0 (by decide)) (fun _ => rfl) (fun _ _ => rfl) (dtX3_readQuestion_0 1 (1, .getfield 22, 3) rfl) ?_
  refine r_aload_n hk 0 (dtX3_readQuestion_0 2 (4, .aload_n 0, 1) rfl) rfl ?_
  refine r_getR hk (k := 1) (fsX3 X) cbX3 (by decide) fl_X3_15 (in_main 0 (by decide)) (fun _ => rfl) (fun _ _ => rfl) (dtX3_readQuestion_0 3 (5, .getfield 15, 3) rfl) ?_
  refine r_aload_n hk 0 (dtX3_readQuestion_0 4 (8, .aload_n 0, 1) rfl) rfl ?_
  refine r_getI hk (k := 6) (fsX3 X) cbX3 (by decide) fl_X3_145 (in_main 0 (by decide)) (fun _ => rfl) (fun _ _ => rfl) hF (dtX3_readQuestion_0 5 (9, .getfield 145, 3) rfl) (fun v1 hF => ?_)
  refine r_callIm hF (fun v2 m3 h H locs ls hH hS hl => run_V (y := yX0_read) hk (in_main 3 (by decide)) rfl rfl (c_X0_read (kl K) hk.2.2.2.2.2.2.2.2.2.2.2 X  v1 m0 v2 m3 h) lk_X3_155 me_X0_read yf_X0_read (by decide) (by decide) rfl (Nat.le_of_ble_eq_true rfl) rfl (dtX3_readQuestion_0 6 (12, .invokevirtual 155, 3) rfl) hH hS hl) (fun v2 m3 hF => ?_)
  refine r_pop hk (dtX3_readQuestion_0 7 (15, .pop, 1) rfl) rfl ?_
  refine r_aload_n hk 0 (dtX3_readQuestion_0 8 (16, .aload_n 0, 1) rfl) rfl ?_
  refine r_getR hk (k := 2) (fsX3 X) cbX3 (by decide) fl_X3_22 (in_main 0 (by decide)) (fun _ => rfl) (fun _ _ => rfl) (dtX3_readQuestion_0 9 (17, .getfield 22, 3) rfl) ?_
  refine r_callI hF (fun v4 h H locs ls hH hS hl => run_V (y := yX0_isWhole) hk (in_main 3 (by decide)) rfl rfl (c_X0_isWhole (kl K) hk.2.2.2.2.2.2.2.2.2.2.2 X   m3 v4 h) lk_X3_280 me_X0_isWhole yf_X0_isWhole (by decide) (by decide) rfl (Nat.le_of_ble_eq_true rfl) rfl (dtX3_readQuestion_0 10 (20, .invokevirtual 280, 3) rfl) hH hS hl) (fun v4 hF => ?_)
  obtain ⟨hz, hF⟩ := ck_some hF
  cases Option.some.inj hF
  exact hR _ _ hz (dtX3_readQuestion_0 11 (23, .ireturn, 1) rfl)
set_option maxHeartbeats 4000000 in
set_option maxRecDepth 100000 in
theorem c_X3_isTenant (l : Launch) (hlf : l.stackTraces = false) (X : XW)  (p1 : Int32) (m0 : Mem) (rv : Int32) (hF : F_X3_isTenant p1 m0 = some rv) : MX X l yX3_isTenant cX3_isTenant 1 (some .boolean) 0 [.int p1] m0 (QI X rv m0) := by
  refine startZ hlf (by decide +kernel) rfl [(0, .int p1)] rfl (Nat.le_of_ble_eq_true rfl) (fun K hk hR => ?_)
  unfold F_X3_isTenant at hF
  refine r_iload_n hk 0 (dtX3_isTenant_0 0 (0, .iload_n 0, 1) rfl) rfl ?_
  have j14_2 : ∀ (v1 : Int32), J_X3_isTenant_14 v1 = some rv → G X K 14 [] [.int v1] m0 := by
    intro v1 hF
    unfold J_X3_isTenant_14 at hF
    obtain ⟨hz, hF⟩ := ck_some hF
    cases Option.some.inj hF
    exact hR _ _ hz (dtX3_isTenant_0 8 (14, .ireturn, 1) rfl)
  have j13_3 : J_X3_isTenant_13 = some rv → G X K 13 [] [] m0 := by
    intro hF
    unfold J_X3_isTenant_13 at hF
    refine r_iconst (v := 0) hk (dtX3_isTenant_0 7 (13, .iconst 0, 1) rfl) (by decide) ?_
    exact r_sub hk [] rfl (j14_2 0 hF)
  refine r_if_lt hk 13 hF (dtX3_isTenant_0 1 (1, .ifCond .lt 12, 3) rfl) (by decide) (fun hF => ?_) (fun hF => ?_)
  · exact r_sub hk [] rfl (j13_3 hF)
  · refine r_iload_n hk 0 (dtX3_isTenant_0 2 (4, .iload_n 0, 1) rfl) rfl ?_
    refine r_iconst (v := 3) hk (dtX3_isTenant_0 3 (5, .iconst 3, 1) rfl) (by decide) ?_
    refine r_icmp_ge hk 13 hF (dtX3_isTenant_0 4 (6, .if_icmp .ge 7, 3) rfl) (by decide) (fun hF => ?_) (fun hF => ?_)
    · exact r_sub hk [] rfl (j13_3 hF)
    · refine r_iconst (v := 1) hk (dtX3_isTenant_0 5 (9, .iconst 1, 1) rfl) (by decide) ?_
      refine r_goto hk 14 (dtX3_isTenant_0 6 (10, .goto 4, 3) rfl) (by decide) ?_
      exact r_sub hk [] rfl (j14_2 1 hF)
set_option maxHeartbeats 4000000 in
set_option maxRecDepth 100000 in
theorem c_X1_rowsOf (l : Launch) (hlf : l.stackTraces = false) (X : XW) (i0 : Nat) (hi0 : i0 < 7) (p1 : Int32) (m0 : Mem) (rv : Int32) (hF : F_X1_rowsOf i0 p1 m0 = some rv) : MX X l yX1_rowsOf cX1_rowsOf 4 (some .int) 1 [.ref (xad X (1, i0, 0, 0)), .int p1] m0 (QI X rv m0) := by
  refine startI hlf (by decide +kernel) rfl [(0, .ref (xad X (1, i0, 0, 0))), (1, .int p1)] rfl (Nat.le_of_ble_eq_true rfl) (fun K hk hR => ?_)
  unfold F_X1_rowsOf at hF
  refine r_iconst (v := 0) hk (dtX1_rowsOf_0 0 (0, .iconst 0, 1) rfl) (by decide) ?_
  refine r_istore_n hk [(2, .int 0), (0, .ref (xad X (1, i0, 0, 0))), (1, .int p1)] (dtX1_rowsOf_0 1 (1, .istore_n 2, 1) rfl) (by decide) rfl ?_
  refine r_iconst (v := 0) hk (dtX1_rowsOf_0 2 (2, .iconst 0, 1) rfl) (by decide) ?_
  refine r_istore_n hk [(3, .int 0), (2, .int 0), (0, .ref (xad X (1, i0, 0, 0))), (1, .int p1)] (dtX1_rowsOf_0 3 (3, .istore_n 3, 1) rfl) (by decide) rfl ?_
  have e39_2 : ∀ (v1 : Int32), C_X1_rowsOf_39 v1 = some rv → G X K 39 [(2, .int v1)] [] m0 := by
    intro v1 hF
    unfold C_X1_rowsOf_39 at hF
    refine r_iload_n hk 0 (dtX1_rowsOf_0 23 (39, .iload_n 2, 1) rfl) rfl ?_
    cases Option.some.inj hF
    exact hR _ _ (dtX1_rowsOf_0 24 (40, .ireturn, 1) rfl)
  have l6 : ∀ (n6 : Nat) (v3 : Int32) (v4 : Int32), L_X1_rowsOf_4 i0 p1 m0 n6 v3 v4 = some rv → G X K 4 [(0, .ref (xad X (1, i0, 0, 0))), (1, .int p1), (2, .int v3), (3, .int v4)] [] m0 := by
    intro n6
    induction n6 with
    | zero => intro v3 v4 hF; exact nomatch (show (none : Option Int32) = some rv from hF)
    | succ n6 ih6 =>
      intro v3 v4 hF
      rw [L_X1_rowsOf_4] at hF
      refine r_iload_n hk 3 (dtX1_rowsOf_0 4 (4, .iload_n 3, 1) rfl) rfl ?_
      refine r_aload_n hk 0 (dtX1_rowsOf_0 5 (5, .aload_n 0, 1) rfl) rfl ?_
      refine r_getI hk (k := 3) (fsX1 X i0) cbX1 (by decide) fl_X1_29 (in_st i0 hi0 0 (by decide)) (fun _ => rfl) (fun _ _ => rfl) hF (dtX1_rowsOf_0 6 (6, .getfield 29, 3) rfl) (fun v7 hF => ?_)
      refine r_icmp_ge hk 39 hF (dtX1_rowsOf_0 7 (9, .if_icmp .ge 30, 3) rfl) (by decide) (fun hF => ?_) (fun hF => ?_)
      · exact r_sub hk [2] rfl (e39_2 v3 hF)
      · refine r_iload_n hk 2 (dtX1_rowsOf_0 8 (12, .iload_n 2, 1) rfl) rfl ?_
        refine r_aload_n hk 0 (dtX1_rowsOf_0 9 (13, .aload_n 0, 1) rfl) rfl ?_
        refine r_getR hk (k := 1) (fsX1 X i0) cbX1 (by decide) fl_X1_17 (in_st i0 hi0 0 (by decide)) (fun _ => rfl) (fun _ _ => rfl) (dtX1_rowsOf_0 10 (14, .getfield 17, 3) rfl) ?_
        refine r_iload_n hk 3 (dtX1_rowsOf_0 11 (17, .iload_n 3, 1) rfl) rfl ?_
        refine r_iald hk (in_st i0 hi0 2 (by decide)) (fun _ => rfl) hF (dtX1_rowsOf_0 12 (18, .iaload, 1) rfl) (fun v8 hF => ?_)
        refine r_iload_n hk 1 (dtX1_rowsOf_0 13 (19, .iload_n 1, 1) rfl) rfl ?_
        have j28_10 : ∀ (v9 : Int32), (J_X1_rowsOf_28 m0 v3 v4 (fun w0 w1 => L_X1_rowsOf_4 i0 p1 m0 n6 w0 w1)) v9 = some rv → G X K 28 [(0, .ref (xad X (1, i0, 0, 0))), (1, .int p1), (3, .int v4)] [.int v9, .int v3] m0 := by
          intro v9 hF
          unfold J_X1_rowsOf_28 at hF
          refine r_callI hF (fun v11 h H locs ls hH hS hl => run_SN hk (c_X3_asNumber (kl K) hk.2.2.2.2.2.2.2.2.2.2.2 X  v9 m0 v11 h) lk_X1_64 me_X3_asNumber yf_X3_asNumber (by decide) (by decide) rfl (Nat.le_of_ble_eq_true rfl) rfl (dtX1_rowsOf_0 18 (28, .invokestatic 64, 3) rfl) hH hS hl) (fun v11 hF => ?_)
          refine r_iadd hk hF (dtX1_rowsOf_0 19 (31, .iadd, 1) rfl) (fun v12 hF => ?_)
          refine r_istore_n hk [(2, .int v12), (0, .ref (xad X (1, i0, 0, 0))), (1, .int p1), (3, .int v4)] (dtX1_rowsOf_0 20 (32, .istore_n 2, 1) rfl) (by decide) rfl ?_
          refine r_iinc hk 1 3 (fun v13 => [(3, .int v13), (2, .int v12), (0, .ref (xad X (1, i0, 0, 0))), (1, .int p1)]) hF (dtX1_rowsOf_0 21 (33, .iinc 3 1, 3) rfl) rfl (by decide) (by decide) (fun _ => rfl) (fun v13 hF => ?_)
          refine r_goto hk 4 (dtX1_rowsOf_0 22 (36, .goto (-32), 3) rfl) (by decide) ?_
          exact r_sub hk [2, 3, 1, 0] rfl (ih6 v12 v13 hF)
        refine r_icmp_ne hk 27 hF (dtX1_rowsOf_0 14 (20, .if_icmp .ne 7, 3) rfl) (by decide) (fun hF => ?_) (fun hF => ?_)
        · refine r_iconst (v := 0) hk (dtX1_rowsOf_0 17 (27, .iconst 0, 1) rfl) (by decide) ?_
          exact r_sub hk [0, 1, 3] rfl (j28_10 0 hF)
        · refine r_iconst (v := 1) hk (dtX1_rowsOf_0 15 (23, .iconst 1, 1) rfl) (by decide) ?_
          refine r_goto hk 28 (dtX1_rowsOf_0 16 (24, .goto 4, 3) rfl) (by decide) ?_
          exact r_sub hk [0, 1, 3] rfl (j28_10 1 hF)
  exact r_sub hk [2, 3, 1, 0] rfl (l6 fu 0 0 hF)
set_option maxHeartbeats 4000000 in
set_option maxRecDepth 100000 in
theorem c_X2_meanings (l : Launch) (hlf : l.stackTraces = false) (X : XW) (i0 : Nat) (hi0 : i0 < 7) (j0 : Nat) (hj0 : j0 < 3)  (m0 : Mem) (rv : Int32) (hF : F_X2_meanings i0 j0 m0 = some rv) : MX X l yX2_meanings cX2_meanings 3 (some .int) 1 [.ref (xad X (2, i0, j0, 0))] m0 (QI X rv m0) := by
  refine startI hlf (by decide +kernel) rfl [(0, .ref (xad X (2, i0, j0, 0)))] rfl (Nat.le_of_ble_eq_true rfl) (fun K hk hR => ?_)
  unfold F_X2_meanings at hF
  refine r_iconst (v := 0) hk (dtX2_meanings_0 0 (0, .iconst 0, 1) rfl) (by decide) ?_
  refine r_istore_n hk [(1, .int 0), (0, .ref (xad X (2, i0, j0, 0)))] (dtX2_meanings_0 1 (1, .istore_n 1, 1) rfl) (by decide) rfl ?_
  refine r_iconst (v := 0) hk (dtX2_meanings_0 2 (2, .iconst 0, 1) rfl) (by decide) ?_
  refine r_istore_n hk [(2, .int 0), (1, .int 0), (0, .ref (xad X (2, i0, j0, 0)))] (dtX2_meanings_0 3 (3, .istore_n 2, 1) rfl) (by decide) rfl ?_
  have e37_2 : ∀ (v1 : Int32), C_X2_meanings_37 v1 = some rv → G X K 37 [(1, .int v1)] [] m0 := by
    intro v1 hF
    unfold C_X2_meanings_37 at hF
    refine r_iload_n hk 0 (dtX2_meanings_0 22 (37, .iload_n 1, 1) rfl) rfl ?_
    cases Option.some.inj hF
    exact hR _ _ (dtX2_meanings_0 23 (38, .ireturn, 1) rfl)
  have l6 : ∀ (n6 : Nat) (v3 : Int32) (v4 : Int32), L_X2_meanings_4 i0 j0 m0 n6 v3 v4 = some rv → G X K 4 [(0, .ref (xad X (2, i0, j0, 0))), (1, .int v3), (2, .int v4)] [] m0 := by
    intro n6
    induction n6 with
    | zero => intro v3 v4 hF; exact nomatch (show (none : Option Int32) = some rv from hF)
    | succ n6 ih6 =>
      intro v3 v4 hF
      rw [L_X2_meanings_4] at hF
      refine r_iload_n hk 2 (dtX2_meanings_0 4 (4, .iload_n 2, 1) rfl) rfl ?_
      refine r_bipush (v := 8) hk (dtX2_meanings_0 5 (5, .bipush 8, 2) rfl) (by decide) ?_
      refine r_icmp_ge hk 37 hF (dtX2_meanings_0 6 (7, .if_icmp .ge 30, 3) rfl) (by decide) (fun hF => ?_) (fun hF => ?_)
      · exact r_sub hk [1] rfl (e37_2 v3 hF)
      · refine r_iload_n hk 1 (dtX2_meanings_0 7 (10, .iload_n 1, 1) rfl) rfl ?_
        refine r_aload_n hk 0 (dtX2_meanings_0 8 (11, .aload_n 0, 1) rfl) rfl ?_
        refine r_getR hk (k := 0) (fsX2 X i0 j0) cbX2 (by decide) fl_X2_9 (in_tn i0 hi0 j0 hj0 0 (by decide)) (fun _ => rfl) (fun _ _ => rfl) (dtX2_meanings_0 9 (12, .getfield 9, 3) rfl) ?_
        refine r_iload_n hk 2 (dtX2_meanings_0 10 (15, .iload_n 2, 1) rfl) rfl ?_
        refine r_iald hk (in_tn i0 hi0 j0 hj0 1 (by decide)) (fun _ => rfl) hF (dtX2_meanings_0 11 (16, .iaload, 1) rfl) (fun v7 hF => ?_)
        refine r_iconst (v := (-1)) hk (dtX2_meanings_0 12 (17, .iconst (-1), 1) rfl) (by decide) ?_
        have j26_9 : ∀ (v8 : Int32), (J_X2_meanings_26 m0 v3 v4 (fun w0 w1 => L_X2_meanings_4 i0 j0 m0 n6 w0 w1)) v8 = some rv → G X K 26 [(0, .ref (xad X (2, i0, j0, 0))), (2, .int v4)] [.int v8, .int v3] m0 := by
          intro v8 hF
          unfold J_X2_meanings_26 at hF
          refine r_callI hF (fun v10 h H locs ls hH hS hl => run_SN hk (c_X3_asNumber (kl K) hk.2.2.2.2.2.2.2.2.2.2.2 X  v8 m0 v10 h) lk_X2_49 me_X3_asNumber yf_X3_asNumber (by decide) (by decide) rfl (Nat.le_of_ble_eq_true rfl) rfl (dtX2_meanings_0 17 (26, .invokestatic 49, 3) rfl) hH hS hl) (fun v10 hF => ?_)
          refine r_iadd hk hF (dtX2_meanings_0 18 (29, .iadd, 1) rfl) (fun v11 hF => ?_)
          refine r_istore_n hk [(1, .int v11), (0, .ref (xad X (2, i0, j0, 0))), (2, .int v4)] (dtX2_meanings_0 19 (30, .istore_n 1, 1) rfl) (by decide) rfl ?_
          refine r_iinc hk 1 2 (fun v12 => [(2, .int v12), (1, .int v11), (0, .ref (xad X (2, i0, j0, 0)))]) hF (dtX2_meanings_0 20 (31, .iinc 2 1, 3) rfl) rfl (by decide) (by decide) (fun _ => rfl) (fun v12 hF => ?_)
          refine r_goto hk 4 (dtX2_meanings_0 21 (34, .goto (-30), 3) rfl) (by decide) ?_
          exact r_sub hk [2, 1, 0] rfl (ih6 v11 v12 hF)
        refine r_icmp_eq hk 25 hF (dtX2_meanings_0 13 (18, .if_icmp .eq 7, 3) rfl) (by decide) (fun hF => ?_) (fun hF => ?_)
        · refine r_iconst (v := 0) hk (dtX2_meanings_0 16 (25, .iconst 0, 1) rfl) (by decide) ?_
          exact r_sub hk [0, 2] rfl (j26_9 0 hF)
        · refine r_iconst (v := 1) hk (dtX2_meanings_0 14 (21, .iconst 1, 1) rfl) (by decide) ?_
          refine r_goto hk 26 (dtX2_meanings_0 15 (22, .goto 4, 3) rfl) (by decide) ?_
          exact r_sub hk [0, 2] rfl (j26_9 1 hF)
  exact r_sub hk [2, 1, 0] rfl (l6 fu 0 0 hF)
set_option maxHeartbeats 4000000 in
set_option maxRecDepth 100000 in
theorem c_X3_tenant (l : Launch) (hlf : l.stackTraces = false) (X : XW)  (p1 : Int32) (p2 : Int32) (m0 : Mem) (rv : Int32 ⊕ Nat) (hF : F_X3_tenant p1 p2 m0 = some rv) : MT X l yX3_tenant cX3_tenant 4 (some .int) 8 [.ref (xad X (0, 0, 0, 0)), .int p1, .int p2] m0 rv m0 (QTI X rv m0) := by
  refine startTI hlf (by decide +kernel) rfl [(0, .ref (xad X (0, 0, 0, 0))), (1, .int p1), (2, .int p2)] rfl (Nat.le_of_ble_eq_true rfl) (fun K hk hR hX => ?_)
  unfold F_X3_tenant at hF
  refine r_iload_n hk 1 (dtX3_tenant_0 0 (0, .iload_n 1, 1) rfl) rfl ?_
  refine r_callI hF (fun v1 h H locs ls hH hS hl => run_S hk (c_X3_isTenant (kl K) hk.2.2.2.2.2.2.2.2.2.2.2 X  p1 m0 v1 h) lk_X3_34 me_X3_isTenant yf_X3_isTenant (by decide) (by decide) rfl (Nat.le_of_ble_eq_true rfl) rfl (dtX3_tenant_0 1 (1, .invokestatic 34, 3) rfl) hH hS hl) (fun v1 hF => ?_)
  have j22_3 : ∀ (v2 : Int32), (J_X3_tenant_22 p1 p2 m0) v2 = some rv → G X K 22 [(0, .ref (xad X (0, 0, 0, 0))), (1, .int p1), (2, .int p2)] [.int v2] m0 := by
    intro v2 hF
    unfold J_X3_tenant_22 at hF
    refine r_callVts hk hF (fun c h => by cases Option.some.inj h; exact hX c rfl) (fun R h hf H locs ls hH hS hl => runT_S hk (c_X3_require (kl K) hk.2.2.2.2.2.2.2.2.2.2.2 X  v2 m0 R h) lk_X3_41 me_X3_require yf_X3_require (by decide) (by decide) rfl (Nat.le_of_ble_eq_true rfl) rfl (dtX3_tenant_0 11 (22, .invokestatic 41, 3) rfl) hf hH hS hl) (fun _ hF => ?_)
    refine r_aload_n hk 0 (dtX3_tenant_0 12 (25, .aload_n 0, 1) rfl) rfl ?_
    refine r_getS hk fl_X3_30 hF (dtX3_tenant_0 13 (26, .getfield 30, 3) rfl) (fun q4 hq4 hF => ?_)
    refine r_getR hk (k := 0) (fsX1 X q4) cbX1 (by decide) fl_X3_49 (in_st q4 hq4 0 (by decide)) (fun _ => rfl) (fun _ _ => rfl) (dtX3_tenant_0 14 (29, .getfield 49, 3) rfl) ?_
    refine r_iload_n hk 1 (dtX3_tenant_0 15 (32, .iload_n 1, 1) rfl) rfl ?_
    refine r_aldT hk hq4 hF (dtX3_tenant_0 16 (33, .aaload, 1) rfl) (fun q5 hq5 hF => ?_)
    refine r_astore_n hk [(3, .ref (xad X (2, q4, q5, 0))), (0, .ref (xad X (0, 0, 0, 0))), (1, .int p1), (2, .int p2)] (dtX3_tenant_0 17 (34, .astore_n 3, 1) rfl) (by decide) rfl ?_
    refine r_iload_n hk 3 (dtX3_tenant_0 18 (35, .iload_n 2, 1) rfl) rfl ?_
    by_cases hs36_0 : p2 = 0
    · rw [if_pos hs36_0] at hF
      refine r_tabIn hk 84 (dtX3_tenant_0 19 (36, .tableswitch 95 0 7 #[48, 57, 62, 67, 72, 80, 85, 90], 48) rfl) (by rw [hs36_0]; decide) (by rw [hs36_0]; decide) (by rw [hs36_0]; rfl) (by decide) ?_
      refine r_aload_n hk 1 (dtX3_tenant_0 20 (84, .aload_n 0, 1) rfl) rfl ?_
      refine r_getS hk fl_X3_30 hF (dtX3_tenant_0 21 (85, .getfield 30, 3) rfl) (fun q6 hq6 hF => ?_)
      refine r_iload_n hk 2 (dtX3_tenant_0 22 (88, .iload_n 1, 1) rfl) rfl ?_
      refine r_callI hF (fun v7 h H locs ls hH hS hl => run_V (y := yX1_rowsOf) hk (in_st q6 hq6 0 (by decide)) rfl rfl (c_X1_rowsOf (kl K) hk.2.2.2.2.2.2.2.2.2.2.2 X q6 hq6 p1 m0 v7 h) lk_X3_100 me_X1_rowsOf yf_X1_rowsOf (by decide) (by decide) rfl (Nat.le_of_ble_eq_true rfl) rfl (dtX3_tenant_0 23 (89, .invokevirtual 100, 3) rfl) hH hS hl) (fun v7 hF => ?_)
      cases Option.some.inj hF
      exact hR v7 rfl _ _ (dtX3_tenant_0 24 (92, .ireturn, 1) rfl)
    · rw [if_neg hs36_0] at hF
      by_cases hs36_1 : p2 = 1
      · rw [if_pos hs36_1] at hF
        refine r_tabIn hk 93 (dtX3_tenant_0 19 (36, .tableswitch 95 0 7 #[48, 57, 62, 67, 72, 80, 85, 90], 48) rfl) (by rw [hs36_1]; decide) (by rw [hs36_1]; decide) (by rw [hs36_1]; rfl) (by decide) ?_
        refine r_aload_n hk 0 (dtX3_tenant_0 25 (93, .aload_n 3, 1) rfl) rfl ?_
        refine r_callI hF (fun v8 h H locs ls hH hS hl => run_V (y := yX2_meanings) hk (in_tn q4 hq4 q5 hq5 0 (by decide)) rfl rfl (c_X2_meanings (kl K) hk.2.2.2.2.2.2.2.2.2.2.2 X q4 hq4 q5 hq5  m0 v8 h) lk_X3_53 me_X2_meanings yf_X2_meanings (by decide) (by decide) rfl (Nat.le_of_ble_eq_true rfl) rfl (dtX3_tenant_0 26 (94, .invokevirtual 53, 3) rfl) hH hS hl) (fun v8 hF => ?_)
        cases Option.some.inj hF
        exact hR v8 rfl _ _ (dtX3_tenant_0 27 (97, .ireturn, 1) rfl)
      · rw [if_neg hs36_1] at hF
        by_cases hs36_2 : p2 = 2
        · rw [if_pos hs36_2] at hF
          refine r_tabIn hk 98 (dtX3_tenant_0 19 (36, .tableswitch 95 0 7 #[48, 57, 62, 67, 72, 80, 85, 90], 48) rfl) (by rw [hs36_2]; decide) (by rw [hs36_2]; decide) (by rw [hs36_2]; rfl) (by decide) ?_
          refine r_aload_n hk 0 (dtX3_tenant_0 28 (98, .aload_n 3, 1) rfl) rfl ?_
          refine r_getI hk (k := 3) (fsX2 X q4 q5) cbX2 (by decide) fl_X3_103 (in_tn q4 hq4 q5 hq5 0 (by decide)) (fun _ => rfl) (fun _ _ => rfl) hF (dtX3_tenant_0 29 (99, .getfield 103, 3) rfl) (fun v9 hF => ?_)
          cases Option.some.inj hF
          exact hR v9 rfl _ _ (dtX3_tenant_0 30 (102, .ireturn, 1) rfl)
        · rw [if_neg hs36_2] at hF
          by_cases hs36_3 : p2 = 3
          · rw [if_pos hs36_3] at hF
            refine r_tabIn hk 103 (dtX3_tenant_0 19 (36, .tableswitch 95 0 7 #[48, 57, 62, 67, 72, 80, 85, 90], 48) rfl) (by rw [hs36_3]; decide) (by rw [hs36_3]; decide) (by rw [hs36_3]; rfl) (by decide) ?_
            refine r_aload_n hk 0 (dtX3_tenant_0 31 (103, .aload_n 3, 1) rfl) rfl ?_
            refine r_getI hk (k := 4) (fsX2 X q4 q5) cbX2 (by decide) fl_X3_59 (in_tn q4 hq4 q5 hq5 0 (by decide)) (fun _ => rfl) (fun _ _ => rfl) hF (dtX3_tenant_0 32 (104, .getfield 59, 3) rfl) (fun v10 hF => ?_)
            cases Option.some.inj hF
            exact hR v10 rfl _ _ (dtX3_tenant_0 33 (107, .ireturn, 1) rfl)
          · rw [if_neg hs36_3] at hF
            by_cases hs36_4 : p2 = 4
            · rw [if_pos hs36_4] at hF
              refine r_tabIn hk 108 (dtX3_tenant_0 19 (36, .tableswitch 95 0 7 #[48, 57, 62, 67, 72, 80, 85, 90], 48) rfl) (by rw [hs36_4]; decide) (by rw [hs36_4]; decide) (by rw [hs36_4]; rfl) (by decide) ?_
              refine r_aload_n hk 0 (dtX3_tenant_0 34 (108, .aload_n 3, 1) rfl) rfl ?_
              refine r_getI hk (k := 5) (fsX2 X q4 q5) cbX2 (by decide) fl_X3_106 (in_tn q4 hq4 q5 hq5 0 (by decide)) (fun _ => rfl) (fun _ _ => rfl) hF (dtX3_tenant_0 35 (109, .getfield 106, 3) rfl) (fun v11 hF => ?_)
              refine r_callI hF (fun v12 h H locs ls hH hS hl => run_S hk (c_X3_asNumber (kl K) hk.2.2.2.2.2.2.2.2.2.2.2 X  v11 m0 v12 h) lk_X3_96 me_X3_asNumber yf_X3_asNumber (by decide) (by decide) rfl (Nat.le_of_ble_eq_true rfl) rfl (dtX3_tenant_0 36 (112, .invokestatic 96, 3) rfl) hH hS hl) (fun v12 hF => ?_)
              cases Option.some.inj hF
              exact hR v12 rfl _ _ (dtX3_tenant_0 37 (115, .ireturn, 1) rfl)
            · rw [if_neg hs36_4] at hF
              by_cases hs36_5 : p2 = 5
              · rw [if_pos hs36_5] at hF
                refine r_tabIn hk 116 (dtX3_tenant_0 19 (36, .tableswitch 95 0 7 #[48, 57, 62, 67, 72, 80, 85, 90], 48) rfl) (by rw [hs36_5]; decide) (by rw [hs36_5]; decide) (by rw [hs36_5]; rfl) (by decide) ?_
                refine r_aload_n hk 0 (dtX3_tenant_0 38 (116, .aload_n 3, 1) rfl) rfl ?_
                refine r_getI hk (k := 6) (fsX2 X q4 q5) cbX2 (by decide) fl_X3_166 (in_tn q4 hq4 q5 hq5 0 (by decide)) (fun _ => rfl) (fun _ _ => rfl) hF (dtX3_tenant_0 39 (117, .getfield 166, 3) rfl) (fun v13 hF => ?_)
                cases Option.some.inj hF
                exact hR v13 rfl _ _ (dtX3_tenant_0 40 (120, .ireturn, 1) rfl)
              · rw [if_neg hs36_5] at hF
                by_cases hs36_6 : p2 = 6
                · rw [if_pos hs36_6] at hF
                  refine r_tabIn hk 121 (dtX3_tenant_0 19 (36, .tableswitch 95 0 7 #[48, 57, 62, 67, 72, 80, 85, 90], 48) rfl) (by rw [hs36_6]; decide) (by rw [hs36_6]; decide) (by rw [hs36_6]; rfl) (by decide) ?_
                  refine r_aload_n hk 0 (dtX3_tenant_0 41 (121, .aload_n 3, 1) rfl) rfl ?_
                  refine r_getI hk (k := 7) (fsX2 X q4 q5) cbX2 (by decide) fl_X3_169 (in_tn q4 hq4 q5 hq5 0 (by decide)) (fun _ => rfl) (fun _ _ => rfl) hF (dtX3_tenant_0 42 (122, .getfield 169, 3) rfl) (fun v14 hF => ?_)
                  cases Option.some.inj hF
                  exact hR v14 rfl _ _ (dtX3_tenant_0 43 (125, .ireturn, 1) rfl)
                · rw [if_neg hs36_6] at hF
                  by_cases hs36_7 : p2 = 7
                  · rw [if_pos hs36_7] at hF
                    refine r_tabIn hk 126 (dtX3_tenant_0 19 (36, .tableswitch 95 0 7 #[48, 57, 62, 67, 72, 80, 85, 90], 48) rfl) (by rw [hs36_7]; decide) (by rw [hs36_7]; decide) (by rw [hs36_7]; rfl) (by decide) ?_
                    refine r_aload_n hk 0 (dtX3_tenant_0 44 (126, .aload_n 3, 1) rfl) rfl ?_
                    refine r_getI hk (k := 8) (fsX2 X q4 q5) cbX2 (by decide) fl_X3_176 (in_tn q4 hq4 q5 hq5 0 (by decide)) (fun _ => rfl) (fun _ _ => rfl) hF (dtX3_tenant_0 45 (127, .getfield 176, 3) rfl) (fun v15 hF => ?_)
                    cases Option.some.inj hF
                    exact hR v15 rfl _ _ (dtX3_tenant_0 46 (130, .ireturn, 1) rfl)
                  · rw [if_neg hs36_7] at hF
                    refine r_tabOut hk 131 (dtX3_tenant_0 19 (36, .tableswitch 95 0 7 #[48, 57, 62, 67, 72, 80, 85, 90], 48) rfl) (by have q0 := lv_neT hs36_0 (a := 0) rfl; have q1 := lv_neT hs36_1 (a := 1) rfl; have q2 := lv_neT hs36_2 (a := 2) rfl; have q3 := lv_neT hs36_3 (a := 3) rfl; have q4 := lv_neT hs36_4 (a := 4) rfl; have q5 := lv_neT hs36_5 (a := 5) rfl; have q6 := lv_neT hs36_6 (a := 6) rfl; have q7 := lv_neT hs36_7 (a := 7) rfl; omega) (by decide) ?_
                    refine r_aload_n hk 0 (dtX3_tenant_0 47 (131, .aload_n 3, 1) rfl) rfl ?_
                    refine r_getI hk (k := 9) (fsX2 X q4 q5) cbX2 (by decide) fl_X3_194 (in_tn q4 hq4 q5 hq5 0 (by decide)) (fun _ => rfl) (fun _ _ => rfl) hF (dtX3_tenant_0 48 (132, .getfield 194, 3) rfl) (fun v16 hF => ?_)
                    cases Option.some.inj hF
                    exact hR v16 rfl _ _ (dtX3_tenant_0 49 (135, .ireturn, 1) rfl)
  have j21_17 : (J_X3_tenant_21 p1 p2 m0) = some rv → G X K 21 [(0, .ref (xad X (0, 0, 0, 0))), (1, .int p1), (2, .int p2)] [] m0 := by
    intro hF
    unfold J_X3_tenant_21 at hF
    refine r_iconst (v := 0) hk (dtX3_tenant_0 10 (21, .iconst 0, 1) rfl) (by decide) ?_
    exact r_sub hk [0, 1, 2] rfl (j22_3 0 hF)
  refine r_if_eq hk 21 hF (dtX3_tenant_0 2 (4, .ifCond .eq 17, 3) rfl) (by decide) (fun hF => ?_) (fun hF => ?_)
  · exact r_sub hk [0, 1, 2] rfl (j21_17 hF)
  · refine r_iload_n hk 2 (dtX3_tenant_0 3 (7, .iload_n 2, 1) rfl) rfl ?_
    refine r_if_lt hk 21 hF (dtX3_tenant_0 4 (8, .ifCond .lt 13, 3) rfl) (by decide) (fun hF => ?_) (fun hF => ?_)
    · exact r_sub hk [0, 1, 2] rfl (j21_17 hF)
    · refine r_iload_n hk 2 (dtX3_tenant_0 5 (11, .iload_n 2, 1) rfl) rfl ?_
      refine r_bipush (v := 8) hk (dtX3_tenant_0 6 (12, .bipush 8, 2) rfl) (by decide) ?_
      refine r_icmp_gt hk 21 hF (dtX3_tenant_0 7 (14, .if_icmp .gt 7, 3) rfl) (by decide) (fun hF => ?_) (fun hF => ?_)
      · exact r_sub hk [0, 1, 2] rfl (j21_17 hF)
      · refine r_iconst (v := 1) hk (dtX3_tenant_0 8 (17, .iconst 1, 1) rfl) (by decide) ?_
        refine r_goto hk 22 (dtX3_tenant_0 9 (18, .goto 4, 3) rfl) (by decide) ?_
        exact r_sub hk [0, 1, 2] rfl (j22_3 1 hF)
set_option maxHeartbeats 4000000 in
set_option maxRecDepth 100000 in
theorem c_X1_rowsWith (l : Launch) (hlf : l.stackTraces = false) (X : XW) (i0 : Nat) (hi0 : i0 < 7) (p1 : Int32) (p2 : Int32) (p3 : Int32) (m0 : Mem) (rv : Int32) (hF : F_X1_rowsWith i0 p1 p2 p3 m0 = some rv) : MX X l yX1_rowsWith cX1_rowsWith 6 (some .int) 1 [.ref (xad X (1, i0, 0, 0)), .int p1, .int p2, .int p3] m0 (QI X rv m0) := by
  refine startI hlf (by decide +kernel) rfl [(0, .ref (xad X (1, i0, 0, 0))), (1, .int p1), (2, .int p2), (3, .int p3)] rfl (Nat.le_of_ble_eq_true rfl) (fun K hk hR => ?_)
  unfold F_X1_rowsWith at hF
  refine r_iconst (v := 0) hk (dtX1_rowsWith_0 0 (0, .iconst 0, 1) rfl) (by decide) ?_
  refine r_istore hk [(4, .int 0), (0, .ref (xad X (1, i0, 0, 0))), (1, .int p1), (2, .int p2), (3, .int p3)] (dtX1_rowsWith_0 1 (1, .istore 4, 2) rfl) (by decide) rfl ?_
  refine r_iconst (v := 0) hk (dtX1_rowsWith_0 2 (3, .iconst 0, 1) rfl) (by decide) ?_
  refine r_istore hk [(5, .int 0), (4, .int 0), (0, .ref (xad X (1, i0, 0, 0))), (1, .int p1), (2, .int p2), (3, .int p3)] (dtX1_rowsWith_0 3 (4, .istore 5, 2) rfl) (by decide) rfl ?_
  have e56_2 : ∀ (v1 : Int32), C_X1_rowsWith_56 v1 = some rv → G X K 56 [(4, .int v1)] [] m0 := by
    intro v1 hF
    unfold C_X1_rowsWith_56 at hF
    refine r_iload hk 0 (dtX1_rowsWith_0 29 (56, .iload 4, 2) rfl) rfl ?_
    cases Option.some.inj hF
    exact hR _ _ (dtX1_rowsWith_0 30 (58, .ireturn, 1) rfl)
  have l6 : ∀ (n6 : Nat) (v3 : Int32) (v4 : Int32), L_X1_rowsWith_6 i0 p1 p2 p3 m0 n6 v3 v4 = some rv → G X K 6 [(0, .ref (xad X (1, i0, 0, 0))), (1, .int p1), (2, .int p2), (3, .int p3), (4, .int v3), (5, .int v4)] [] m0 := by
    intro n6
    induction n6 with
    | zero => intro v3 v4 hF; exact nomatch (show (none : Option Int32) = some rv from hF)
    | succ n6 ih6 =>
      intro v3 v4 hF
      rw [L_X1_rowsWith_6] at hF
      refine r_iload hk 5 (dtX1_rowsWith_0 4 (6, .iload 5, 2) rfl) rfl ?_
      refine r_aload_n hk 0 (dtX1_rowsWith_0 5 (8, .aload_n 0, 1) rfl) rfl ?_
      refine r_getI hk (k := 3) (fsX1 X i0) cbX1 (by decide) fl_X1_29 (in_st i0 hi0 0 (by decide)) (fun _ => rfl) (fun _ _ => rfl) hF (dtX1_rowsWith_0 6 (9, .getfield 29, 3) rfl) (fun v7 hF => ?_)
      refine r_icmp_ge hk 56 hF (dtX1_rowsWith_0 7 (12, .if_icmp .ge 44, 3) rfl) (by decide) (fun hF => ?_) (fun hF => ?_)
      · exact r_sub hk [4] rfl (e56_2 v3 hF)
      · refine r_iload hk 4 (dtX1_rowsWith_0 8 (15, .iload 4, 2) rfl) rfl ?_
        refine r_aload_n hk 0 (dtX1_rowsWith_0 9 (17, .aload_n 0, 1) rfl) rfl ?_
        refine r_getR hk (k := 1) (fsX1 X i0) cbX1 (by decide) fl_X1_17 (in_st i0 hi0 0 (by decide)) (fun _ => rfl) (fun _ _ => rfl) (dtX1_rowsWith_0 10 (18, .getfield 17, 3) rfl) ?_
        refine r_iload hk 5 (dtX1_rowsWith_0 11 (21, .iload 5, 2) rfl) rfl ?_
        refine r_iald hk (in_st i0 hi0 2 (by decide)) (fun _ => rfl) hF (dtX1_rowsWith_0 12 (23, .iaload, 1) rfl) (fun v8 hF => ?_)
        refine r_iload_n hk 1 (dtX1_rowsWith_0 13 (24, .iload_n 1, 1) rfl) rfl ?_
        have j44_10 : ∀ (v9 : Int32), (J_X1_rowsWith_44 m0 v3 v4 (fun w0 w1 => L_X1_rowsWith_6 i0 p1 p2 p3 m0 n6 w0 w1)) v9 = some rv → G X K 44 [(0, .ref (xad X (1, i0, 0, 0))), (1, .int p1), (2, .int p2), (3, .int p3), (5, .int v4)] [.int v9, .int v3] m0 := by
          intro v9 hF
          unfold J_X1_rowsWith_44 at hF
          refine r_callI hF (fun v11 h H locs ls hH hS hl => run_SN hk (c_X3_asNumber (kl K) hk.2.2.2.2.2.2.2.2.2.2.2 X  v9 m0 v11 h) lk_X1_64 me_X3_asNumber yf_X3_asNumber (by decide) (by decide) rfl (Nat.le_of_ble_eq_true rfl) rfl (dtX1_rowsWith_0 24 (44, .invokestatic 64, 3) rfl) hH hS hl) (fun v11 hF => ?_)
          refine r_iadd hk hF (dtX1_rowsWith_0 25 (47, .iadd, 1) rfl) (fun v12 hF => ?_)
          refine r_istore hk [(4, .int v12), (0, .ref (xad X (1, i0, 0, 0))), (1, .int p1), (2, .int p2), (3, .int p3), (5, .int v4)] (dtX1_rowsWith_0 26 (48, .istore 4, 2) rfl) (by decide) rfl ?_
          refine r_iinc hk 1 5 (fun v13 => [(5, .int v13), (4, .int v12), (0, .ref (xad X (1, i0, 0, 0))), (1, .int p1), (2, .int p2), (3, .int p3)]) hF (dtX1_rowsWith_0 27 (50, .iinc 5 1, 3) rfl) rfl (by decide) (by decide) (fun _ => rfl) (fun v13 hF => ?_)
          refine r_goto hk 6 (dtX1_rowsWith_0 28 (53, .goto (-47), 3) rfl) (by decide) ?_
          exact r_sub hk [2, 3, 4, 5, 1, 0] rfl (ih6 v12 v13 hF)
        have j43_14 : (J_X1_rowsWith_43 m0 v3 v4 (fun w0 w1 => L_X1_rowsWith_6 i0 p1 p2 p3 m0 n6 w0 w1)) = some rv → G X K 43 [(0, .ref (xad X (1, i0, 0, 0))), (1, .int p1), (2, .int p2), (3, .int p3), (5, .int v4)] [.int v3] m0 := by
          intro hF
          unfold J_X1_rowsWith_43 at hF
          refine r_iconst (v := 0) hk (dtX1_rowsWith_0 23 (43, .iconst 0, 1) rfl) (by decide) ?_
          exact r_sub hk [0, 1, 2, 3, 4] rfl (j44_10 0 hF)
        refine r_icmp_ne hk 43 hF (dtX1_rowsWith_0 14 (25, .if_icmp .ne 18, 3) rfl) (by decide) (fun hF => ?_) (fun hF => ?_)
        · exact r_sub hk [0, 1, 2, 3, 5] rfl (j43_14 hF)
        · refine r_aload_n hk 0 (dtX1_rowsWith_0 15 (28, .aload_n 0, 1) rfl) rfl ?_
          refine r_iload hk 5 (dtX1_rowsWith_0 16 (29, .iload 5, 2) rfl) rfl ?_
          refine r_iload_n hk 2 (dtX1_rowsWith_0 17 (31, .iload_n 2, 1) rfl) rfl ?_
          refine r_callI hF (fun v15 h H locs ls hH hS hl => run_V (y := yX1_valueAt) hk (in_st i0 hi0 0 (by decide)) rfl rfl (c_X1_valueAt (kl K) hk.2.2.2.2.2.2.2.2.2.2.2 X i0 hi0 v4 p2 m0 v15 h) lk_X1_40 me_X1_valueAt yf_X1_valueAt (by decide) (by decide) rfl (Nat.le_of_ble_eq_true rfl) rfl (dtX1_rowsWith_0 18 (32, .invokevirtual 40, 3) rfl) hH hS hl) (fun v15 hF => ?_)
          refine r_iload_n hk 3 (dtX1_rowsWith_0 19 (35, .iload_n 3, 1) rfl) rfl ?_
          refine r_icmp_ne hk 43 hF (dtX1_rowsWith_0 20 (36, .if_icmp .ne 7, 3) rfl) (by decide) (fun hF => ?_) (fun hF => ?_)
          · exact r_sub hk [0, 1, 2, 3, 5] rfl (j43_14 hF)
          · refine r_iconst (v := 1) hk (dtX1_rowsWith_0 21 (39, .iconst 1, 1) rfl) (by decide) ?_
            refine r_goto hk 44 (dtX1_rowsWith_0 22 (40, .goto 4, 3) rfl) (by decide) ?_
            exact r_sub hk [0, 1, 2, 3, 5] rfl (j44_10 1 hF)
  exact r_sub hk [2, 3, 4, 5, 1, 0] rfl (l6 fu 0 0 hF)
set_option maxHeartbeats 4000000 in
set_option maxRecDepth 100000 in
theorem c_X1_rowsWithValue (l : Launch) (hlf : l.stackTraces = false) (X : XW) (i0 : Nat) (hi0 : i0 < 7) (p1 : Int32) (p2 : Int32) (m0 : Mem) (rv : Int32) (hF : F_X1_rowsWithValue i0 p1 p2 m0 = some rv) : MX X l yX1_rowsWithValue cX1_rowsWithValue 3 (some .int) 2 [.ref (xad X (1, i0, 0, 0)), .int p1, .int p2] m0 (QI X rv m0) := by
  refine startI hlf (by decide +kernel) rfl [(0, .ref (xad X (1, i0, 0, 0))), (1, .int p1), (2, .int p2)] rfl (Nat.le_of_ble_eq_true rfl) (fun K hk hR => ?_)
  unfold F_X1_rowsWithValue at hF
  refine r_aload_n hk 0 (dtX1_rowsWithValue_0 0 (0, .aload_n 0, 1) rfl) rfl ?_
  refine r_iload_n hk 1 (dtX1_rowsWithValue_0 1 (1, .iload_n 1, 1) rfl) rfl ?_
  refine r_callI hF (fun v1 h H locs ls hH hS hl => run_V (y := yX1_rowsOf) hk (in_st i0 hi0 0 (by decide)) rfl rfl (c_X1_rowsOf (kl K) hk.2.2.2.2.2.2.2.2.2.2.2 X i0 hi0 p1 m0 v1 h) lk_X1_71 me_X1_rowsOf yf_X1_rowsOf (by decide) (by decide) rfl (Nat.le_of_ble_eq_true rfl) rfl (dtX1_rowsWithValue_0 2 (2, .invokevirtual 71, 3) rfl) hH hS hl) (fun v1 hF => ?_)
  refine r_aload_n hk 0 (dtX1_rowsWithValue_0 3 (5, .aload_n 0, 1) rfl) rfl ?_
  refine r_iload_n hk 1 (dtX1_rowsWithValue_0 4 (6, .iload_n 1, 1) rfl) rfl ?_
  refine r_iload_n hk 2 (dtX1_rowsWithValue_0 5 (7, .iload_n 2, 1) rfl) rfl ?_
  refine r_ldc hk cn_X1_39 (dtX1_rowsWithValue_0 6 (8, .ldc 39, 2) rfl) ?_
  refine r_callI hF (fun v2 h H locs ls hH hS hl => run_V (y := yX1_rowsWith) hk (in_st i0 hi0 0 (by decide)) rfl rfl (c_X1_rowsWith (kl K) hk.2.2.2.2.2.2.2.2.2.2.2 X i0 hi0 p1 p2 (-1000000) m0 v2 h) lk_X1_74 me_X1_rowsWith yf_X1_rowsWith (by decide) (by decide) rfl (Nat.le_of_ble_eq_true rfl) rfl (dtX1_rowsWithValue_0 7 (10, .invokevirtual 74, 3) rfl) hH hS hl) (fun v2 hF => ?_)
  refine r_isub hk hF (dtX1_rowsWithValue_0 8 (13, .isub, 1) rfl) (fun v3 hF => ?_)
  cases Option.some.inj hF
  exact hR _ _ (dtX1_rowsWithValue_0 9 (14, .ireturn, 1) rfl)
set_option maxHeartbeats 4000000 in
set_option maxRecDepth 100000 in
theorem c_X1_sumOf (l : Launch) (hlf : l.stackTraces = false) (X : XW) (i0 : Nat) (hi0 : i0 < 7) (p1 : Int32) (p2 : Int32) (m0 : Mem) (rv : Int32) (hF : F_X1_sumOf i0 p1 p2 m0 = some rv) : MX X l yX1_sumOf cX1_sumOf 6 (some .int) 1 [.ref (xad X (1, i0, 0, 0)), .int p1, .int p2] m0 (QI X rv m0) := by
  refine startI hlf (by decide +kernel) rfl [(0, .ref (xad X (1, i0, 0, 0))), (1, .int p1), (2, .int p2)] rfl (Nat.le_of_ble_eq_true rfl) (fun K hk hR => ?_)
  unfold F_X1_sumOf at hF
  refine r_iconst (v := 0) hk (dtX1_sumOf_0 0 (0, .iconst 0, 1) rfl) (by decide) ?_
  refine r_istore_n hk [(3, .int 0), (0, .ref (xad X (1, i0, 0, 0))), (1, .int p1), (2, .int p2)] (dtX1_sumOf_0 1 (1, .istore_n 3, 1) rfl) (by decide) rfl ?_
  refine r_iconst (v := 0) hk (dtX1_sumOf_0 2 (2, .iconst 0, 1) rfl) (by decide) ?_
  refine r_istore hk [(4, .int 0), (3, .int 0), (0, .ref (xad X (1, i0, 0, 0))), (1, .int p1), (2, .int p2)] (dtX1_sumOf_0 3 (3, .istore 4, 2) rfl) (by decide) rfl ?_
  have e56_2 : ∀ (v1 : Int32), C_X1_sumOf_56 v1 = some rv → G X K 56 [(3, .int v1)] [] m0 := by
    intro v1 hF
    unfold C_X1_sumOf_56 at hF
    refine r_iload_n hk 0 (dtX1_sumOf_0 30 (56, .iload_n 3, 1) rfl) rfl ?_
    cases Option.some.inj hF
    exact hR _ _ (dtX1_sumOf_0 31 (57, .ireturn, 1) rfl)
  have l6 : ∀ (n6 : Nat) (v3 : Int32) (v4 : Int32), L_X1_sumOf_5 i0 p1 p2 m0 n6 v3 v4 = some rv → G X K 5 [(0, .ref (xad X (1, i0, 0, 0))), (1, .int p1), (2, .int p2), (3, .int v3), (4, .int v4)] [] m0 := by
    intro n6
    induction n6 with
    | zero => intro v3 v4 hF; exact nomatch (show (none : Option Int32) = some rv from hF)
    | succ n6 ih6 =>
      intro v3 v4 hF
      rw [L_X1_sumOf_5] at hF
      refine r_iload hk 4 (dtX1_sumOf_0 4 (5, .iload 4, 2) rfl) rfl ?_
      refine r_aload_n hk 0 (dtX1_sumOf_0 5 (7, .aload_n 0, 1) rfl) rfl ?_
      refine r_getI hk (k := 3) (fsX1 X i0) cbX1 (by decide) fl_X1_29 (in_st i0 hi0 0 (by decide)) (fun _ => rfl) (fun _ _ => rfl) hF (dtX1_sumOf_0 6 (8, .getfield 29, 3) rfl) (fun v7 hF => ?_)
      refine r_icmp_ge hk 56 hF (dtX1_sumOf_0 7 (11, .if_icmp .ge 45, 3) rfl) (by decide) (fun hF => ?_) (fun hF => ?_)
      · exact r_sub hk [3] rfl (e56_2 v3 hF)
      · refine r_aload_n hk 0 (dtX1_sumOf_0 8 (14, .aload_n 0, 1) rfl) rfl ?_
        refine r_iload hk 4 (dtX1_sumOf_0 9 (15, .iload 4, 2) rfl) rfl ?_
        refine r_iload_n hk 2 (dtX1_sumOf_0 10 (17, .iload_n 2, 1) rfl) rfl ?_
        refine r_callI hF (fun v8 h H locs ls hH hS hl => run_V (y := yX1_valueAt) hk (in_st i0 hi0 0 (by decide)) rfl rfl (c_X1_valueAt (kl K) hk.2.2.2.2.2.2.2.2.2.2.2 X i0 hi0 v4 p2 m0 v8 h) lk_X1_40 me_X1_valueAt yf_X1_valueAt (by decide) (by decide) rfl (Nat.le_of_ble_eq_true rfl) rfl (dtX1_sumOf_0 11 (18, .invokevirtual 40, 3) rfl) hH hS hl) (fun v8 hF => ?_)
        refine r_istore hk [(5, .int v8), (0, .ref (xad X (1, i0, 0, 0))), (1, .int p1), (2, .int p2), (3, .int v3), (4, .int v4)] (dtX1_sumOf_0 12 (21, .istore 5, 2) rfl) (by decide) rfl ?_
        refine r_iload_n hk 4 (dtX1_sumOf_0 13 (23, .iload_n 3, 1) rfl) rfl ?_
        refine r_aload_n hk 1 (dtX1_sumOf_0 14 (24, .aload_n 0, 1) rfl) rfl ?_
        refine r_getR hk (k := 1) (fsX1 X i0) cbX1 (by decide) fl_X1_17 (in_st i0 hi0 0 (by decide)) (fun _ => rfl) (fun _ _ => rfl) (dtX1_sumOf_0 15 (25, .getfield 17, 3) rfl) ?_
        refine r_iload hk 5 (dtX1_sumOf_0 16 (28, .iload 4, 2) rfl) rfl ?_
        refine r_iald hk (in_st i0 hi0 2 (by decide)) (fun _ => rfl) hF (dtX1_sumOf_0 17 (30, .iaload, 1) rfl) (fun v9 hF => ?_)
        refine r_iload_n hk 2 (dtX1_sumOf_0 18 (31, .iload_n 1, 1) rfl) rfl ?_
        have j48_11 : ∀ (v10 : Int32), (J_X1_sumOf_48 v3 v4 (fun w0 w1 => L_X1_sumOf_5 i0 p1 p2 m0 n6 w0 w1)) v10 = some rv → G X K 48 [(0, .ref (xad X (1, i0, 0, 0))), (1, .int p1), (2, .int p2), (4, .int v4)] [.int v10, .int v3] m0 := by
          intro v10 hF
          unfold J_X1_sumOf_48 at hF
          refine r_iadd hk hF (dtX1_sumOf_0 26 (48, .iadd, 1) rfl) (fun v12 hF => ?_)
          refine r_istore_n hk [(3, .int v12), (0, .ref (xad X (1, i0, 0, 0))), (1, .int p1), (2, .int p2), (4, .int v4)] (dtX1_sumOf_0 27 (49, .istore_n 3, 1) rfl) (by decide) rfl ?_
          refine r_iinc hk 1 4 (fun v13 => [(4, .int v13), (3, .int v12), (0, .ref (xad X (1, i0, 0, 0))), (1, .int p1), (2, .int p2)]) hF (dtX1_sumOf_0 28 (50, .iinc 4 1, 3) rfl) rfl (by decide) (by decide) (fun _ => rfl) (fun v13 hF => ?_)
          refine r_goto hk 5 (dtX1_sumOf_0 29 (53, .goto (-48), 3) rfl) (by decide) ?_
          exact r_sub hk [2, 3, 4, 1, 0] rfl (ih6 v12 v13 hF)
        have j47_14 : (J_X1_sumOf_47 v3 v4 (fun w0 w1 => L_X1_sumOf_5 i0 p1 p2 m0 n6 w0 w1)) = some rv → G X K 47 [(0, .ref (xad X (1, i0, 0, 0))), (1, .int p1), (2, .int p2), (4, .int v4)] [.int v3] m0 := by
          intro hF
          unfold J_X1_sumOf_47 at hF
          refine r_iconst (v := 0) hk (dtX1_sumOf_0 25 (47, .iconst 0, 1) rfl) (by decide) ?_
          exact r_sub hk [0, 1, 2, 3] rfl (j48_11 0 hF)
        refine r_icmp_ne hk 47 hF (dtX1_sumOf_0 19 (32, .if_icmp .ne 15, 3) rfl) (by decide) (fun hF => ?_) (fun hF => ?_)
        · exact r_sub hk [1, 2, 3, 5] rfl (j47_14 hF)
        · refine r_iload hk 0 (dtX1_sumOf_0 20 (35, .iload 5, 2) rfl) rfl ?_
          refine r_ldc hk cn_X1_39 (dtX1_sumOf_0 21 (37, .ldc 39, 2) rfl) ?_
          refine r_icmp_eq hk 47 hF (dtX1_sumOf_0 22 (39, .if_icmp .eq 8, 3) rfl) (by decide) (fun hF => ?_) (fun hF => ?_)
          · exact r_sub hk [1, 2, 3, 5] rfl (j47_14 hF)
          · refine r_iload hk 0 (dtX1_sumOf_0 23 (42, .iload 5, 2) rfl) rfl ?_
            refine r_goto hk 48 (dtX1_sumOf_0 24 (44, .goto 4, 3) rfl) (by decide) ?_
            exact r_sub hk [1, 2, 3, 5] rfl (j48_11 v8 hF)
  exact r_sub hk [2, 3, 4, 1, 0] rfl (l6 fu 0 0 hF)
set_option maxHeartbeats 4000000 in
set_option maxRecDepth 100000 in
theorem c_X1_standsAhead (l : Launch) (hlf : l.stackTraces = false) (X : XW) (i0 : Nat) (hi0 : i0 < 7) (p1 : Int32) (p2 : Int32) (p3 : Int32) (m0 : Mem) (rv : Int32) (hF : F_X1_standsAhead i0 p1 p2 p3 m0 = some rv) : MX X l yX1_standsAhead cX1_standsAhead 6 (some .boolean) 1 [.ref (xad X (1, i0, 0, 0)), .int p1, .int p2, .int p3] m0 (QI X rv m0) := by
  refine startZ hlf (by decide +kernel) rfl [(0, .ref (xad X (1, i0, 0, 0))), (1, .int p1), (2, .int p2), (3, .int p3)] rfl (Nat.le_of_ble_eq_true rfl) (fun K hk hR => ?_)
  unfold F_X1_standsAhead at hF
  refine r_aload_n hk 0 (dtX1_standsAhead_0 0 (0, .aload_n 0, 1) rfl) rfl ?_
  refine r_iload_n hk 3 (dtX1_standsAhead_0 1 (1, .iload_n 3, 1) rfl) rfl ?_
  refine r_iload_n hk 2 (dtX1_standsAhead_0 2 (2, .iload_n 2, 1) rfl) rfl ?_
  refine r_callI hF (fun v1 h H locs ls hH hS hl => run_V (y := yX1_valueAt) hk (in_st i0 hi0 0 (by decide)) rfl rfl (c_X1_valueAt (kl K) hk.2.2.2.2.2.2.2.2.2.2.2 X i0 hi0 p3 p2 m0 v1 h) lk_X1_40 me_X1_valueAt yf_X1_valueAt (by decide) (by decide) rfl (Nat.le_of_ble_eq_true rfl) rfl (dtX1_standsAhead_0 3 (3, .invokevirtual 40, 3) rfl) hH hS hl) (fun v1 hF => ?_)
  refine r_istore hk [(4, .int v1), (0, .ref (xad X (1, i0, 0, 0))), (1, .int p1), (2, .int p2), (3, .int p3)] (dtX1_standsAhead_0 4 (6, .istore 4, 2) rfl) (by decide) rfl ?_
  refine r_iconst (v := 0) hk (dtX1_standsAhead_0 5 (8, .iconst 0, 1) rfl) (by decide) ?_
  refine r_istore hk [(5, .int 0), (4, .int v1), (0, .ref (xad X (1, i0, 0, 0))), (1, .int p1), (2, .int p2), (3, .int p3)] (dtX1_standsAhead_0 6 (9, .istore 5, 2) rfl) (by decide) rfl ?_
  have e48_2 : C_X1_standsAhead_48 = some rv → G X K 48 [] [] m0 := by
    intro hF
    unfold C_X1_standsAhead_48 at hF
    refine r_iconst (v := 0) hk (dtX1_standsAhead_0 26 (48, .iconst 0, 1) rfl) (by decide) ?_
    obtain ⟨hz, hF⟩ := ck_some hF
    cases Option.some.inj hF
    exact hR _ _ hz (dtX1_standsAhead_0 27 (49, .ireturn, 1) rfl)
  have l5 : ∀ (n5 : Nat) (v3 : Int32), L_X1_standsAhead_11 i0 p1 p2 p3 m0 v1 n5 v3 = some rv → G X K 11 [(0, .ref (xad X (1, i0, 0, 0))), (1, .int p1), (2, .int p2), (3, .int p3), (4, .int v1), (5, .int v3)] [] m0 := by
    intro n5
    induction n5 with
    | zero => intro v3 hF; exact nomatch (show (none : Option Int32) = some rv from hF)
    | succ n5 ih5 =>
      intro v3 hF
      rw [L_X1_standsAhead_11] at hF
      refine r_iload hk 5 (dtX1_standsAhead_0 7 (11, .iload 5, 2) rfl) rfl ?_
      refine r_iload_n hk 3 (dtX1_standsAhead_0 8 (13, .iload_n 3, 1) rfl) rfl ?_
      refine r_icmp_ge hk 48 hF (dtX1_standsAhead_0 9 (14, .if_icmp .ge 34, 3) rfl) (by decide) (fun hF => ?_) (fun hF => ?_)
      · exact r_sub hk [] rfl (e48_2 hF)
      · refine r_aload_n hk 0 (dtX1_standsAhead_0 10 (17, .aload_n 0, 1) rfl) rfl ?_
        refine r_getR hk (k := 1) (fsX1 X i0) cbX1 (by decide) fl_X1_17 (in_st i0 hi0 0 (by decide)) (fun _ => rfl) (fun _ _ => rfl) (dtX1_standsAhead_0 11 (18, .getfield 17, 3) rfl) ?_
        refine r_iload hk 5 (dtX1_standsAhead_0 12 (21, .iload 5, 2) rfl) rfl ?_
        refine r_iald hk (in_st i0 hi0 2 (by decide)) (fun _ => rfl) hF (dtX1_standsAhead_0 13 (23, .iaload, 1) rfl) (fun v6 hF => ?_)
        refine r_iload_n hk 1 (dtX1_standsAhead_0 14 (24, .iload_n 1, 1) rfl) rfl ?_
        have j42_7 : (J_X1_standsAhead_42 v3 (fun w0 => L_X1_standsAhead_11 i0 p1 p2 p3 m0 v1 n5 w0)) = some rv → G X K 42 [(0, .ref (xad X (1, i0, 0, 0))), (1, .int p1), (2, .int p2), (3, .int p3), (4, .int v1), (5, .int v3)] [] m0 := by
          intro hF
          unfold J_X1_standsAhead_42 at hF
          refine r_iinc hk 1 5 (fun v8 => [(5, .int v8), (0, .ref (xad X (1, i0, 0, 0))), (1, .int p1), (2, .int p2), (3, .int p3), (4, .int v1)]) hF (dtX1_standsAhead_0 24 (42, .iinc 5 1, 3) rfl) rfl (by decide) (by decide) (fun _ => rfl) (fun v8 hF => ?_)
          refine r_goto hk 11 (dtX1_standsAhead_0 25 (45, .goto (-34), 3) rfl) (by decide) ?_
          exact r_sub hk [1, 2, 3, 4, 5, 0] rfl (ih5 v8 hF)
        refine r_icmp_ne hk 42 hF (dtX1_standsAhead_0 15 (25, .if_icmp .ne 17, 3) rfl) (by decide) (fun hF => ?_) (fun hF => ?_)
        · exact r_sub hk [0, 1, 2, 3, 4, 5] rfl (j42_7 hF)
        · refine r_aload_n hk 0 (dtX1_standsAhead_0 16 (28, .aload_n 0, 1) rfl) rfl ?_
          refine r_iload hk 5 (dtX1_standsAhead_0 17 (29, .iload 5, 2) rfl) rfl ?_
          refine r_iload_n hk 2 (dtX1_standsAhead_0 18 (31, .iload_n 2, 1) rfl) rfl ?_
          refine r_callI hF (fun v9 h H locs ls hH hS hl => run_V (y := yX1_valueAt) hk (in_st i0 hi0 0 (by decide)) rfl rfl (c_X1_valueAt (kl K) hk.2.2.2.2.2.2.2.2.2.2.2 X i0 hi0 v3 p2 m0 v9 h) lk_X1_40 me_X1_valueAt yf_X1_valueAt (by decide) (by decide) rfl (Nat.le_of_ble_eq_true rfl) rfl (dtX1_standsAhead_0 19 (32, .invokevirtual 40, 3) rfl) hH hS hl) (fun v9 hF => ?_)
          refine r_iload hk 4 (dtX1_standsAhead_0 20 (35, .iload 4, 2) rfl) rfl ?_
          refine r_icmp_ne hk 42 hF (dtX1_standsAhead_0 21 (37, .if_icmp .ne 5, 3) rfl) (by decide) (fun hF => ?_) (fun hF => ?_)
          · exact r_sub hk [0, 1, 2, 3, 4, 5] rfl (j42_7 hF)
          · refine r_iconst (v := 1) hk (dtX1_standsAhead_0 22 (40, .iconst 1, 1) rfl) (by decide) ?_
            obtain ⟨hz, hF⟩ := ck_some hF
            cases Option.some.inj hF
            exact hR _ _ hz (dtX1_standsAhead_0 23 (41, .ireturn, 1) rfl)
  exact r_sub hk [2, 3, 4, 5, 1, 0] rfl (l5 fu 0 hF)
set_option maxHeartbeats 4000000 in
set_option maxRecDepth 100000 in
theorem c_X1_unlikeValues (l : Launch) (hlf : l.stackTraces = false) (X : XW) (i0 : Nat) (hi0 : i0 < 7) (p1 : Int32) (p2 : Int32) (m0 : Mem) (rv : Int32) (hF : F_X1_unlikeValues i0 p1 p2 m0 = some rv) : MX X l yX1_unlikeValues cX1_unlikeValues 5 (some .int) 2 [.ref (xad X (1, i0, 0, 0)), .int p1, .int p2] m0 (QI X rv m0) := by
  refine startI hlf (by decide +kernel) rfl [(0, .ref (xad X (1, i0, 0, 0))), (1, .int p1), (2, .int p2)] rfl (Nat.le_of_ble_eq_true rfl) (fun K hk hR => ?_)
  unfold F_X1_unlikeValues at hF
  refine r_iconst (v := 0) hk (dtX1_unlikeValues_0 0 (0, .iconst 0, 1) rfl) (by decide) ?_
  refine r_istore_n hk [(3, .int 0), (0, .ref (xad X (1, i0, 0, 0))), (1, .int p1), (2, .int p2)] (dtX1_unlikeValues_0 1 (1, .istore_n 3, 1) rfl) (by decide) rfl ?_
  refine r_iconst (v := 0) hk (dtX1_unlikeValues_0 2 (2, .iconst 0, 1) rfl) (by decide) ?_
  refine r_istore hk [(4, .int 0), (3, .int 0), (0, .ref (xad X (1, i0, 0, 0))), (1, .int p1), (2, .int p2)] (dtX1_unlikeValues_0 3 (3, .istore 4, 2) rfl) (by decide) rfl ?_
  have e65_2 : ∀ (v1 : Int32), C_X1_unlikeValues_65 v1 = some rv → G X K 65 [(3, .int v1)] [] m0 := by
    intro v1 hF
    unfold C_X1_unlikeValues_65 at hF
    refine r_iload_n hk 0 (dtX1_unlikeValues_0 35 (65, .iload_n 3, 1) rfl) rfl ?_
    cases Option.some.inj hF
    exact hR _ _ (dtX1_unlikeValues_0 36 (66, .ireturn, 1) rfl)
  have l6 : ∀ (n6 : Nat) (v3 : Int32) (v4 : Int32), L_X1_unlikeValues_5 i0 p1 p2 m0 n6 v3 v4 = some rv → G X K 5 [(0, .ref (xad X (1, i0, 0, 0))), (1, .int p1), (2, .int p2), (3, .int v3), (4, .int v4)] [] m0 := by
    intro n6
    induction n6 with
    | zero => intro v3 v4 hF; exact nomatch (show (none : Option Int32) = some rv from hF)
    | succ n6 ih6 =>
      intro v3 v4 hF
      rw [L_X1_unlikeValues_5] at hF
      refine r_iload hk 4 (dtX1_unlikeValues_0 4 (5, .iload 4, 2) rfl) rfl ?_
      refine r_aload_n hk 0 (dtX1_unlikeValues_0 5 (7, .aload_n 0, 1) rfl) rfl ?_
      refine r_getI hk (k := 3) (fsX1 X i0) cbX1 (by decide) fl_X1_29 (in_st i0 hi0 0 (by decide)) (fun _ => rfl) (fun _ _ => rfl) hF (dtX1_unlikeValues_0 6 (8, .getfield 29, 3) rfl) (fun v7 hF => ?_)
      refine r_icmp_ge hk 65 hF (dtX1_unlikeValues_0 7 (11, .if_icmp .ge 54, 3) rfl) (by decide) (fun hF => ?_) (fun hF => ?_)
      · exact r_sub hk [3] rfl (e65_2 v3 hF)
      · refine r_aload_n hk 0 (dtX1_unlikeValues_0 8 (14, .aload_n 0, 1) rfl) rfl ?_
        refine r_getR hk (k := 1) (fsX1 X i0) cbX1 (by decide) fl_X1_17 (in_st i0 hi0 0 (by decide)) (fun _ => rfl) (fun _ _ => rfl) (dtX1_unlikeValues_0 9 (15, .getfield 17, 3) rfl) ?_
        refine r_iload hk 4 (dtX1_unlikeValues_0 10 (18, .iload 4, 2) rfl) rfl ?_
        refine r_iald hk (in_st i0 hi0 2 (by decide)) (fun _ => rfl) hF (dtX1_unlikeValues_0 11 (20, .iaload, 1) rfl) (fun v8 hF => ?_)
        refine r_iload_n hk 1 (dtX1_unlikeValues_0 12 (21, .iload_n 1, 1) rfl) rfl ?_
        have j59_10 : ∀ (v9 : Int32), (J_X1_unlikeValues_59 v4 (fun w0 w1 => L_X1_unlikeValues_5 i0 p1 p2 m0 n6 w0 w1)) v9 = some rv → G X K 59 [(0, .ref (xad X (1, i0, 0, 0))), (1, .int p1), (2, .int p2), (3, .int v9), (4, .int v4)] [] m0 := by
          intro v9 hF
          unfold J_X1_unlikeValues_59 at hF
          refine r_iinc hk 1 4 (fun v11 => [(4, .int v11), (0, .ref (xad X (1, i0, 0, 0))), (1, .int p1), (2, .int p2), (3, .int v9)]) hF (dtX1_unlikeValues_0 33 (59, .iinc 4 1, 3) rfl) rfl (by decide) (by decide) (fun _ => rfl) (fun v11 hF => ?_)
          refine r_goto hk 5 (dtX1_unlikeValues_0 34 (62, .goto (-57), 3) rfl) (by decide) ?_
          exact r_sub hk [1, 2, 3, 4, 0] rfl (ih6 v9 v11 hF)
        refine r_icmp_ne hk 59 hF (dtX1_unlikeValues_0 13 (22, .if_icmp .ne 37, 3) rfl) (by decide) (fun hF => ?_) (fun hF => ?_)
        · exact r_sub hk [0, 1, 2, 3, 4] rfl (j59_10 v3 hF)
        · refine r_aload_n hk 0 (dtX1_unlikeValues_0 14 (25, .aload_n 0, 1) rfl) rfl ?_
          refine r_iload hk 4 (dtX1_unlikeValues_0 15 (26, .iload 4, 2) rfl) rfl ?_
          refine r_iload_n hk 2 (dtX1_unlikeValues_0 16 (28, .iload_n 2, 1) rfl) rfl ?_
          refine r_callI hF (fun v12 h H locs ls hH hS hl => run_V (y := yX1_valueAt) hk (in_st i0 hi0 0 (by decide)) rfl rfl (c_X1_valueAt (kl K) hk.2.2.2.2.2.2.2.2.2.2.2 X i0 hi0 v4 p2 m0 v12 h) lk_X1_40 me_X1_valueAt yf_X1_valueAt (by decide) (by decide) rfl (Nat.le_of_ble_eq_true rfl) rfl (dtX1_unlikeValues_0 17 (29, .invokevirtual 40, 3) rfl) hH hS hl) (fun v12 hF => ?_)
          refine r_ldc hk cn_X1_39 (dtX1_unlikeValues_0 18 (32, .ldc 39, 2) rfl) ?_
          refine r_icmp_eq hk 59 hF (dtX1_unlikeValues_0 19 (34, .if_icmp .eq 25, 3) rfl) (by decide) (fun hF => ?_) (fun hF => ?_)
          · exact r_sub hk [0, 1, 2, 3, 4] rfl (j59_10 v3 hF)
          · refine r_iload_n hk 3 (dtX1_unlikeValues_0 20 (37, .iload_n 3, 1) rfl) rfl ?_
            refine r_aload_n hk 0 (dtX1_unlikeValues_0 21 (38, .aload_n 0, 1) rfl) rfl ?_
            refine r_iload_n hk 1 (dtX1_unlikeValues_0 22 (39, .iload_n 1, 1) rfl) rfl ?_
            refine r_iload_n hk 2 (dtX1_unlikeValues_0 23 (40, .iload_n 2, 1) rfl) rfl ?_
            refine r_iload hk 4 (dtX1_unlikeValues_0 24 (41, .iload 4, 2) rfl) rfl ?_
            refine r_callI hF (fun v13 h H locs ls hH hS hl => run_V (y := yX1_standsAhead) hk (in_st i0 hi0 0 (by decide)) rfl rfl (c_X1_standsAhead (kl K) hk.2.2.2.2.2.2.2.2.2.2.2 X i0 hi0 p1 p2 v4 m0 v13 h) lk_X1_78 me_X1_standsAhead yf_X1_standsAhead (by decide) (by decide) rfl (Nat.le_of_ble_eq_true rfl) rfl (dtX1_unlikeValues_0 25 (43, .invokevirtual 78, 3) rfl) hH hS hl) (fun v13 hF => ?_)
            have j54_15 : ∀ (v14 : Int32), (J_X1_unlikeValues_54 m0 v3 v4 (fun w0 w1 => L_X1_unlikeValues_5 i0 p1 p2 m0 n6 w0 w1)) v14 = some rv → G X K 54 [(0, .ref (xad X (1, i0, 0, 0))), (1, .int p1), (2, .int p2), (4, .int v4)] [.int v14, .int v3] m0 := by
              intro v14 hF
              unfold J_X1_unlikeValues_54 at hF
              refine r_callI hF (fun v16 h H locs ls hH hS hl => run_SN hk (c_X3_asNumber (kl K) hk.2.2.2.2.2.2.2.2.2.2.2 X  v14 m0 v16 h) lk_X1_64 me_X3_asNumber yf_X3_asNumber (by decide) (by decide) rfl (Nat.le_of_ble_eq_true rfl) rfl (dtX1_unlikeValues_0 30 (54, .invokestatic 64, 3) rfl) hH hS hl) (fun v16 hF => ?_)
              refine r_iadd hk hF (dtX1_unlikeValues_0 31 (57, .iadd, 1) rfl) (fun v17 hF => ?_)
              refine r_istore_n hk [(3, .int v17), (0, .ref (xad X (1, i0, 0, 0))), (1, .int p1), (2, .int p2), (4, .int v4)] (dtX1_unlikeValues_0 32 (58, .istore_n 3, 1) rfl) (by decide) rfl ?_
              exact r_sub hk [1, 2, 3, 0, 4] rfl (j59_10 v17 hF)
            refine r_if_ne hk 53 hF (dtX1_unlikeValues_0 26 (46, .ifCond .ne 7, 3) rfl) (by decide) (fun hF => ?_) (fun hF => ?_)
            · refine r_iconst (v := 0) hk (dtX1_unlikeValues_0 29 (53, .iconst 0, 1) rfl) (by decide) ?_
              exact r_sub hk [0, 1, 2, 4] rfl (j54_15 0 hF)
            · refine r_iconst (v := 1) hk (dtX1_unlikeValues_0 27 (49, .iconst 1, 1) rfl) (by decide) ?_
              refine r_goto hk 54 (dtX1_unlikeValues_0 28 (50, .goto 4, 3) rfl) (by decide) ?_
              exact r_sub hk [0, 1, 2, 4] rfl (j54_15 1 hF)
  exact r_sub hk [2, 3, 4, 1, 0] rfl (l6 fu 0 0 hF)
set_option maxHeartbeats 4000000 in
set_option maxRecDepth 100000 in
theorem c_X3_column (l : Launch) (hlf : l.stackTraces = false) (X : XW)  (p1 : Int32) (p2 : Int32) (p3 : Int32) (m0 : Mem) (rv : Int32 ⊕ Nat) (hF : F_X3_column p1 p2 p3 m0 = some rv) : MT X l yX3_column cX3_column 5 (some .int) 8 [.ref (xad X (0, 0, 0, 0)), .int p1, .int p2, .int p3] m0 rv m0 (QTI X rv m0) := by
  refine startTI hlf (by decide +kernel) rfl [(0, .ref (xad X (0, 0, 0, 0))), (1, .int p1), (2, .int p2), (3, .int p3)] rfl (Nat.le_of_ble_eq_true rfl) (fun K hk hR hX => ?_)
  unfold F_X3_column at hF
  refine r_iload_n hk 1 (dtX3_column_0 0 (0, .iload_n 1, 1) rfl) rfl ?_
  refine r_callI hF (fun v1 h H locs ls hH hS hl => run_S hk (c_X3_isTenant (kl K) hk.2.2.2.2.2.2.2.2.2.2.2 X  p1 m0 v1 h) lk_X3_34 me_X3_isTenant yf_X3_isTenant (by decide) (by decide) rfl (Nat.le_of_ble_eq_true rfl) rfl (dtX3_column_0 1 (1, .invokestatic 34, 3) rfl) hH hS hl) (fun v1 hF => ?_)
  have j31_3 : ∀ (v2 : Int32), (J_X3_column_31 p1 p2 p3 m0) v2 = some rv → G X K 31 [(0, .ref (xad X (0, 0, 0, 0))), (1, .int p1), (2, .int p2), (3, .int p3)] [.int v2] m0 := by
    intro v2 hF
    unfold J_X3_column_31 at hF
    refine r_callVts hk hF (fun c h => by cases Option.some.inj h; exact hX c rfl) (fun R h hf H locs ls hH hS hl => runT_S hk (c_X3_require (kl K) hk.2.2.2.2.2.2.2.2.2.2.2 X  v2 m0 R h) lk_X3_41 me_X3_require yf_X3_require (by decide) (by decide) rfl (Nat.le_of_ble_eq_true rfl) rfl (dtX3_column_0 16 (31, .invokestatic 41, 3) rfl) hf hH hS hl) (fun _ hF => ?_)
    refine r_aload_n hk 0 (dtX3_column_0 17 (34, .aload_n 0, 1) rfl) rfl ?_
    refine r_getS hk fl_X3_30 hF (dtX3_column_0 18 (35, .getfield 30, 3) rfl) (fun q4 hq4 hF => ?_)
    refine r_getR hk (k := 0) (fsX1 X q4) cbX1 (by decide) fl_X3_49 (in_st q4 hq4 0 (by decide)) (fun _ => rfl) (fun _ _ => rfl) (dtX3_column_0 19 (38, .getfield 49, 3) rfl) ?_
    refine r_iload_n hk 1 (dtX3_column_0 20 (41, .iload_n 1, 1) rfl) rfl ?_
    refine r_aldT hk hq4 hF (dtX3_column_0 21 (42, .aaload, 1) rfl) (fun q5 hq5 hF => ?_)
    refine r_astore hk [(4, .ref (xad X (2, q4, q5, 0))), (0, .ref (xad X (0, 0, 0, 0))), (1, .int p1), (2, .int p2), (3, .int p3)] (dtX3_column_0 22 (43, .astore 4, 2) rfl) (by decide) rfl ?_
    refine r_aload hk 0 (dtX3_column_0 23 (45, .aload 4, 2) rfl) rfl ?_
    refine r_getR hk (k := 0) (fsX2 X q4 q5) cbX2 (by decide) fl_X3_86 (in_tn q4 hq4 q5 hq5 0 (by decide)) (fun _ => rfl) (fun _ _ => rfl) (dtX3_column_0 24 (47, .getfield 86, 3) rfl) ?_
    refine r_iload_n hk 3 (dtX3_column_0 25 (50, .iload_n 2, 1) rfl) rfl ?_
    refine r_iald hk (in_tn q4 hq4 q5 hq5 1 (by decide)) (fun _ => rfl) hF (dtX3_column_0 26 (51, .iaload, 1) rfl) (fun v6 hF => ?_)
    refine r_iconst (v := (-1)) hk (dtX3_column_0 27 (52, .iconst (-1), 1) rfl) (by decide) ?_
    refine r_icmp_ne hk 58 hF (dtX3_column_0 28 (53, .if_icmp .ne 5, 3) rfl) (by decide) (fun hF => ?_) (fun hF => ?_)
    · refine r_iload_n hk 4 (dtX3_column_0 31 (58, .iload_n 3, 1) rfl) rfl ?_
      by_cases hs59_0 : p3 = 0
      · rw [if_pos hs59_0] at hF
        refine r_tabIn hk 92 (dtX3_column_0 32 (59, .tableswitch 83 0 4 #[33, 41, 49, 60, 70], 33) rfl) (by rw [hs59_0]; decide) (by rw [hs59_0]; decide) (by rw [hs59_0]; rfl) (by decide) ?_
        refine r_aload hk 0 (dtX3_column_0 33 (92, .aload 4, 2) rfl) rfl ?_
        refine r_getR hk (k := 0) (fsX2 X q4 q5) cbX2 (by decide) fl_X3_86 (in_tn q4 hq4 q5 hq5 0 (by decide)) (fun _ => rfl) (fun _ _ => rfl) (dtX3_column_0 34 (94, .getfield 86, 3) rfl) ?_
        refine r_iload_n hk 3 (dtX3_column_0 35 (97, .iload_n 2, 1) rfl) rfl ?_
        refine r_iald hk (in_tn q4 hq4 q5 hq5 1 (by decide)) (fun _ => rfl) hF (dtX3_column_0 36 (98, .iaload, 1) rfl) (fun v7 hF => ?_)
        cases Option.some.inj hF
        exact hR v7 rfl _ _ (dtX3_column_0 37 (99, .ireturn, 1) rfl)
      · rw [if_neg hs59_0] at hF
        by_cases hs59_1 : p3 = 1
        · rw [if_pos hs59_1] at hF
          refine r_tabIn hk 100 (dtX3_column_0 32 (59, .tableswitch 83 0 4 #[33, 41, 49, 60, 70], 33) rfl) (by rw [hs59_1]; decide) (by rw [hs59_1]; decide) (by rw [hs59_1]; rfl) (by decide) ?_
          refine r_aload hk 0 (dtX3_column_0 38 (100, .aload 4, 2) rfl) rfl ?_
          refine r_getR hk (k := 1) (fsX2 X q4 q5) cbX2 (by decide) fl_X3_89 (in_tn q4 hq4 q5 hq5 0 (by decide)) (fun _ => rfl) (fun _ _ => rfl) (dtX3_column_0 39 (102, .getfield 89, 3) rfl) ?_
          refine r_iload_n hk 3 (dtX3_column_0 40 (105, .iload_n 2, 1) rfl) rfl ?_
          refine r_iald hk (in_tn q4 hq4 q5 hq5 2 (by decide)) (fun _ => rfl) hF (dtX3_column_0 41 (106, .iaload, 1) rfl) (fun v8 hF => ?_)
          cases Option.some.inj hF
          exact hR v8 rfl _ _ (dtX3_column_0 42 (107, .ireturn, 1) rfl)
        · rw [if_neg hs59_1] at hF
          by_cases hs59_2 : p3 = 2
          · rw [if_pos hs59_2] at hF
            refine r_tabIn hk 108 (dtX3_column_0 32 (59, .tableswitch 83 0 4 #[33, 41, 49, 60, 70], 33) rfl) (by rw [hs59_2]; decide) (by rw [hs59_2]; decide) (by rw [hs59_2]; rfl) (by decide) ?_
            refine r_aload hk 0 (dtX3_column_0 43 (108, .aload 4, 2) rfl) rfl ?_
            refine r_getR hk (k := 2) (fsX2 X q4 q5) cbX2 (by decide) fl_X3_92 (in_tn q4 hq4 q5 hq5 0 (by decide)) (fun _ => rfl) (fun _ _ => rfl) (dtX3_column_0 44 (110, .getfield 92, 3) rfl) ?_
            refine r_iload_n hk 3 (dtX3_column_0 45 (113, .iload_n 2, 1) rfl) rfl ?_
            refine r_zald hk (in_tn q4 hq4 q5 hq5 3 (by decide)) (fun _ => rfl) hF (dtX3_column_0 46 (114, .baload, 1) rfl) (fun v9 hF => ?_)
            refine r_callI hF (fun v10 h H locs ls hH hS hl => run_S hk (c_X3_asNumber (kl K) hk.2.2.2.2.2.2.2.2.2.2.2 X  v9 m0 v10 h) lk_X3_96 me_X3_asNumber yf_X3_asNumber (by decide) (by decide) rfl (Nat.le_of_ble_eq_true rfl) rfl (dtX3_column_0 47 (115, .invokestatic 96, 3) rfl) hH hS hl) (fun v10 hF => ?_)
            cases Option.some.inj hF
            exact hR v10 rfl _ _ (dtX3_column_0 48 (118, .ireturn, 1) rfl)
          · rw [if_neg hs59_2] at hF
            by_cases hs59_3 : p3 = 3
            · rw [if_pos hs59_3] at hF
              refine r_tabIn hk 119 (dtX3_column_0 32 (59, .tableswitch 83 0 4 #[33, 41, 49, 60, 70], 33) rfl) (by rw [hs59_3]; decide) (by rw [hs59_3]; decide) (by rw [hs59_3]; rfl) (by decide) ?_
              refine r_aload_n hk 1 (dtX3_column_0 49 (119, .aload_n 0, 1) rfl) rfl ?_
              refine r_getS hk fl_X3_30 hF (dtX3_column_0 50 (120, .getfield 30, 3) rfl) (fun q11 hq11 hF => ?_)
              refine r_iload_n hk 2 (dtX3_column_0 51 (123, .iload_n 1, 1) rfl) rfl ?_
              refine r_iload_n hk 3 (dtX3_column_0 52 (124, .iload_n 2, 1) rfl) rfl ?_
              refine r_callI hF (fun v12 h H locs ls hH hS hl => run_V (y := yX1_rowsWithValue) hk (in_st q11 hq11 0 (by decide)) rfl rfl (c_X1_rowsWithValue (kl K) hk.2.2.2.2.2.2.2.2.2.2.2 X q11 hq11 p1 p2 m0 v12 h) lk_X3_74 me_X1_rowsWithValue yf_X1_rowsWithValue (by decide) (by decide) rfl (Nat.le_of_ble_eq_true rfl) rfl (dtX3_column_0 53 (125, .invokevirtual 74, 3) rfl) hH hS hl) (fun v12 hF => ?_)
              cases Option.some.inj hF
              exact hR v12 rfl _ _ (dtX3_column_0 54 (128, .ireturn, 1) rfl)
            · rw [if_neg hs59_3] at hF
              by_cases hs59_4 : p3 = 4
              · rw [if_pos hs59_4] at hF
                refine r_tabIn hk 129 (dtX3_column_0 32 (59, .tableswitch 83 0 4 #[33, 41, 49, 60, 70], 33) rfl) (by rw [hs59_4]; decide) (by rw [hs59_4]; decide) (by rw [hs59_4]; rfl) (by decide) ?_
                refine r_aload_n hk 1 (dtX3_column_0 55 (129, .aload_n 0, 1) rfl) rfl ?_
                refine r_getS hk fl_X3_30 hF (dtX3_column_0 56 (130, .getfield 30, 3) rfl) (fun q13 hq13 hF => ?_)
                refine r_iload_n hk 2 (dtX3_column_0 57 (133, .iload_n 1, 1) rfl) rfl ?_
                refine r_iload_n hk 3 (dtX3_column_0 58 (134, .iload_n 2, 1) rfl) rfl ?_
                refine r_callI hF (fun v14 h H locs ls hH hS hl => run_V (y := yX1_sumOf) hk (in_st q13 hq13 0 (by decide)) rfl rfl (c_X1_sumOf (kl K) hk.2.2.2.2.2.2.2.2.2.2.2 X q13 hq13 p1 p2 m0 v14 h) lk_X3_187 me_X1_sumOf yf_X1_sumOf (by decide) (by decide) rfl (Nat.le_of_ble_eq_true rfl) rfl (dtX3_column_0 59 (135, .invokevirtual 187, 3) rfl) hH hS hl) (fun v14 hF => ?_)
                refine r_ldc hk cn_X3_190 (dtX3_column_0 60 (138, .ldc 190, 2) rfl) ?_
                refine r_iadd hk hF (dtX3_column_0 61 (140, .iadd, 1) rfl) (fun v15 hF => ?_)
                cases Option.some.inj hF
                exact hR v15 rfl _ _ (dtX3_column_0 62 (141, .ireturn, 1) rfl)
              · rw [if_neg hs59_4] at hF
                refine r_tabOut hk 142 (dtX3_column_0 32 (59, .tableswitch 83 0 4 #[33, 41, 49, 60, 70], 33) rfl) (by have q0 := lv_neT hs59_0 (a := 0) rfl; have q1 := lv_neT hs59_1 (a := 1) rfl; have q2 := lv_neT hs59_2 (a := 2) rfl; have q3 := lv_neT hs59_3 (a := 3) rfl; have q4 := lv_neT hs59_4 (a := 4) rfl; omega) (by decide) ?_
                refine r_aload_n hk 1 (dtX3_column_0 63 (142, .aload_n 0, 1) rfl) rfl ?_
                refine r_getS hk fl_X3_30 hF (dtX3_column_1 0 (143, .getfield 30, 3) rfl) (fun q16 hq16 hF => ?_)
                refine r_iload_n hk 2 (dtX3_column_1 1 (146, .iload_n 1, 1) rfl) rfl ?_
                refine r_iload_n hk 3 (dtX3_column_1 2 (147, .iload_n 2, 1) rfl) rfl ?_
                refine r_callI hF (fun v17 h H locs ls hH hS hl => run_V (y := yX1_unlikeValues) hk (in_st q16 hq16 0 (by decide)) rfl rfl (c_X1_unlikeValues (kl K) hk.2.2.2.2.2.2.2.2.2.2.2 X q16 hq16 p1 p2 m0 v17 h) lk_X3_191 me_X1_unlikeValues yf_X1_unlikeValues (by decide) (by decide) rfl (Nat.le_of_ble_eq_true rfl) rfl (dtX3_column_1 3 (148, .invokevirtual 191, 3) rfl) hH hS hl) (fun v17 hF => ?_)
                cases Option.some.inj hF
                exact hR v17 rfl _ _ (dtX3_column_1 4 (151, .ireturn, 1) rfl)
    · refine r_iconst (v := (-1)) hk (dtX3_column_0 29 (56, .iconst (-1), 1) rfl) (by decide) ?_
      cases Option.some.inj hF
      exact hR (-1) rfl _ _ (dtX3_column_0 30 (57, .ireturn, 1) rfl)
  have j30_18 : (J_X3_column_30 p1 p2 p3 m0) = some rv → G X K 30 [(0, .ref (xad X (0, 0, 0, 0))), (1, .int p1), (2, .int p2), (3, .int p3)] [] m0 := by
    intro hF
    unfold J_X3_column_30 at hF
    refine r_iconst (v := 0) hk (dtX3_column_0 15 (30, .iconst 0, 1) rfl) (by decide) ?_
    exact r_sub hk [0, 1, 2, 3] rfl (j31_3 0 hF)
  refine r_if_eq hk 30 hF (dtX3_column_0 2 (4, .ifCond .eq 26, 3) rfl) (by decide) (fun hF => ?_) (fun hF => ?_)
  · exact r_sub hk [0, 1, 2, 3] rfl (j30_18 hF)
  · refine r_iload_n hk 2 (dtX3_column_0 3 (7, .iload_n 2, 1) rfl) rfl ?_
    refine r_if_lt hk 30 hF (dtX3_column_0 4 (8, .ifCond .lt 22, 3) rfl) (by decide) (fun hF => ?_) (fun hF => ?_)
    · exact r_sub hk [0, 1, 2, 3] rfl (j30_18 hF)
    · refine r_iload_n hk 2 (dtX3_column_0 5 (11, .iload_n 2, 1) rfl) rfl ?_
      refine r_bipush (v := 8) hk (dtX3_column_0 6 (12, .bipush 8, 2) rfl) (by decide) ?_
      refine r_icmp_ge hk 30 hF (dtX3_column_0 7 (14, .if_icmp .ge 16, 3) rfl) (by decide) (fun hF => ?_) (fun hF => ?_)
      · exact r_sub hk [0, 1, 2, 3] rfl (j30_18 hF)
      · refine r_iload_n hk 3 (dtX3_column_0 8 (17, .iload_n 3, 1) rfl) rfl ?_
        refine r_if_lt hk 30 hF (dtX3_column_0 9 (18, .ifCond .lt 12, 3) rfl) (by decide) (fun hF => ?_) (fun hF => ?_)
        · exact r_sub hk [0, 1, 2, 3] rfl (j30_18 hF)
        · refine r_iload_n hk 3 (dtX3_column_0 10 (21, .iload_n 3, 1) rfl) rfl ?_
          refine r_iconst (v := 5) hk (dtX3_column_0 11 (22, .iconst 5, 1) rfl) (by decide) ?_
          refine r_icmp_gt hk 30 hF (dtX3_column_0 12 (23, .if_icmp .gt 7, 3) rfl) (by decide) (fun hF => ?_) (fun hF => ?_)
          · exact r_sub hk [0, 1, 2, 3] rfl (j30_18 hF)
          · refine r_iconst (v := 1) hk (dtX3_column_0 13 (26, .iconst 1, 1) rfl) (by decide) ?_
            refine r_goto hk 31 (dtX3_column_0 14 (27, .goto 4, 3) rfl) (by decide) ?_
            exact r_sub hk [0, 1, 2, 3] rfl (j31_3 1 hF)
set_option maxHeartbeats 4000000 in
set_option maxRecDepth 100000 in
theorem c_X3_mixTenant (l : Launch) (hlf : l.stackTraces = false) (X : XW)  (p1 : Int64) (p2 : Int32) (m0 : Mem) (rv : Int64) (hF : F_X3_mixTenant p1 p2 m0 = some rv) : MX X l yX3_mixTenant cX3_mixTenant 8 (some .long) 9 [.ref (xad X (0, 0, 0, 0)), .long p1, .int p2] m0 (QL X rv m0) := by
  refine startL hlf (by decide +kernel) rfl [(0, .ref (xad X (0, 0, 0, 0))), (1, .long p1), (3, .int p2)] rfl (Nat.le_of_ble_eq_true rfl) (fun K hk hR => ?_)
  unfold F_X3_mixTenant at hF
  refine r_lload_n hk 1 (dtX3_mixTenant_0 0 (0, .lload_n 1, 1) rfl) rfl ?_
  refine r_lstore hk [(4, .long p1), (0, .ref (xad X (0, 0, 0, 0))), (1, .long p1), (3, .int p2)] (dtX3_mixTenant_0 1 (1, .lstore 4, 2) rfl) (by decide) rfl ?_
  refine r_iconst (v := 0) hk (dtX3_mixTenant_0 2 (3, .iconst 0, 1) rfl) (by decide) ?_
  refine r_istore hk [(6, .int 0), (4, .long p1), (0, .ref (xad X (0, 0, 0, 0))), (1, .long p1), (3, .int p2)] (dtX3_mixTenant_0 3 (4, .istore 6, 2) rfl) (by decide) rfl ?_
  have e34_2 : ∀ (v1 : Int64), (C_X3_mixTenant_34 p2 m0) v1 = some rv → G X K 34 [(0, .ref (xad X (0, 0, 0, 0))), (3, .int p2), (4, .long v1)] [] m0 := by
    intro v1 hF
    unfold C_X3_mixTenant_34 at hF
    refine r_iconst (v := 0) hk (dtX3_mixTenant_0 17 (34, .iconst 0, 1) rfl) (by decide) ?_
    refine r_istore hk [(6, .int 0), (0, .ref (xad X (0, 0, 0, 0))), (3, .int p2), (4, .long v1)] (dtX3_mixTenant_0 18 (35, .istore 6, 2) rfl) (by decide) rfl ?_
    have e82_4 : ∀ (v3 : Int64), C_X3_mixTenant_82 v3 = some rv → G X K 82 [(4, .long v3)] [] m0 := by
      intro v3 hF
      unfold C_X3_mixTenant_82 at hF
      refine r_lload hk 0 (dtX3_mixTenant_0 40 (82, .lload 4, 2) rfl) rfl ?_
      cases Option.some.inj hF
      exact hR _ _ (dtX3_mixTenant_0 41 (84, .lreturn, 1) rfl)
    have l8 : ∀ (n8 : Nat) (v5 : Int64) (v6 : Int32), L_X3_mixTenant_37 p2 m0 n8 v5 v6 = some rv → G X K 37 [(0, .ref (xad X (0, 0, 0, 0))), (3, .int p2), (4, .long v5), (6, .int v6)] [] m0 := by
      intro n8
      induction n8 with
      | zero => intro v5 v6 hF; exact nomatch (show (none : Option Int64) = some rv from hF)
      | succ n8 ih8 =>
        intro v5 v6 hF
        rw [L_X3_mixTenant_37] at hF
        refine r_iload hk 3 (dtX3_mixTenant_0 19 (37, .iload 6, 2) rfl) rfl ?_
        refine r_bipush (v := 8) hk (dtX3_mixTenant_0 20 (39, .bipush 8, 2) rfl) (by decide) ?_
        refine r_icmp_ge hk 82 hF (dtX3_mixTenant_0 21 (41, .if_icmp .ge 41, 3) rfl) (by decide) (fun hF => ?_) (fun hF => ?_)
        · exact r_sub hk [2] rfl (e82_4 v5 hF)
        · refine r_iconst (v := 0) hk (dtX3_mixTenant_0 22 (44, .iconst 0, 1) rfl) (by decide) ?_
          refine r_istore hk [(7, .int 0), (0, .ref (xad X (0, 0, 0, 0))), (3, .int p2), (4, .long v5), (6, .int v6)] (dtX3_mixTenant_0 23 (45, .istore 7, 2) rfl) (by decide) rfl ?_
          have e76_10 : ∀ (v9 : Int64), (C_X3_mixTenant_76 v6 (fun w0 w1 => L_X3_mixTenant_37 p2 m0 n8 w0 w1)) v9 = some rv → G X K 76 [(0, .ref (xad X (0, 0, 0, 0))), (3, .int p2), (4, .long v9), (6, .int v6)] [] m0 := by
            intro v9 hF
            unfold C_X3_mixTenant_76 at hF
            refine r_iinc hk 1 3 (fun v11 => [(6, .int v11), (0, .ref (xad X (0, 0, 0, 0))), (3, .int p2), (4, .long v9)]) hF (dtX3_mixTenant_0 38 (76, .iinc 6 1, 3) rfl) rfl (by decide) (by decide) (fun _ => rfl) (fun v11 hF => ?_)
            refine r_goto hk 37 (dtX3_mixTenant_0 39 (79, .goto (-42), 3) rfl) (by decide) ?_
            exact r_sub hk [1, 2, 3, 0] rfl (ih8 v9 v11 hF)
          have l15 : ∀ (n15 : Nat) (v12 : Int64) (v13 : Int32), L_X3_mixTenant_47 p2 m0 v6 (fun w0 w1 => L_X3_mixTenant_37 p2 m0 n8 w0 w1) n15 v12 v13 = some rv → G X K 47 [(0, .ref (xad X (0, 0, 0, 0))), (3, .int p2), (4, .long v12), (6, .int v6), (7, .int v13)] [] m0 := by
            intro n15
            induction n15 with
            | zero => intro v12 v13 hF; exact nomatch (show (none : Option Int64) = some rv from hF)
            | succ n15 ih15 =>
              intro v12 v13 hF
              rw [L_X3_mixTenant_47] at hF
              refine r_iload hk 4 (dtX3_mixTenant_0 24 (47, .iload 7, 2) rfl) rfl ?_
              refine r_iconst (v := 5) hk (dtX3_mixTenant_0 25 (49, .iconst 5, 1) rfl) (by decide) ?_
              refine r_icmp_gt hk 76 hF (dtX3_mixTenant_0 26 (50, .if_icmp .gt 26, 3) rfl) (by decide) (fun hF => ?_) (fun hF => ?_)
              · exact r_sub hk [0, 1, 2, 3] rfl (e76_10 v12 hF)
              · refine r_lload hk 2 (dtX3_mixTenant_0 27 (53, .lload 4, 2) rfl) rfl ?_
                refine r_aload_n hk 0 (dtX3_mixTenant_0 28 (55, .aload_n 0, 1) rfl) rfl ?_
                refine r_iload_n hk 1 (dtX3_mixTenant_0 29 (56, .iload_n 3, 1) rfl) rfl ?_
                refine r_iload hk 3 (dtX3_mixTenant_0 30 (57, .iload 6, 2) rfl) rfl ?_
                refine r_iload hk 4 (dtX3_mixTenant_0 31 (59, .iload 7, 2) rfl) rfl ?_
                refine r_callIts hk hF (fun c h => nomatch h) (fun R h hf H locs ls hH hS hl => runT_V (y := yX3_column) hk (in_main 0 (by decide)) rfl rfl (c_X3_column (kl K) hk.2.2.2.2.2.2.2.2.2.2.2 X  p2 v6 v13 m0 R h) lk_X3_255 me_X3_column yf_X3_column (by decide) (by decide) rfl (Nat.le_of_ble_eq_true rfl) rfl (dtX3_mixTenant_0 32 (61, .invokevirtual 255, 3) rfl) hf hH hS hl) (fun v16 hF => ?_)
                refine r_i2l hk hF (dtX3_mixTenant_0 33 (64, .i2l, 1) rfl) (fun v17 hF => ?_)
                refine r_callL hF (fun v18 h H locs ls hH hS hl => run_S hk (c_X3_mix (kl K) hk.2.2.2.2.2.2.2.2.2.2.2 X  v12 v17 m0 v18 h) lk_X3_227 me_X3_mix yf_X3_mix (by decide) (by decide) rfl (Nat.le_of_ble_eq_true rfl) rfl (dtX3_mixTenant_0 34 (65, .invokestatic 227, 3) rfl) hH hS hl) (fun v18 hF => ?_)
                refine r_lstore hk [(4, .long v18), (0, .ref (xad X (0, 0, 0, 0))), (3, .int p2), (6, .int v6), (7, .int v13)] (dtX3_mixTenant_0 35 (68, .lstore 4, 2) rfl) (by decide) rfl ?_
                refine r_iinc hk 1 4 (fun v19 => [(7, .int v19), (4, .long v18), (0, .ref (xad X (0, 0, 0, 0))), (3, .int p2), (6, .int v6)]) hF (dtX3_mixTenant_0 36 (70, .iinc 7 1, 3) rfl) rfl (by decide) (by decide) (fun _ => rfl) (fun v19 hF => ?_)
                refine r_goto hk 47 (dtX3_mixTenant_0 37 (73, .goto (-26), 3) rfl) (by decide) ?_
                exact r_sub hk [2, 3, 1, 4, 0] rfl (ih15 v18 v19 hF)
          exact r_sub hk [1, 2, 3, 4, 0] rfl (l15 fu v5 0 hF)
    exact r_sub hk [1, 2, 3, 0] rfl (l8 fu v1 0 hF)
  have l23 : ∀ (n23 : Nat) (v20 : Int64) (v21 : Int32), L_X3_mixTenant_6 p2 m0 n23 v20 v21 = some rv → G X K 6 [(0, .ref (xad X (0, 0, 0, 0))), (3, .int p2), (4, .long v20), (6, .int v21)] [] m0 := by
    intro n23
    induction n23 with
    | zero => intro v20 v21 hF; exact nomatch (show (none : Option Int64) = some rv from hF)
    | succ n23 ih23 =>
      intro v20 v21 hF
      rw [L_X3_mixTenant_6] at hF
      refine r_iload hk 3 (dtX3_mixTenant_0 4 (6, .iload 6, 2) rfl) rfl ?_
      refine r_bipush (v := 8) hk (dtX3_mixTenant_0 5 (8, .bipush 8, 2) rfl) (by decide) ?_
      refine r_icmp_gt hk 34 hF (dtX3_mixTenant_0 6 (10, .if_icmp .gt 24, 3) rfl) (by decide) (fun hF => ?_) (fun hF => ?_)
      · exact r_sub hk [0, 1, 2] rfl (e34_2 v20 hF)
      · refine r_lload hk 2 (dtX3_mixTenant_0 7 (13, .lload 4, 2) rfl) rfl ?_
        refine r_aload_n hk 0 (dtX3_mixTenant_0 8 (15, .aload_n 0, 1) rfl) rfl ?_
        refine r_iload_n hk 1 (dtX3_mixTenant_0 9 (16, .iload_n 3, 1) rfl) rfl ?_
        refine r_iload hk 3 (dtX3_mixTenant_0 10 (17, .iload 6, 2) rfl) rfl ?_
        refine r_callIts hk hF (fun c h => nomatch h) (fun R h hf H locs ls hH hS hl => runT_V (y := yX3_tenant) hk (in_main 0 (by decide)) rfl rfl (c_X3_tenant (kl K) hk.2.2.2.2.2.2.2.2.2.2.2 X  p2 v21 m0 R h) lk_X3_252 me_X3_tenant yf_X3_tenant (by decide) (by decide) rfl (Nat.le_of_ble_eq_true rfl) rfl (dtX3_mixTenant_0 11 (19, .invokevirtual 252, 3) rfl) hf hH hS hl) (fun v24 hF => ?_)
        refine r_i2l hk hF (dtX3_mixTenant_0 12 (22, .i2l, 1) rfl) (fun v25 hF => ?_)
        refine r_callL hF (fun v26 h H locs ls hH hS hl => run_S hk (c_X3_mix (kl K) hk.2.2.2.2.2.2.2.2.2.2.2 X  v20 v25 m0 v26 h) lk_X3_227 me_X3_mix yf_X3_mix (by decide) (by decide) rfl (Nat.le_of_ble_eq_true rfl) rfl (dtX3_mixTenant_0 13 (23, .invokestatic 227, 3) rfl) hH hS hl) (fun v26 hF => ?_)
        refine r_lstore hk [(4, .long v26), (0, .ref (xad X (0, 0, 0, 0))), (3, .int p2), (6, .int v21)] (dtX3_mixTenant_0 14 (26, .lstore 4, 2) rfl) (by decide) rfl ?_
        refine r_iinc hk 1 3 (fun v27 => [(6, .int v27), (4, .long v26), (0, .ref (xad X (0, 0, 0, 0))), (3, .int p2)]) hF (dtX3_mixTenant_0 15 (28, .iinc 6 1, 3) rfl) rfl (by decide) (by decide) (fun _ => rfl) (fun v27 hF => ?_)
        refine r_goto hk 6 (dtX3_mixTenant_0 16 (31, .goto (-25), 3) rfl) (by decide) ?_
        exact r_sub hk [2, 3, 1, 0] rfl (ih23 v26 v27 hF)
  exact r_sub hk [2, 4, 1, 0] rfl (l23 fu p1 0 hF)
set_option maxHeartbeats 4000000 in
set_option maxRecDepth 100000 in
theorem c_X2_columnOf (l : Launch) (hlf : l.stackTraces = false) (X : XW) (i0 : Nat) (hi0 : i0 < 7) (j0 : Nat) (hj0 : j0 < 3) (p1 : Int32) (m0 : Mem) (rv : Int32) (hF : F_X2_columnOf i0 j0 p1 m0 = some rv) : MX X l yX2_columnOf cX2_columnOf 3 (some .int) 0 [.ref (xad X (2, i0, j0, 0)), .int p1] m0 (QI X rv m0) := by
  refine startI hlf (by decide +kernel) rfl [(0, .ref (xad X (2, i0, j0, 0))), (1, .int p1)] rfl (Nat.le_of_ble_eq_true rfl) (fun K hk hR => ?_)
  unfold F_X2_columnOf at hF
  refine r_iconst (v := 0) hk (dtX2_columnOf_0 0 (0, .iconst 0, 1) rfl) (by decide) ?_
  refine r_istore_n hk [(2, .int 0), (0, .ref (xad X (2, i0, j0, 0))), (1, .int p1)] (dtX2_columnOf_0 1 (1, .istore_n 2, 1) rfl) (by decide) rfl ?_
  have e26_1 : C_X2_columnOf_26 = some rv → G X K 26 [] [] m0 := by
    intro hF
    unfold C_X2_columnOf_26 at hF
    refine r_iconst (v := (-1)) hk (dtX2_columnOf_0 15 (26, .iconst (-1), 1) rfl) (by decide) ?_
    cases Option.some.inj hF
    exact hR _ _ (dtX2_columnOf_0 16 (27, .ireturn, 1) rfl)
  have l4 : ∀ (n4 : Nat) (v2 : Int32), L_X2_columnOf_2 i0 j0 p1 m0 n4 v2 = some rv → G X K 2 [(0, .ref (xad X (2, i0, j0, 0))), (1, .int p1), (2, .int v2)] [] m0 := by
    intro n4
    induction n4 with
    | zero => intro v2 hF; exact nomatch (show (none : Option Int32) = some rv from hF)
    | succ n4 ih4 =>
      intro v2 hF
      rw [L_X2_columnOf_2] at hF
      refine r_iload_n hk 2 (dtX2_columnOf_0 2 (2, .iload_n 2, 1) rfl) rfl ?_
      refine r_bipush (v := 8) hk (dtX2_columnOf_0 3 (3, .bipush 8, 2) rfl) (by decide) ?_
      refine r_icmp_ge hk 26 hF (dtX2_columnOf_0 4 (5, .if_icmp .ge 21, 3) rfl) (by decide) (fun hF => ?_) (fun hF => ?_)
      · exact r_sub hk [] rfl (e26_1 hF)
      · refine r_aload_n hk 0 (dtX2_columnOf_0 5 (8, .aload_n 0, 1) rfl) rfl ?_
        refine r_getR hk (k := 0) (fsX2 X i0 j0) cbX2 (by decide) fl_X2_9 (in_tn i0 hi0 j0 hj0 0 (by decide)) (fun _ => rfl) (fun _ _ => rfl) (dtX2_columnOf_0 6 (9, .getfield 9, 3) rfl) ?_
        refine r_iload_n hk 2 (dtX2_columnOf_0 7 (12, .iload_n 2, 1) rfl) rfl ?_
        refine r_iald hk (in_tn i0 hi0 j0 hj0 1 (by decide)) (fun _ => rfl) hF (dtX2_columnOf_0 8 (13, .iaload, 1) rfl) (fun v5 hF => ?_)
        refine r_iload_n hk 1 (dtX2_columnOf_0 9 (14, .iload_n 1, 1) rfl) rfl ?_
        refine r_icmp_ne hk 20 hF (dtX2_columnOf_0 10 (15, .if_icmp .ne 5, 3) rfl) (by decide) (fun hF => ?_) (fun hF => ?_)
        · refine r_iinc hk 1 2 (fun v6 => [(2, .int v6), (0, .ref (xad X (2, i0, j0, 0))), (1, .int p1)]) hF (dtX2_columnOf_0 13 (20, .iinc 2 1, 3) rfl) rfl (by decide) (by decide) (fun _ => rfl) (fun v6 hF => ?_)
          refine r_goto hk 2 (dtX2_columnOf_0 14 (23, .goto (-21), 3) rfl) (by decide) ?_
          exact r_sub hk [1, 2, 0] rfl (ih4 v6 hF)
        · refine r_iload_n hk 2 (dtX2_columnOf_0 11 (18, .iload_n 2, 1) rfl) rfl ?_
          cases Option.some.inj hF
          exact hR _ _ (dtX2_columnOf_0 12 (19, .ireturn, 1) rfl)
  exact r_sub hk [1, 2, 0] rfl (l4 fu 0 hF)
set_option maxHeartbeats 4000000 in
set_option maxRecDepth 100000 in
theorem c_X0_allows (l : Launch) (hlf : l.stackTraces = false) (X : XW)  (p1 : Int32) (p2 : Int32) (m0 : Mem) (rv : Int32) (hF : F_X0_allows p1 p2 m0 = some rv) : MX X l yX0_allows cX0_allows 3 (some .boolean) 0 [.ref (xad X (0, 0, 0, 3)), .int p1, .int p2] m0 (QI X rv m0) := by
  refine startZ hlf (by decide +kernel) rfl [(0, .ref (xad X (0, 0, 0, 3))), (1, .int p1), (2, .int p2)] rfl (Nat.le_of_ble_eq_true rfl) (fun K hk hR => ?_)
  unfold F_X0_allows at hF
  refine r_aload_n hk 0 (dtX0_allows_0 0 (0, .aload_n 0, 1) rfl) rfl ?_
  refine r_getR hk (k := 1) (fsX0 X) cbX0 (by decide) fl_X0_15 (in_main 3 (by decide)) (fun _ => rfl) (fun _ _ => rfl) (dtX0_allows_0 1 (1, .getfield 15, 3) rfl) ?_
  refine r_iload_n hk 1 (dtX0_allows_0 2 (4, .iload_n 1, 1) rfl) rfl ?_
  refine r_iald hk (in_main 6 (by decide)) (fun _ => rfl) hF (dtX0_allows_0 3 (5, .iaload, 1) rfl) (fun v1 hF => ?_)
  by_cases hs6_60 : v1 = 60
  · rw [if_pos hs6_60] at hF
    refine r_lookup (off := 42) hk 48 (dtX0_allows_0 4 (6, .lookupswitch 58 #[(60, 42), (61, 26)], 26) rfl) (by decide) (lk_eq hs6_60 (by decide)) (by decide) ?_
    refine r_iload_n hk 2 (dtX0_allows_0 15 (48, .iload_n 2, 1) rfl) rfl ?_
    refine r_aload_n hk 0 (dtX0_allows_0 16 (49, .aload_n 0, 1) rfl) rfl ?_
    refine r_getR hk (k := 2) (fsX0 X) cbX0 (by decide) fl_X0_18 (in_main 3 (by decide)) (fun _ => rfl) (fun _ _ => rfl) (dtX0_allows_0 17 (50, .getfield 18, 3) rfl) ?_
    refine r_iload_n hk 1 (dtX0_allows_0 18 (53, .iload_n 1, 1) rfl) rfl ?_
    refine r_iald hk (in_main 7 (by decide)) (fun _ => rfl) hF (dtX0_allows_0 19 (54, .iaload, 1) rfl) (fun v2 hF => ?_)
    have j63_4 : ∀ (v3 : Int32), J_X0_allows_63 v3 = some rv → G X K 63 [] [.int v3] m0 := by
      intro v3 hF
      unfold J_X0_allows_63 at hF
      obtain ⟨hz, hF⟩ := ck_some hF
      cases Option.some.inj hF
      exact hR _ _ hz (dtX0_allows_0 24 (63, .ireturn, 1) rfl)
    refine r_icmp_ge hk 62 hF (dtX0_allows_0 20 (55, .if_icmp .ge 7, 3) rfl) (by decide) (fun hF => ?_) (fun hF => ?_)
    · refine r_iconst (v := 0) hk (dtX0_allows_0 23 (62, .iconst 0, 1) rfl) (by decide) ?_
      exact r_sub hk [] rfl (j63_4 0 hF)
    · refine r_iconst (v := 1) hk (dtX0_allows_0 21 (58, .iconst 1, 1) rfl) (by decide) ?_
      refine r_goto hk 63 (dtX0_allows_0 22 (59, .goto 4, 3) rfl) (by decide) ?_
      exact r_sub hk [] rfl (j63_4 1 hF)
  · rw [if_neg hs6_60] at hF
    by_cases hs6_61 : v1 = 61
    · rw [if_pos hs6_61] at hF
      refine r_lookup (off := 26) hk 32 (dtX0_allows_0 4 (6, .lookupswitch 58 #[(60, 42), (61, 26)], 26) rfl) (by decide) (lk_eq hs6_61 (by decide)) (by decide) ?_
      refine r_iload_n hk 2 (dtX0_allows_0 5 (32, .iload_n 2, 1) rfl) rfl ?_
      refine r_aload_n hk 0 (dtX0_allows_0 6 (33, .aload_n 0, 1) rfl) rfl ?_
      refine r_getR hk (k := 2) (fsX0 X) cbX0 (by decide) fl_X0_18 (in_main 3 (by decide)) (fun _ => rfl) (fun _ _ => rfl) (dtX0_allows_0 7 (34, .getfield 18, 3) rfl) ?_
      refine r_iload_n hk 1 (dtX0_allows_0 8 (37, .iload_n 1, 1) rfl) rfl ?_
      refine r_iald hk (in_main 7 (by decide)) (fun _ => rfl) hF (dtX0_allows_0 9 (38, .iaload, 1) rfl) (fun v5 hF => ?_)
      have j47_7 : ∀ (v6 : Int32), J_X0_allows_47 v6 = some rv → G X K 47 [] [.int v6] m0 := by
        intro v6 hF
        unfold J_X0_allows_47 at hF
        obtain ⟨hz, hF⟩ := ck_some hF
        cases Option.some.inj hF
        exact hR _ _ hz (dtX0_allows_0 14 (47, .ireturn, 1) rfl)
      refine r_icmp_ne hk 46 hF (dtX0_allows_0 10 (39, .if_icmp .ne 7, 3) rfl) (by decide) (fun hF => ?_) (fun hF => ?_)
      · refine r_iconst (v := 0) hk (dtX0_allows_0 13 (46, .iconst 0, 1) rfl) (by decide) ?_
        exact r_sub hk [] rfl (j47_7 0 hF)
      · refine r_iconst (v := 1) hk (dtX0_allows_0 11 (42, .iconst 1, 1) rfl) (by decide) ?_
        refine r_goto hk 47 (dtX0_allows_0 12 (43, .goto 4, 3) rfl) (by decide) ?_
        exact r_sub hk [] rfl (j47_7 1 hF)
    · rw [if_neg hs6_61] at hF
      refine r_lookup (off := 58) hk 64 (dtX0_allows_0 4 (6, .lookupswitch 58 #[(60, 42), (61, 26)], 26) rfl) (by decide) ((lv_osw hs6_60 (by decide)).trans ((lv_osw hs6_61 (by decide)).trans rfl)) (by decide) ?_
      refine r_iload_n hk 2 (dtX0_allows_0 25 (64, .iload_n 2, 1) rfl) rfl ?_
      refine r_aload_n hk 0 (dtX0_allows_0 26 (65, .aload_n 0, 1) rfl) rfl ?_
      refine r_getR hk (k := 2) (fsX0 X) cbX0 (by decide) fl_X0_18 (in_main 3 (by decide)) (fun _ => rfl) (fun _ _ => rfl) (dtX0_allows_0 27 (66, .getfield 18, 3) rfl) ?_
      refine r_iload_n hk 1 (dtX0_allows_0 28 (69, .iload_n 1, 1) rfl) rfl ?_
      refine r_iald hk (in_main 7 (by decide)) (fun _ => rfl) hF (dtX0_allows_0 29 (70, .iaload, 1) rfl) (fun v8 hF => ?_)
      have j79_10 : ∀ (v9 : Int32), J_X0_allows_79 v9 = some rv → G X K 79 [] [.int v9] m0 := by
        intro v9 hF
        unfold J_X0_allows_79 at hF
        obtain ⟨hz, hF⟩ := ck_some hF
        cases Option.some.inj hF
        exact hR _ _ hz (dtX0_allows_0 34 (79, .ireturn, 1) rfl)
      refine r_icmp_le hk 78 hF (dtX0_allows_0 30 (71, .if_icmp .le 7, 3) rfl) (by decide) (fun hF => ?_) (fun hF => ?_)
      · refine r_iconst (v := 0) hk (dtX0_allows_0 33 (78, .iconst 0, 1) rfl) (by decide) ?_
        exact r_sub hk [] rfl (j79_10 0 hF)
      · refine r_iconst (v := 1) hk (dtX0_allows_0 31 (74, .iconst 1, 1) rfl) (by decide) ?_
        refine r_goto hk 79 (dtX0_allows_0 32 (75, .goto 4, 3) rfl) (by decide) ?_
        exact r_sub hk [] rfl (j79_10 1 hF)
set_option maxHeartbeats 4000000 in
set_option maxRecDepth 100000 in
theorem c_X3_isAnswer (l : Launch) (hlf : l.stackTraces = false) (X : XW) (i2 : Nat) (hi2 : i2 < 7) (j2 : Nat) (hj2 : j2 < 3) (p1 : Int32) (m0 : Mem) (rv : Int32) (hF : F_X3_isAnswer i2 j2 p1 m0 = some rv) : MX X l yX3_isAnswer cX3_isAnswer 5 (some .boolean) 1 [.ref (xad X (0, 0, 0, 0)), .int p1, .ref (xad X (2, i2, j2, 0))] m0 (QI X rv m0) := by
  refine startZ hlf (by decide +kernel) rfl [(0, .ref (xad X (0, 0, 0, 0))), (1, .int p1), (2, .ref (xad X (2, i2, j2, 0)))] rfl (Nat.le_of_ble_eq_true rfl) (fun K hk hR => ?_)
  unfold F_X3_isAnswer at hF
  refine r_iconst (v := 0) hk (dtX3_isAnswer_0 0 (0, .iconst 0, 1) rfl) (by decide) ?_
  refine r_istore_n hk [(3, .int 0), (0, .ref (xad X (0, 0, 0, 0))), (1, .int p1), (2, .ref (xad X (2, i2, j2, 0)))] (dtX3_isAnswer_0 1 (1, .istore_n 3, 1) rfl) (by decide) rfl ?_
  have e64_1 : C_X3_isAnswer_64 = some rv → G X K 64 [] [] m0 := by
    intro hF
    unfold C_X3_isAnswer_64 at hF
    refine r_iconst (v := 1) hk (dtX3_isAnswer_0 32 (64, .iconst 1, 1) rfl) (by decide) ?_
    obtain ⟨hz, hF⟩ := ck_some hF
    cases Option.some.inj hF
    exact hR _ _ hz (dtX3_isAnswer_0 33 (65, .ireturn, 1) rfl)
  have l4 : ∀ (n4 : Nat) (v2 : Int32), L_X3_isAnswer_2 i2 j2 p1 m0 n4 v2 = some rv → G X K 2 [(0, .ref (xad X (0, 0, 0, 0))), (1, .int p1), (2, .ref (xad X (2, i2, j2, 0))), (3, .int v2)] [] m0 := by
    intro n4
    induction n4 with
    | zero => intro v2 hF; exact nomatch (show (none : Option Int32) = some rv from hF)
    | succ n4 ih4 =>
      intro v2 hF
      rw [L_X3_isAnswer_2] at hF
      refine r_iload_n hk 3 (dtX3_isAnswer_0 2 (2, .iload_n 3, 1) rfl) rfl ?_
      refine r_aload_n hk 0 (dtX3_isAnswer_0 3 (3, .aload_n 0, 1) rfl) rfl ?_
      refine r_getR hk (k := 2) (fsX3 X) cbX3 (by decide) fl_X3_22 (in_main 0 (by decide)) (fun _ => rfl) (fun _ _ => rfl) (dtX3_isAnswer_0 4 (4, .getfield 22, 3) rfl) ?_
      refine r_getI hk (k := 3) (fsX0 X) cbX0 (by decide) fl_X3_287 (in_main 3 (by decide)) (fun _ => rfl) (fun _ _ => rfl) hF (dtX3_isAnswer_0 5 (7, .getfield 287, 3) rfl) (fun v5 hF => ?_)
      refine r_icmp_ge hk 64 hF (dtX3_isAnswer_0 6 (10, .if_icmp .ge 54, 3) rfl) (by decide) (fun hF => ?_) (fun hF => ?_)
      · exact r_sub hk [] rfl (e64_1 hF)
      · refine r_aload_n hk 0 (dtX3_isAnswer_0 7 (13, .aload_n 0, 1) rfl) rfl ?_
        refine r_getS hk fl_X3_30 hF (dtX3_isAnswer_0 8 (14, .getfield 30, 3) rfl) (fun q6 hq6 hF => ?_)
        refine r_iload_n hk 1 (dtX3_isAnswer_0 9 (17, .iload_n 1, 1) rfl) rfl ?_
        refine r_aload_n hk 2 (dtX3_isAnswer_0 10 (18, .aload_n 2, 1) rfl) rfl ?_
        refine r_aload_n hk 0 (dtX3_isAnswer_0 11 (19, .aload_n 0, 1) rfl) rfl ?_
        refine r_getR hk (k := 2) (fsX3 X) cbX3 (by decide) fl_X3_22 (in_main 0 (by decide)) (fun _ => rfl) (fun _ _ => rfl) (dtX3_isAnswer_0 12 (20, .getfield 22, 3) rfl) ?_
        refine r_getR hk (k := 0) (fsX0 X) cbX0 (by decide) fl_X3_290 (in_main 3 (by decide)) (fun _ => rfl) (fun _ _ => rfl) (dtX3_isAnswer_0 13 (23, .getfield 290, 3) rfl) ?_
        refine r_iload_n hk 3 (dtX3_isAnswer_0 14 (26, .iload_n 3, 1) rfl) rfl ?_
        refine r_iald hk (in_main 5 (by decide)) (fun _ => rfl) hF (dtX3_isAnswer_0 15 (27, .iaload, 1) rfl) (fun v7 hF => ?_)
        refine r_callI hF (fun v8 h H locs ls hH hS hl => run_V (y := yX2_columnOf) hk (in_tn i2 hi2 j2 hj2 0 (by decide)) rfl rfl (c_X2_columnOf (kl K) hk.2.2.2.2.2.2.2.2.2.2.2 X i2 hi2 j2 hj2 v7 m0 v8 h) lk_X3_67 me_X2_columnOf yf_X2_columnOf (by decide) (by decide) rfl (Nat.le_of_ble_eq_true rfl) rfl (dtX3_isAnswer_0 16 (28, .invokevirtual 67, 3) rfl) hH hS hl) (fun v8 hF => ?_)
        refine r_callI hF (fun v9 h H locs ls hH hS hl => run_V (y := yX1_valueAt) hk (in_st q6 hq6 0 (by decide)) rfl rfl (c_X1_valueAt (kl K) hk.2.2.2.2.2.2.2.2.2.2.2 X q6 hq6 p1 v8 m0 v9 h) lk_X3_127 me_X1_valueAt yf_X1_valueAt (by decide) (by decide) rfl (Nat.le_of_ble_eq_true rfl) rfl (dtX3_isAnswer_0 17 (31, .invokevirtual 127, 3) rfl) hH hS hl) (fun v9 hF => ?_)
        refine r_istore hk [(4, .int v9), (0, .ref (xad X (0, 0, 0, 0))), (1, .int p1), (2, .ref (xad X (2, i2, j2, 0))), (3, .int v2)] (dtX3_isAnswer_0 18 (34, .istore 4, 2) rfl) (by decide) rfl ?_
        refine r_iload hk 0 (dtX3_isAnswer_0 19 (36, .iload 4, 2) rfl) rfl ?_
        refine r_ldc hk cn_X3_130 (dtX3_isAnswer_0 20 (38, .ldc 130, 2) rfl) ?_
        have j56_10 : J_X3_isAnswer_56 = some rv → G X K 56 [] [] m0 := by
          intro hF
          unfold J_X3_isAnswer_56 at hF
          refine r_iconst (v := 0) hk (dtX3_isAnswer_0 28 (56, .iconst 0, 1) rfl) (by decide) ?_
          obtain ⟨hz, hF⟩ := ck_some hF
          cases Option.some.inj hF
          exact hR _ _ hz (dtX3_isAnswer_0 29 (57, .ireturn, 1) rfl)
        refine r_icmp_eq hk 56 hF (dtX3_isAnswer_0 21 (40, .if_icmp .eq 16, 3) rfl) (by decide) (fun hF => ?_) (fun hF => ?_)
        · exact r_sub hk [] rfl (j56_10 hF)
        · refine r_aload_n hk 1 (dtX3_isAnswer_0 22 (43, .aload_n 0, 1) rfl) rfl ?_
          refine r_getR hk (k := 2) (fsX3 X) cbX3 (by decide) fl_X3_22 (in_main 0 (by decide)) (fun _ => rfl) (fun _ _ => rfl) (dtX3_isAnswer_0 23 (44, .getfield 22, 3) rfl) ?_
          refine r_iload_n hk 4 (dtX3_isAnswer_0 24 (47, .iload_n 3, 1) rfl) rfl ?_
          refine r_iload hk 0 (dtX3_isAnswer_0 25 (48, .iload 4, 2) rfl) rfl ?_
          refine r_callI hF (fun v11 h H locs ls hH hS hl => run_V (y := yX0_allows) hk (in_main 3 (by decide)) rfl rfl (c_X0_allows (kl K) hk.2.2.2.2.2.2.2.2.2.2.2 X  v2 v9 m0 v11 h) lk_X3_291 me_X0_allows yf_X0_allows (by decide) (by decide) rfl (Nat.le_of_ble_eq_true rfl) rfl (dtX3_isAnswer_0 26 (50, .invokevirtual 291, 3) rfl) hH hS hl) (fun v11 hF => ?_)
          refine r_if_ne hk 58 hF (dtX3_isAnswer_0 27 (53, .ifCond .ne 5, 3) rfl) (by decide) (fun hF => ?_) (fun hF => ?_)
          · refine r_iinc hk 1 4 (fun v12 => [(3, .int v12), (4, .int v9), (0, .ref (xad X (0, 0, 0, 0))), (1, .int p1), (2, .ref (xad X (2, i2, j2, 0)))]) hF (dtX3_isAnswer_0 30 (58, .iinc 3 1, 3) rfl) rfl (by decide) (by decide) (fun _ => rfl) (fun v12 hF => ?_)
            refine r_goto hk 2 (dtX3_isAnswer_0 31 (61, .goto (-59), 3) rfl) (by decide) ?_
            exact r_sub hk [2, 3, 4, 0] rfl (ih4 v12 hF)
          · exact r_sub hk [] rfl (j56_10 hF)
  exact r_sub hk [1, 2, 3, 0] rfl (l4 fu 0 hF)
set_option maxHeartbeats 4000000 in
set_option maxRecDepth 100000 in
theorem c_X3_collectAnswers (l : Launch) (hlf : l.stackTraces = false) (X : XW)  (p1 : Int32) (m0 : Mem) (rv : Int32) (mE : Mem) (hF : F_X3_collectAnswers p1 m0 = some (rv, mE)) : MX X l yX3_collectAnswers cX3_collectAnswers 4 (some .int) 2 [.ref (xad X (0, 0, 0, 0)), .int p1] m0 (QI X rv mE) := by
  refine startI hlf (by decide +kernel) rfl [(0, .ref (xad X (0, 0, 0, 0))), (1, .int p1)] rfl (Nat.le_of_ble_eq_true rfl) (fun K hk hR => ?_)
  unfold F_X3_collectAnswers at hF
  refine r_iconst (v := 0) hk (dtX3_collectAnswers_0 0 (0, .iconst 0, 1) rfl) (by decide) ?_
  refine r_istore_n hk [(2, .int 0), (0, .ref (xad X (0, 0, 0, 0))), (1, .int p1)] (dtX3_collectAnswers_0 1 (1, .istore_n 2, 1) rfl) (by decide) rfl ?_
  refine r_iconst (v := 0) hk (dtX3_collectAnswers_0 2 (2, .iconst 0, 1) rfl) (by decide) ?_
  refine r_istore_n hk [(3, .int 0), (2, .int 0), (0, .ref (xad X (0, 0, 0, 0))), (1, .int p1)] (dtX3_collectAnswers_0 3 (3, .istore_n 3, 1) rfl) (by decide) rfl ?_
  have e67_3 : ∀ (v1 : Int32) (m2 : Mem), C_X3_collectAnswers_67 v1 m2 = some (rv, mE) → G X K 67 [(2, .int v1)] [] m2 := by
    intro v1 m2 hF
    unfold C_X3_collectAnswers_67 at hF
    refine r_iload_n hk 0 (dtX3_collectAnswers_0 36 (67, .iload_n 2, 1) rfl) rfl ?_
    cases Option.some.inj hF
    exact hR _ _ (dtX3_collectAnswers_0 37 (68, .ireturn, 1) rfl)
  have l8 : ∀ (n8 : Nat) (v4 : Int32) (v5 : Int32) (m6 : Mem), L_X3_collectAnswers_4 p1 n8 v4 v5 m6 = some (rv, mE) → G X K 4 [(0, .ref (xad X (0, 0, 0, 0))), (1, .int p1), (2, .int v4), (3, .int v5)] [] m6 := by
    intro n8
    induction n8 with
    | zero => intro v4 v5 m6 hF; exact nomatch (show (none : Option (Int32 × Mem)) = some (rv, mE) from hF)
    | succ n8 ih8 =>
      intro v4 v5 m6 hF
      rw [L_X3_collectAnswers_4] at hF
      refine r_iload_n hk 3 (dtX3_collectAnswers_0 4 (4, .iload_n 3, 1) rfl) rfl ?_
      refine r_aload_n hk 0 (dtX3_collectAnswers_0 5 (5, .aload_n 0, 1) rfl) rfl ?_
      refine r_getS hk fl_X3_30 hF (dtX3_collectAnswers_0 6 (6, .getfield 30, 3) rfl) (fun q9 hq9 hF => ?_)
      refine r_getI hk (k := 3) (fsX1 X q9) cbX1 (by decide) fl_X3_204 (in_st q9 hq9 0 (by decide)) (fun _ => rfl) (fun _ _ => rfl) hF (dtX3_collectAnswers_0 7 (9, .getfield 204, 3) rfl) (fun v10 hF => ?_)
      refine r_icmp_ge hk 67 hF (dtX3_collectAnswers_0 8 (12, .if_icmp .ge 55, 3) rfl) (by decide) (fun hF => ?_) (fun hF => ?_)
      · exact r_sub hk [2] rfl (e67_3 v4 m6 hF)
      · refine r_iload_n hk 3 (dtX3_collectAnswers_0 9 (15, .iload_n 3, 1) rfl) rfl ?_
        refine r_bipush (v := 120) hk (dtX3_collectAnswers_0 10 (16, .bipush 120, 2) rfl) (by decide) ?_
        refine r_icmp_ge hk 67 hF (dtX3_collectAnswers_0 11 (18, .if_icmp .ge 49, 3) rfl) (by decide) (fun hF => ?_) (fun hF => ?_)
        · exact r_sub hk [2] rfl (e67_3 v4 m6 hF)
        · refine r_aload_n hk 0 (dtX3_collectAnswers_0 12 (21, .aload_n 0, 1) rfl) rfl ?_
          refine r_getS hk fl_X3_30 hF (dtX3_collectAnswers_0 13 (22, .getfield 30, 3) rfl) (fun q11 hq11 hF => ?_)
          refine r_getR hk (k := 1) (fsX1 X q11) cbX1 (by decide) fl_X3_134 (in_st q11 hq11 0 (by decide)) (fun _ => rfl) (fun _ _ => rfl) (dtX3_collectAnswers_0 14 (25, .getfield 134, 3) rfl) ?_
          refine r_iload_n hk 3 (dtX3_collectAnswers_0 15 (28, .iload_n 3, 1) rfl) rfl ?_
          refine r_iald hk (in_st q11 hq11 2 (by decide)) (fun _ => rfl) hF (dtX3_collectAnswers_0 16 (29, .iaload, 1) rfl) (fun v12 hF => ?_)
          refine r_iload_n hk 1 (dtX3_collectAnswers_0 17 (30, .iload_n 1, 1) rfl) rfl ?_
          have j61_15 : ∀ (v13 : Int32) (m14 : Mem), (J_X3_collectAnswers_61 v5 (fun w0 w1 w2 => L_X3_collectAnswers_4 p1 n8 w0 w1 w2)) v13 m14 = some (rv, mE) → G X K 61 [(0, .ref (xad X (0, 0, 0, 0))), (1, .int p1), (2, .int v13), (3, .int v5)] [] m14 := by
            intro v13 m14 hF
            unfold J_X3_collectAnswers_61 at hF
            refine r_iinc hk 1 3 (fun v16 => [(3, .int v16), (0, .ref (xad X (0, 0, 0, 0))), (1, .int p1), (2, .int v13)]) hF (dtX3_collectAnswers_0 34 (61, .iinc 3 1, 3) rfl) rfl (by decide) (by decide) (fun _ => rfl) (fun v16 hF => ?_)
            refine r_goto hk 4 (dtX3_collectAnswers_0 35 (64, .goto (-60), 3) rfl) (by decide) ?_
            exact r_sub hk [1, 2, 3, 0] rfl (ih8 v13 v16 m14 hF)
          refine r_icmp_ne hk 61 hF (dtX3_collectAnswers_0 18 (31, .if_icmp .ne 30, 3) rfl) (by decide) (fun hF => ?_) (fun hF => ?_)
          · exact r_sub hk [0, 1, 2, 3] rfl (j61_15 v4 m6 hF)
          · refine r_aload_n hk 0 (dtX3_collectAnswers_0 19 (34, .aload_n 0, 1) rfl) rfl ?_
            refine r_iload_n hk 3 (dtX3_collectAnswers_0 20 (35, .iload_n 3, 1) rfl) rfl ?_
            refine r_aload_n hk 0 (dtX3_collectAnswers_0 21 (36, .aload_n 0, 1) rfl) rfl ?_
            refine r_getS hk fl_X3_30 hF (dtX3_collectAnswers_0 22 (37, .getfield 30, 3) rfl) (fun q17 hq17 hF => ?_)
            refine r_getR hk (k := 0) (fsX1 X q17) cbX1 (by decide) fl_X3_49 (in_st q17 hq17 0 (by decide)) (fun _ => rfl) (fun _ _ => rfl) (dtX3_collectAnswers_0 23 (40, .getfield 49, 3) rfl) ?_
            refine r_iload_n hk 1 (dtX3_collectAnswers_0 24 (43, .iload_n 1, 1) rfl) rfl ?_
            refine r_aldT hk hq17 hF (dtX3_collectAnswers_0 25 (44, .aaload, 1) rfl) (fun q18 hq18 hF => ?_)
            refine r_callI hF (fun v19 h H locs ls hH hS hl => run_V (y := yX3_isAnswer) hk (in_main 0 (by decide)) rfl rfl (c_X3_isAnswer (kl K) hk.2.2.2.2.2.2.2.2.2.2.2 X q17 hq17 q18 hq18 v5 m6 v19 h) lk_X3_283 me_X3_isAnswer yf_X3_isAnswer (by decide) (by decide) rfl (Nat.le_of_ble_eq_true rfl) rfl (dtX3_collectAnswers_0 26 (45, .invokevirtual 283, 3) rfl) hH hS hl) (fun v19 hF => ?_)
            refine r_if_eq hk 61 hF (dtX3_collectAnswers_0 27 (48, .ifCond .eq 13, 3) rfl) (by decide) (fun hF => ?_) (fun hF => ?_)
            · exact r_sub hk [0, 1, 2, 3] rfl (j61_15 v4 m6 hF)
            · refine r_aload_n hk 0 (dtX3_collectAnswers_0 28 (51, .aload_n 0, 1) rfl) rfl ?_
              refine r_getR hk (k := 3) (fsX3 X) cbX3 (by decide) fl_X3_26 (in_main 0 (by decide)) (fun _ => rfl) (fun _ _ => rfl) (dtX3_collectAnswers_0 29 (52, .getfield 26, 3) rfl) ?_
              refine r_iload_n hk 2 (dtX3_collectAnswers_0 30 (55, .iload_n 2, 1) rfl) rfl ?_
              refine r_iload_n hk 3 (dtX3_collectAnswers_0 31 (56, .iload_n 3, 1) rfl) rfl ?_
              refine r_iast hk (in_main 4 (by decide)) (fun _ => rfl) hF (dtX3_collectAnswers_0 32 (57, .iastore, 1) rfl) (fun m20 hF => ?_)
              refine r_iinc hk 1 2 (fun v21 => [(2, .int v21), (0, .ref (xad X (0, 0, 0, 0))), (1, .int p1), (3, .int v5)]) hF (dtX3_collectAnswers_0 33 (58, .iinc 2 1, 3) rfl) rfl (by decide) (by decide) (fun _ => rfl) (fun v21 hF => ?_)
              exact r_sub hk [1, 2, 0, 3] rfl (j61_15 v21 m20 hF)
  exact r_sub hk [2, 3, 1, 0] rfl (l8 fu 0 0 m0 hF)
set_option maxHeartbeats 4000000 in
set_option maxRecDepth 100000 in
theorem c_X3_answerAt (l : Launch) (hlf : l.stackTraces = false) (X : XW)  (p1 : Int32) (p2 : Int32) (m0 : Mem) (rv : Int32) (hF : F_X3_answerAt p1 p2 m0 = some rv) : MX X l yX3_answerAt cX3_answerAt 3 (some .int) 0 [.ref (xad X (0, 0, 0, 0)), .int p1, .int p2] m0 (QI X rv m0) := by
  refine startI hlf (by decide +kernel) rfl [(0, .ref (xad X (0, 0, 0, 0))), (1, .int p1), (2, .int p2)] rfl (Nat.le_of_ble_eq_true rfl) (fun K hk hR => ?_)
  unfold F_X3_answerAt at hF
  refine r_iload_n hk 1 (dtX3_answerAt_0 0 (0, .iload_n 1, 1) rfl) rfl ?_
  have j25_2 : ∀ (v1 : Int32), J_X3_answerAt_25 v1 = some rv → G X K 25 [] [.int v1] m0 := by
    intro v1 hF
    unfold J_X3_answerAt_25 at hF
    cases Option.some.inj hF
    exact hR _ _ (dtX3_answerAt_0 14 (25, .ireturn, 1) rfl)
  have j24_3 : J_X3_answerAt_24 = some rv → G X K 24 [] [] m0 := by
    intro hF
    unfold J_X3_answerAt_24 at hF
    refine r_iconst (v := (-1)) hk (dtX3_answerAt_0 13 (24, .iconst (-1), 1) rfl) (by decide) ?_
    exact r_sub hk [] rfl (j25_2 (-1) hF)
  refine r_if_lt hk 24 hF (dtX3_answerAt_0 1 (1, .ifCond .lt 23, 3) rfl) (by decide) (fun hF => ?_) (fun hF => ?_)
  · exact r_sub hk [] rfl (j24_3 hF)
  · refine r_iload_n hk 1 (dtX3_answerAt_0 2 (4, .iload_n 1, 1) rfl) rfl ?_
    refine r_iload_n hk 2 (dtX3_answerAt_0 3 (5, .iload_n 2, 1) rfl) rfl ?_
    refine r_icmp_ge hk 24 hF (dtX3_answerAt_0 4 (6, .if_icmp .ge 18, 3) rfl) (by decide) (fun hF => ?_) (fun hF => ?_)
    · exact r_sub hk [] rfl (j24_3 hF)
    · refine r_iload_n hk 1 (dtX3_answerAt_0 5 (9, .iload_n 1, 1) rfl) rfl ?_
      refine r_bipush (v := 120) hk (dtX3_answerAt_0 6 (10, .bipush 120, 2) rfl) (by decide) ?_
      refine r_icmp_ge hk 24 hF (dtX3_answerAt_0 7 (12, .if_icmp .ge 12, 3) rfl) (by decide) (fun hF => ?_) (fun hF => ?_)
      · exact r_sub hk [] rfl (j24_3 hF)
      · refine r_aload_n hk 0 (dtX3_answerAt_0 8 (15, .aload_n 0, 1) rfl) rfl ?_
        refine r_getR hk (k := 3) (fsX3 X) cbX3 (by decide) fl_X3_26 (in_main 0 (by decide)) (fun _ => rfl) (fun _ _ => rfl) (dtX3_answerAt_0 9 (16, .getfield 26, 3) rfl) ?_
        refine r_iload_n hk 1 (dtX3_answerAt_0 10 (19, .iload_n 1, 1) rfl) rfl ?_
        refine r_iald hk (in_main 4 (by decide)) (fun _ => rfl) hF (dtX3_answerAt_0 11 (20, .iaload, 1) rfl) (fun v4 hF => ?_)
        refine r_goto hk 25 (dtX3_answerAt_0 12 (21, .goto 4, 3) rfl) (by decide) ?_
        exact r_sub hk [] rfl (j25_2 v4 hF)
set_option maxHeartbeats 4000000 in
set_option maxRecDepth 100000 in
theorem c_X3_comesBefore (l : Launch) (hlf : l.stackTraces = false) (X : XW)  (p1 : Int32) (p2 : Int32) (p3 : Int32) (m0 : Mem) (rv : Int32) (hF : F_X3_comesBefore p1 p2 p3 m0 = some rv) : MX X l yX3_comesBefore cX3_comesBefore 6 (some .boolean) 1 [.ref (xad X (0, 0, 0, 0)), .int p1, .int p2, .int p3] m0 (QI X rv m0) := by
  refine startZ hlf (by decide +kernel) rfl [(0, .ref (xad X (0, 0, 0, 0))), (1, .int p1), (2, .int p2), (3, .int p3)] rfl (Nat.le_of_ble_eq_true rfl) (fun K hk hR => ?_)
  unfold F_X3_comesBefore at hF
  refine r_aload_n hk 0 (dtX3_comesBefore_0 0 (0, .aload_n 0, 1) rfl) rfl ?_
  refine r_getS hk fl_X3_30 hF (dtX3_comesBefore_0 1 (1, .getfield 30, 3) rfl) (fun q1 hq1 hF => ?_)
  refine r_iload_n hk 1 (dtX3_comesBefore_0 2 (4, .iload_n 1, 1) rfl) rfl ?_
  refine r_iload_n hk 3 (dtX3_comesBefore_0 3 (5, .iload_n 3, 1) rfl) rfl ?_
  refine r_callI hF (fun v2 h H locs ls hH hS hl => run_V (y := yX1_valueAt) hk (in_st q1 hq1 0 (by decide)) rfl rfl (c_X1_valueAt (kl K) hk.2.2.2.2.2.2.2.2.2.2.2 X q1 hq1 p1 p3 m0 v2 h) lk_X3_127 me_X1_valueAt yf_X1_valueAt (by decide) (by decide) rfl (Nat.le_of_ble_eq_true rfl) rfl (dtX3_comesBefore_0 4 (6, .invokevirtual 127, 3) rfl) hH hS hl) (fun v2 hF => ?_)
  refine r_istore hk [(4, .int v2), (0, .ref (xad X (0, 0, 0, 0))), (1, .int p1), (2, .int p2), (3, .int p3)] (dtX3_comesBefore_0 5 (9, .istore 4, 2) rfl) (by decide) rfl ?_
  refine r_aload_n hk 1 (dtX3_comesBefore_0 6 (11, .aload_n 0, 1) rfl) rfl ?_
  refine r_getS hk fl_X3_30 hF (dtX3_comesBefore_0 7 (12, .getfield 30, 3) rfl) (fun q3 hq3 hF => ?_)
  refine r_iload_n hk 3 (dtX3_comesBefore_0 8 (15, .iload_n 2, 1) rfl) rfl ?_
  refine r_iload_n hk 4 (dtX3_comesBefore_0 9 (16, .iload_n 3, 1) rfl) rfl ?_
  refine r_callI hF (fun v4 h H locs ls hH hS hl => run_V (y := yX1_valueAt) hk (in_st q3 hq3 0 (by decide)) rfl rfl (c_X1_valueAt (kl K) hk.2.2.2.2.2.2.2.2.2.2.2 X q3 hq3 p2 p3 m0 v4 h) lk_X3_127 me_X1_valueAt yf_X1_valueAt (by decide) (by decide) rfl (Nat.le_of_ble_eq_true rfl) rfl (dtX3_comesBefore_0 10 (17, .invokevirtual 127, 3) rfl) hH hS hl) (fun v4 hF => ?_)
  refine r_istore hk [(5, .int v4), (4, .int v2), (0, .ref (xad X (0, 0, 0, 0))), (1, .int p1), (2, .int p2), (3, .int p3)] (dtX3_comesBefore_0 11 (20, .istore 5, 2) rfl) (by decide) rfl ?_
  refine r_iload hk 1 (dtX3_comesBefore_0 12 (22, .iload 4, 2) rfl) rfl ?_
  refine r_ldc hk cn_X3_130 (dtX3_comesBefore_0 13 (24, .ldc 130, 2) rfl) ?_
  refine r_icmp_ne hk 31 hF (dtX3_comesBefore_0 14 (26, .if_icmp .ne 5, 3) rfl) (by decide) (fun hF => ?_) (fun hF => ?_)
  · refine r_iload hk 0 (dtX3_comesBefore_0 17 (31, .iload 5, 2) rfl) rfl ?_
    refine r_ldc hk cn_X3_130 (dtX3_comesBefore_0 18 (33, .ldc 130, 2) rfl) ?_
    have j50_6 : ∀ (v5 : Int32), J_X3_comesBefore_50 v5 = some rv → G X K 50 [] [.int v5] m0 := by
      intro v5 hF
      unfold J_X3_comesBefore_50 at hF
      obtain ⟨hz, hF⟩ := ck_some hF
      cases Option.some.inj hF
      exact hR _ _ hz (dtX3_comesBefore_0 26 (50, .ireturn, 1) rfl)
    have j45_7 : J_X3_comesBefore_45 = some rv → G X K 45 [] [] m0 := by
      intro hF
      unfold J_X3_comesBefore_45 at hF
      refine r_iconst (v := 1) hk (dtX3_comesBefore_0 23 (45, .iconst 1, 1) rfl) (by decide) ?_
      refine r_goto hk 50 (dtX3_comesBefore_0 24 (46, .goto 4, 3) rfl) (by decide) ?_
      exact r_sub hk [] rfl (j50_6 1 hF)
    refine r_icmp_eq hk 45 hF (dtX3_comesBefore_0 19 (35, .if_icmp .eq 10, 3) rfl) (by decide) (fun hF => ?_) (fun hF => ?_)
    · exact r_sub hk [] rfl (j45_7 hF)
    · refine r_iload hk 1 (dtX3_comesBefore_0 20 (38, .iload 4, 2) rfl) rfl ?_
      refine r_iload hk 0 (dtX3_comesBefore_0 21 (40, .iload 5, 2) rfl) rfl ?_
      refine r_icmp_ge hk 49 hF (dtX3_comesBefore_0 22 (42, .if_icmp .ge 7, 3) rfl) (by decide) (fun hF => ?_) (fun hF => ?_)
      · refine r_iconst (v := 0) hk (dtX3_comesBefore_0 25 (49, .iconst 0, 1) rfl) (by decide) ?_
        exact r_sub hk [] rfl (j50_6 0 hF)
      · exact r_sub hk [] rfl (j45_7 hF)
  · refine r_iconst (v := 0) hk (dtX3_comesBefore_0 15 (29, .iconst 0, 1) rfl) (by decide) ?_
    obtain ⟨hz, hF⟩ := ck_some hF
    cases Option.some.inj hF
    exact hR _ _ hz (dtX3_comesBefore_0 16 (30, .ireturn, 1) rfl)
set_option maxHeartbeats 4000000 in
set_option maxRecDepth 100000 in
theorem c_X3_sortAnswers (l : Launch) (hlf : l.stackTraces = false) (X : XW)  (p1 : Int32) (p2 : Int32) (m0 : Mem) (rv : Unit) (mE : Mem) (hF : F_X3_sortAnswers p1 p2 m0 = some (rv, mE)) : MX X l yX3_sortAnswers cX3_sortAnswers 6 none 2 [.ref (xad X (0, 0, 0, 0)), .int p1, .int p2] m0 (QV X mE) := by
  refine startV hlf (by decide +kernel) rfl [(0, .ref (xad X (0, 0, 0, 0))), (1, .int p1), (2, .int p2)] rfl (Nat.le_of_ble_eq_true rfl) (fun K hk hR => ?_)
  unfold F_X3_sortAnswers at hF
  refine r_iconst (v := 1) hk (dtX3_sortAnswers_0 0 (0, .iconst 1, 1) rfl) (by decide) ?_
  refine r_istore_n hk [(3, .int 1), (0, .ref (xad X (0, 0, 0, 0))), (1, .int p1), (2, .int p2)] (dtX3_sortAnswers_0 1 (1, .istore_n 3, 1) rfl) (by decide) rfl ?_
  have e79_2 : ∀ (m1 : Mem), C_X3_sortAnswers_79 m1 = some (rv, mE) → G X K 79 [] [] m1 := by
    intro m1 hF
    unfold C_X3_sortAnswers_79 at hF
    cases Option.some.inj hF
    exact hR _ _ (dtX3_sortAnswers_0 44 (79, .return_, 1) rfl)
  have l6 : ∀ (n6 : Nat) (v3 : Int32) (m4 : Mem), L_X3_sortAnswers_2 p1 p2 n6 v3 m4 = some (rv, mE) → G X K 2 [(0, .ref (xad X (0, 0, 0, 0))), (1, .int p1), (2, .int p2), (3, .int v3)] [] m4 := by
    intro n6
    induction n6 with
    | zero => intro v3 m4 hF; exact nomatch (show (none : Option (Unit × Mem)) = some (rv, mE) from hF)
    | succ n6 ih6 =>
      intro v3 m4 hF
      rw [L_X3_sortAnswers_2] at hF
      refine r_iload_n hk 3 (dtX3_sortAnswers_0 2 (2, .iload_n 3, 1) rfl) rfl ?_
      refine r_iload_n hk 1 (dtX3_sortAnswers_0 3 (3, .iload_n 1, 1) rfl) rfl ?_
      refine r_icmp_ge hk 79 hF (dtX3_sortAnswers_0 4 (4, .if_icmp .ge 75, 3) rfl) (by decide) (fun hF => ?_) (fun hF => ?_)
      · exact r_sub hk [] rfl (e79_2 m4 hF)
      · refine r_aload_n hk 0 (dtX3_sortAnswers_0 5 (7, .aload_n 0, 1) rfl) rfl ?_
        refine r_getR hk (k := 3) (fsX3 X) cbX3 (by decide) fl_X3_26 (in_main 0 (by decide)) (fun _ => rfl) (fun _ _ => rfl) (dtX3_sortAnswers_0 6 (8, .getfield 26, 3) rfl) ?_
        refine r_iload_n hk 3 (dtX3_sortAnswers_0 7 (11, .iload_n 3, 1) rfl) rfl ?_
        refine r_iald hk (in_main 4 (by decide)) (fun _ => rfl) hF (dtX3_sortAnswers_0 8 (12, .iaload, 1) rfl) (fun v7 hF => ?_)
        refine r_istore hk [(4, .int v7), (0, .ref (xad X (0, 0, 0, 0))), (1, .int p1), (2, .int p2), (3, .int v3)] (dtX3_sortAnswers_0 9 (13, .istore 4, 2) rfl) (by decide) rfl ?_
        refine r_iload_n hk 4 (dtX3_sortAnswers_0 10 (15, .iload_n 3, 1) rfl) rfl ?_
        refine r_istore hk [(5, .int v3), (4, .int v7), (0, .ref (xad X (0, 0, 0, 0))), (1, .int p1), (2, .int p2), (3, .int v3)] (dtX3_sortAnswers_0 11 (16, .istore 5, 2) rfl) (by decide) rfl ?_
        have e64_10 : ∀ (v8 : Int32) (m9 : Mem), (C_X3_sortAnswers_64 v3 (fun w0 w1 => L_X3_sortAnswers_2 p1 p2 n6 w0 w1) v7) v8 m9 = some (rv, mE) → G X K 64 [(0, .ref (xad X (0, 0, 0, 0))), (1, .int p1), (2, .int p2), (3, .int v3), (4, .int v7), (5, .int v8)] [] m9 := by
          intro v8 m9 hF
          unfold C_X3_sortAnswers_64 at hF
          refine r_aload_n hk 0 (dtX3_sortAnswers_0 37 (64, .aload_n 0, 1) rfl) rfl ?_
          refine r_getR hk (k := 3) (fsX3 X) cbX3 (by decide) fl_X3_26 (in_main 0 (by decide)) (fun _ => rfl) (fun _ _ => rfl) (dtX3_sortAnswers_0 38 (65, .getfield 26, 3) rfl) ?_
          refine r_iload hk 5 (dtX3_sortAnswers_0 39 (68, .iload 5, 2) rfl) rfl ?_
          refine r_iload hk 4 (dtX3_sortAnswers_0 40 (70, .iload 4, 2) rfl) rfl ?_
          refine r_iast hk (in_main 4 (by decide)) (fun _ => rfl) hF (dtX3_sortAnswers_0 41 (72, .iastore, 1) rfl) (fun m11 hF => ?_)
          refine r_iinc hk 1 3 (fun v12 => [(3, .int v12), (0, .ref (xad X (0, 0, 0, 0))), (1, .int p1), (2, .int p2), (4, .int v7), (5, .int v8)]) hF (dtX3_sortAnswers_0 42 (73, .iinc 3 1, 3) rfl) rfl (by decide) (by decide) (fun _ => rfl) (fun v12 hF => ?_)
          refine r_goto hk 2 (dtX3_sortAnswers_0 43 (76, .goto (-74), 3) rfl) (by decide) ?_
          exact r_sub hk [1, 2, 3, 0] rfl (ih6 v12 m11 hF)
        have l16 : ∀ (n16 : Nat) (v13 : Int32) (m14 : Mem), L_X3_sortAnswers_18 p2 v3 (fun w0 w1 => L_X3_sortAnswers_2 p1 p2 n6 w0 w1) v7 n16 v13 m14 = some (rv, mE) → G X K 18 [(0, .ref (xad X (0, 0, 0, 0))), (1, .int p1), (2, .int p2), (3, .int v3), (4, .int v7), (5, .int v13)] [] m14 := by
          intro n16
          induction n16 with
          | zero => intro v13 m14 hF; exact nomatch (show (none : Option (Unit × Mem)) = some (rv, mE) from hF)
          | succ n16 ih16 =>
            intro v13 m14 hF
            rw [L_X3_sortAnswers_18] at hF
            refine r_iload hk 5 (dtX3_sortAnswers_0 12 (18, .iload 5, 2) rfl) rfl ?_
            refine r_if_le hk 64 hF (dtX3_sortAnswers_0 13 (20, .ifCond .le 44, 3) rfl) (by decide) (fun hF => ?_) (fun hF => ?_)
            · exact r_sub hk [0, 1, 2, 3, 4, 5] rfl (e64_10 v13 m14 hF)
            · refine r_aload_n hk 0 (dtX3_sortAnswers_0 14 (23, .aload_n 0, 1) rfl) rfl ?_
              refine r_iload hk 4 (dtX3_sortAnswers_0 15 (24, .iload 4, 2) rfl) rfl ?_
              refine r_aload_n hk 0 (dtX3_sortAnswers_0 16 (26, .aload_n 0, 1) rfl) rfl ?_
              refine r_getR hk (k := 3) (fsX3 X) cbX3 (by decide) fl_X3_26 (in_main 0 (by decide)) (fun _ => rfl) (fun _ _ => rfl) (dtX3_sortAnswers_0 17 (27, .getfield 26, 3) rfl) ?_
              refine r_iload hk 5 (dtX3_sortAnswers_0 18 (30, .iload 5, 2) rfl) rfl ?_
              refine r_iconst (v := 1) hk (dtX3_sortAnswers_0 19 (32, .iconst 1, 1) rfl) (by decide) ?_
              refine r_isub hk hF (dtX3_sortAnswers_0 20 (33, .isub, 1) rfl) (fun v17 hF => ?_)
              refine r_iald hk (in_main 4 (by decide)) (fun _ => rfl) hF (dtX3_sortAnswers_0 21 (34, .iaload, 1) rfl) (fun v18 hF => ?_)
              refine r_iload_n hk 2 (dtX3_sortAnswers_0 22 (35, .iload_n 2, 1) rfl) rfl ?_
              refine r_callI hF (fun v19 h H locs ls hH hS hl => run_V (y := yX3_comesBefore) hk (in_main 0 (by decide)) rfl rfl (c_X3_comesBefore (kl K) hk.2.2.2.2.2.2.2.2.2.2.2 X  v7 v18 p2 m14 v19 h) lk_X3_294 me_X3_comesBefore yf_X3_comesBefore (by decide) (by decide) rfl (Nat.le_of_ble_eq_true rfl) rfl (dtX3_sortAnswers_0 23 (36, .invokevirtual 294, 3) rfl) hH hS hl) (fun v19 hF => ?_)
              refine r_if_eq hk 64 hF (dtX3_sortAnswers_0 24 (39, .ifCond .eq 25, 3) rfl) (by decide) (fun hF => ?_) (fun hF => ?_)
              · exact r_sub hk [0, 1, 2, 3, 4, 5] rfl (e64_10 v13 m14 hF)
              · refine r_aload_n hk 0 (dtX3_sortAnswers_0 25 (42, .aload_n 0, 1) rfl) rfl ?_
                refine r_getR hk (k := 3) (fsX3 X) cbX3 (by decide) fl_X3_26 (in_main 0 (by decide)) (fun _ => rfl) (fun _ _ => rfl) (dtX3_sortAnswers_0 26 (43, .getfield 26, 3) rfl) ?_
                refine r_iload hk 5 (dtX3_sortAnswers_0 27 (46, .iload 5, 2) rfl) rfl ?_
                refine r_aload_n hk 0 (dtX3_sortAnswers_0 28 (48, .aload_n 0, 1) rfl) rfl ?_
                refine r_getR hk (k := 3) (fsX3 X) cbX3 (by decide) fl_X3_26 (in_main 0 (by decide)) (fun _ => rfl) (fun _ _ => rfl) (dtX3_sortAnswers_0 29 (49, .getfield 26, 3) rfl) ?_
                refine r_iload hk 5 (dtX3_sortAnswers_0 30 (52, .iload 5, 2) rfl) rfl ?_
                refine r_iconst (v := 1) hk (dtX3_sortAnswers_0 31 (54, .iconst 1, 1) rfl) (by decide) ?_
                refine r_isub hk hF (dtX3_sortAnswers_0 32 (55, .isub, 1) rfl) (fun v20 hF => ?_)
                refine r_iald hk (in_main 4 (by decide)) (fun _ => rfl) hF (dtX3_sortAnswers_0 33 (56, .iaload, 1) rfl) (fun v21 hF => ?_)
                refine r_iast hk (in_main 4 (by decide)) (fun _ => rfl) hF (dtX3_sortAnswers_0 34 (57, .iastore, 1) rfl) (fun m22 hF => ?_)
                refine r_iinc hk (-1) 5 (fun v23 => [(5, .int v23), (0, .ref (xad X (0, 0, 0, 0))), (1, .int p1), (2, .int p2), (3, .int v3), (4, .int v7)]) hF (dtX3_sortAnswers_0 35 (58, .iinc 5 (-1), 3) rfl) rfl (by decide) (by decide) (fun _ => rfl) (fun v23 hF => ?_)
                refine r_goto hk 18 (dtX3_sortAnswers_0 36 (61, .goto (-43), 3) rfl) (by decide) ?_
                exact r_sub hk [1, 2, 3, 4, 5, 0] rfl (ih16 v23 m22 hF)
        exact r_sub hk [2, 3, 4, 5, 1, 0] rfl (l16 fu v3 m4 hF)
  exact r_sub hk [1, 2, 3, 0] rfl (l6 fu 1 m0 hF)
set_option maxHeartbeats 4000000 in
set_option maxRecDepth 100000 in
theorem c_X3_rowsToLookAt (l : Launch) (hlf : l.stackTraces = false) (X : XW)  (p1 : Int32) (p2 : Int32) (p3 : Int32) (m0 : Mem) (rv : Int32) (hF : F_X3_rowsToLookAt p1 p2 p3 m0 = some rv) : MX X l yX3_rowsToLookAt cX3_rowsToLookAt 9 (some .int) 2 [.ref (xad X (0, 0, 0, 0)), .int p1, .int p2, .int p3] m0 (QI X rv m0) := by
  refine startI hlf (by decide +kernel) rfl [(0, .ref (xad X (0, 0, 0, 0))), (1, .int p1), (2, .int p2), (3, .int p3)] rfl (Nat.le_of_ble_eq_true rfl) (fun K hk hR => ?_)
  unfold F_X3_rowsToLookAt at hF
  refine r_iload_n hk 2 (dtX3_rowsToLookAt_0 0 (0, .iload_n 2, 1) rfl) rfl ?_
  refine r_if_eq hk 13 hF (dtX3_rowsToLookAt_0 1 (1, .ifCond .eq 12, 3) rfl) (by decide) (fun hF => ?_) (fun hF => ?_)
  · refine r_aload_n hk 0 (dtX3_rowsToLookAt_0 7 (13, .aload_n 0, 1) rfl) rfl ?_
    refine r_getS hk fl_X3_30 hF (dtX3_rowsToLookAt_0 8 (14, .getfield 30, 3) rfl) (fun q1 hq1 hF => ?_)
    refine r_getR hk (k := 0) (fsX1 X q1) cbX1 (by decide) fl_X3_49 (in_st q1 hq1 0 (by decide)) (fun _ => rfl) (fun _ _ => rfl) (dtX3_rowsToLookAt_0 9 (17, .getfield 49, 3) rfl) ?_
    refine r_iload_n hk 1 (dtX3_rowsToLookAt_0 10 (20, .iload_n 1, 1) rfl) rfl ?_
    refine r_aldT hk hq1 hF (dtX3_rowsToLookAt_0 11 (21, .aaload, 1) rfl) (fun q2 hq2 hF => ?_)
    refine r_astore hk [(4, .ref (xad X (2, q1, q2, 0))), (0, .ref (xad X (0, 0, 0, 0))), (1, .int p1), (2, .int p2), (3, .int p3)] (dtX3_rowsToLookAt_0 12 (22, .astore 4, 2) rfl) (by decide) rfl ?_
    refine r_aload_n hk 1 (dtX3_rowsToLookAt_0 13 (24, .aload_n 0, 1) rfl) rfl ?_
    refine r_getS hk fl_X3_30 hF (dtX3_rowsToLookAt_0 14 (25, .getfield 30, 3) rfl) (fun q3 hq3 hF => ?_)
    refine r_callI hF (fun v4 h H locs ls hH hS hl => run_V (y := yX1_tableRows) hk (in_st q3 hq3 0 (by decide)) rfl rfl (c_X1_tableRows (kl K) hk.2.2.2.2.2.2.2.2.2.2.2 X q3 hq3  m0 v4 h) lk_X3_110 me_X1_tableRows yf_X1_tableRows (by decide) (by decide) rfl (Nat.le_of_ble_eq_true rfl) rfl (dtX3_rowsToLookAt_0 15 (28, .invokevirtual 110, 3) rfl) hH hS hl) (fun v4 hF => ?_)
    refine r_istore hk [(5, .int v4), (4, .ref (xad X (2, q1, q2, 0))), (0, .ref (xad X (0, 0, 0, 0))), (1, .int p1), (2, .int p2), (3, .int p3)] (dtX3_rowsToLookAt_0 16 (31, .istore 5, 2) rfl) (by decide) rfl ?_
    refine r_iconst (v := 0) hk (dtX3_rowsToLookAt_0 17 (33, .iconst 0, 1) rfl) (by decide) ?_
    refine r_istore hk [(6, .int 0), (5, .int v4), (4, .ref (xad X (2, q1, q2, 0))), (0, .ref (xad X (0, 0, 0, 0))), (1, .int p1), (2, .int p2), (3, .int p3)] (dtX3_rowsToLookAt_0 18 (34, .istore 6, 2) rfl) (by decide) rfl ?_
    have e140_6 : ∀ (v5 : Int32), C_X3_rowsToLookAt_140 v5 = some rv → G X K 140 [(5, .int v5)] [] m0 := by
      intro v5 hF
      unfold C_X3_rowsToLookAt_140 at hF
      refine r_iload hk 0 (dtX3_rowsToLookAt_1 3 (140, .iload 5, 2) rfl) rfl ?_
      cases Option.some.inj hF
      exact hR _ _ (dtX3_rowsToLookAt_1 4 (142, .ireturn, 1) rfl)
    have l10 : ∀ (n10 : Nat) (v7 : Int32) (v8 : Int32), L_X3_rowsToLookAt_36 p1 p3 m0 q1 q2 n10 v7 v8 = some rv → G X K 36 [(0, .ref (xad X (0, 0, 0, 0))), (1, .int p1), (3, .int p3), (4, .ref (xad X (2, q1, q2, 0))), (5, .int v7), (6, .int v8)] [] m0 := by
      intro n10
      induction n10 with
      | zero => intro v7 v8 hF; exact nomatch (show (none : Option Int32) = some rv from hF)
      | succ n10 ih10 =>
        intro v7 v8 hF
        rw [L_X3_rowsToLookAt_36] at hF
        refine r_iload hk 5 (dtX3_rowsToLookAt_0 19 (36, .iload 6, 2) rfl) rfl ?_
        refine r_aload_n hk 0 (dtX3_rowsToLookAt_0 20 (38, .aload_n 0, 1) rfl) rfl ?_
        refine r_getR hk (k := 2) (fsX3 X) cbX3 (by decide) fl_X3_22 (in_main 0 (by decide)) (fun _ => rfl) (fun _ _ => rfl) (dtX3_rowsToLookAt_0 21 (39, .getfield 22, 3) rfl) ?_
        refine r_getI hk (k := 3) (fsX0 X) cbX0 (by decide) fl_X3_287 (in_main 3 (by decide)) (fun _ => rfl) (fun _ _ => rfl) hF (dtX3_rowsToLookAt_0 22 (42, .getfield 287, 3) rfl) (fun v11 hF => ?_)
        refine r_icmp_ge hk 140 hF (dtX3_rowsToLookAt_0 23 (45, .if_icmp .ge 95, 3) rfl) (by decide) (fun hF => ?_) (fun hF => ?_)
        · exact r_sub hk [4] rfl (e140_6 v7 hF)
        · refine r_aload_n hk 0 (dtX3_rowsToLookAt_0 24 (48, .aload_n 0, 1) rfl) rfl ?_
          refine r_getR hk (k := 2) (fsX3 X) cbX3 (by decide) fl_X3_22 (in_main 0 (by decide)) (fun _ => rfl) (fun _ _ => rfl) (dtX3_rowsToLookAt_0 25 (49, .getfield 22, 3) rfl) ?_
          refine r_getR hk (k := 0) (fsX0 X) cbX0 (by decide) fl_X3_290 (in_main 3 (by decide)) (fun _ => rfl) (fun _ _ => rfl) (dtX3_rowsToLookAt_0 26 (52, .getfield 290, 3) rfl) ?_
          refine r_iload hk 5 (dtX3_rowsToLookAt_0 27 (55, .iload 6, 2) rfl) rfl ?_
          refine r_iald hk (in_main 5 (by decide)) (fun _ => rfl) hF (dtX3_rowsToLookAt_0 28 (57, .iaload, 1) rfl) (fun v12 hF => ?_)
          refine r_istore hk [(7, .int v12), (0, .ref (xad X (0, 0, 0, 0))), (1, .int p1), (3, .int p3), (4, .ref (xad X (2, q1, q2, 0))), (5, .int v7), (6, .int v8)] (dtX3_rowsToLookAt_0 29 (58, .istore 7, 2) rfl) (by decide) rfl ?_
          refine r_aload hk 4 (dtX3_rowsToLookAt_0 30 (60, .aload 4, 2) rfl) rfl ?_
          refine r_iload hk 0 (dtX3_rowsToLookAt_0 31 (62, .iload 7, 2) rfl) rfl ?_
          refine r_callI hF (fun v13 h H locs ls hH hS hl => run_V (y := yX2_columnOf) hk (in_tn q1 hq1 q2 hq2 0 (by decide)) rfl rfl (c_X2_columnOf (kl K) hk.2.2.2.2.2.2.2.2.2.2.2 X q1 hq1 q2 hq2 v12 m0 v13 h) lk_X3_67 me_X2_columnOf yf_X2_columnOf (by decide) (by decide) rfl (Nat.le_of_ble_eq_true rfl) rfl (dtX3_rowsToLookAt_0 32 (64, .invokevirtual 67, 3) rfl) hH hS hl) (fun v13 hF => ?_)
          refine r_istore hk [(8, .int v13), (7, .int v12), (0, .ref (xad X (0, 0, 0, 0))), (1, .int p1), (3, .int p3), (4, .ref (xad X (2, q1, q2, 0))), (5, .int v7), (6, .int v8)] (dtX3_rowsToLookAt_0 33 (67, .istore 8, 2) rfl) (by decide) rfl ?_
          refine r_aload_n hk 2 (dtX3_rowsToLookAt_0 34 (69, .aload_n 0, 1) rfl) rfl ?_
          refine r_getR hk (k := 2) (fsX3 X) cbX3 (by decide) fl_X3_22 (in_main 0 (by decide)) (fun _ => rfl) (fun _ _ => rfl) (dtX3_rowsToLookAt_0 35 (70, .getfield 22, 3) rfl) ?_
          refine r_getR hk (k := 1) (fsX0 X) cbX0 (by decide) fl_X3_298 (in_main 3 (by decide)) (fun _ => rfl) (fun _ _ => rfl) (dtX3_rowsToLookAt_0 36 (73, .getfield 298, 3) rfl) ?_
          refine r_iload hk 7 (dtX3_rowsToLookAt_0 37 (76, .iload 6, 2) rfl) rfl ?_
          refine r_iald hk (in_main 6 (by decide)) (fun _ => rfl) hF (dtX3_rowsToLookAt_0 38 (78, .iaload, 1) rfl) (fun v14 hF => ?_)
          refine r_bipush (v := 61) hk (dtX3_rowsToLookAt_0 39 (79, .bipush 61, 2) rfl) (by decide) ?_
          have j134_16 : ∀ (v15 : Int32), (J_X3_rowsToLookAt_134 v8 (fun w0 w1 => L_X3_rowsToLookAt_36 p1 p3 m0 q1 q2 n10 w0 w1)) v15 = some rv → G X K 134 [(0, .ref (xad X (0, 0, 0, 0))), (1, .int p1), (3, .int p3), (4, .ref (xad X (2, q1, q2, 0))), (5, .int v15), (6, .int v8)] [] m0 := by
            intro v15 hF
            unfold J_X3_rowsToLookAt_134 at hF
            refine r_iinc hk 1 5 (fun v17 => [(6, .int v17), (0, .ref (xad X (0, 0, 0, 0))), (1, .int p1), (3, .int p3), (4, .ref (xad X (2, q1, q2, 0))), (5, .int v15)]) hF (dtX3_rowsToLookAt_1 1 (134, .iinc 6 1, 3) rfl) rfl (by decide) (by decide) (fun _ => rfl) (fun v17 hF => ?_)
            refine r_goto hk 36 (dtX3_rowsToLookAt_1 2 (137, .goto (-101), 3) rfl) (by decide) ?_
            exact r_sub hk [1, 2, 3, 4, 5, 0] rfl (ih10 v15 v17 hF)
          refine r_icmp_ne hk 134 hF (dtX3_rowsToLookAt_0 40 (81, .if_icmp .ne 53, 3) rfl) (by decide) (fun hF => ?_) (fun hF => ?_)
          · exact r_sub hk [2, 3, 4, 5, 6, 7] rfl (j134_16 v7 hF)
          · refine r_iload hk 0 (dtX3_rowsToLookAt_0 41 (84, .iload 8, 2) rfl) rfl ?_
            refine r_iconst (v := (-1)) hk (dtX3_rowsToLookAt_0 42 (86, .iconst (-1), 1) rfl) (by decide) ?_
            refine r_icmp_eq hk 134 hF (dtX3_rowsToLookAt_0 43 (87, .if_icmp .eq 47, 3) rfl) (by decide) (fun hF => ?_) (fun hF => ?_)
            · exact r_sub hk [2, 3, 4, 5, 6, 7] rfl (j134_16 v7 hF)
            · refine r_aload hk 5 (dtX3_rowsToLookAt_0 44 (90, .aload 4, 2) rfl) rfl ?_
              refine r_getR hk (k := 2) (fsX2 X q1 q2) cbX2 (by decide) fl_X3_92 (in_tn q1 hq1 q2 hq2 0 (by decide)) (fun _ => rfl) (fun _ _ => rfl) (dtX3_rowsToLookAt_0 45 (92, .getfield 92, 3) rfl) ?_
              refine r_iload hk 0 (dtX3_rowsToLookAt_0 46 (95, .iload 8, 2) rfl) rfl ?_
              refine r_zald hk (in_tn q1 hq1 q2 hq2 3 (by decide)) (fun _ => rfl) hF (dtX3_rowsToLookAt_0 47 (97, .baload, 1) rfl) (fun v18 hF => ?_)
              have j107_19 : (J_X3_rowsToLookAt_107 p1 m0 v7 v8 (fun w0 w1 => L_X3_rowsToLookAt_36 p1 p3 m0 q1 q2 n10 w0 w1) v13) = some rv → G X K 107 [(0, .ref (xad X (0, 0, 0, 0))), (1, .int p1), (3, .int p3), (4, .ref (xad X (2, q1, q2, 0))), (5, .int v7), (6, .int v8), (8, .int v13)] [] m0 := by
                intro hF
                unfold J_X3_rowsToLookAt_107 at hF
                refine r_iload hk 4 (dtX3_rowsToLookAt_0 52 (107, .iload 5, 2) rfl) rfl ?_
                refine r_aload_n hk 0 (dtX3_rowsToLookAt_0 53 (109, .aload_n 0, 1) rfl) rfl ?_
                refine r_getS hk fl_X3_30 hF (dtX3_rowsToLookAt_0 54 (110, .getfield 30, 3) rfl) (fun q20 hq20 hF => ?_)
                refine r_iload_n hk 1 (dtX3_rowsToLookAt_0 55 (113, .iload_n 1, 1) rfl) rfl ?_
                refine r_iload hk 6 (dtX3_rowsToLookAt_0 56 (114, .iload 8, 2) rfl) rfl ?_
                refine r_aload_n hk 0 (dtX3_rowsToLookAt_0 57 (116, .aload_n 0, 1) rfl) rfl ?_
                refine r_getR hk (k := 2) (fsX3 X) cbX3 (by decide) fl_X3_22 (in_main 0 (by decide)) (fun _ => rfl) (fun _ _ => rfl) (dtX3_rowsToLookAt_0 58 (117, .getfield 22, 3) rfl) ?_
                refine r_getR hk (k := 2) (fsX0 X) cbX0 (by decide) fl_X3_301 (in_main 3 (by decide)) (fun _ => rfl) (fun _ _ => rfl) (dtX3_rowsToLookAt_0 59 (120, .getfield 301, 3) rfl) ?_
                refine r_iload hk 5 (dtX3_rowsToLookAt_0 60 (123, .iload 6, 2) rfl) rfl ?_
                refine r_iald hk (in_main 7 (by decide)) (fun _ => rfl) hF (dtX3_rowsToLookAt_0 61 (125, .iaload, 1) rfl) (fun v21 hF => ?_)
                refine r_callI hF (fun v22 h H locs ls hH hS hl => run_V (y := yX1_rowsWith) hk (in_st q20 hq20 0 (by decide)) rfl rfl (c_X1_rowsWith (kl K) hk.2.2.2.2.2.2.2.2.2.2.2 X q20 hq20 p1 v13 v21 m0 v22 h) lk_X3_304 me_X1_rowsWith yf_X1_rowsWith (by decide) (by decide) rfl (Nat.le_of_ble_eq_true rfl) rfl (dtX3_rowsToLookAt_0 62 (126, .invokevirtual 304, 3) rfl) hH hS hl) (fun v22 hF => ?_)
                refine r_mmin hk lk_X3_307 hF (by decide) (Nat.le_of_ble_eq_true rfl) (dtX3_rowsToLookAt_0 63 (129, .invokestatic 307, 3) rfl) (fun v23 hF => ?_)
                refine r_istore hk [(5, .int v23), (0, .ref (xad X (0, 0, 0, 0))), (1, .int p1), (3, .int p3), (4, .ref (xad X (2, q1, q2, 0))), (6, .int v8), (8, .int v13)] (dtX3_rowsToLookAt_1 0 (132, .istore 5, 2) rfl) (by decide) rfl ?_
                exact r_sub hk [1, 2, 3, 4, 0, 5] rfl (j134_16 v23 hF)
              refine r_if_ne hk 107 hF (dtX3_rowsToLookAt_0 48 (98, .ifCond .ne 9, 3) rfl) (by decide) (fun hF => ?_) (fun hF => ?_)
              · exact r_sub hk [2, 3, 4, 5, 6, 7, 0] rfl (j107_19 hF)
              · refine r_iload hk 1 (dtX3_rowsToLookAt_0 49 (101, .iload 7, 2) rfl) rfl ?_
                refine r_iload_n hk 4 (dtX3_rowsToLookAt_0 50 (103, .iload_n 3, 1) rfl) rfl ?_
                refine r_icmp_ne hk 134 hF (dtX3_rowsToLookAt_0 51 (104, .if_icmp .ne 30, 3) rfl) (by decide) (fun hF => ?_) (fun hF => ?_)
                · exact r_sub hk [2, 3, 4, 5, 6, 7] rfl (j134_16 v7 hF)
                · exact r_sub hk [2, 3, 4, 5, 6, 7, 0] rfl (j107_19 hF)
    exact r_sub hk [3, 4, 6, 2, 1, 0] rfl (l10 fu v4 0 hF)
  · refine r_aload_n hk 0 (dtX3_rowsToLookAt_0 2 (4, .aload_n 0, 1) rfl) rfl ?_
    refine r_getS hk fl_X3_30 hF (dtX3_rowsToLookAt_0 3 (5, .getfield 30, 3) rfl) (fun q24 hq24 hF => ?_)
    refine r_iload_n hk 1 (dtX3_rowsToLookAt_0 4 (8, .iload_n 1, 1) rfl) rfl ?_
    refine r_callI hF (fun v25 h H locs ls hH hS hl => run_V (y := yX1_rowsOf) hk (in_st q24 hq24 0 (by decide)) rfl rfl (c_X1_rowsOf (kl K) hk.2.2.2.2.2.2.2.2.2.2.2 X q24 hq24 p1 m0 v25 h) lk_X3_100 me_X1_rowsOf yf_X1_rowsOf (by decide) (by decide) rfl (Nat.le_of_ble_eq_true rfl) rfl (dtX3_rowsToLookAt_0 5 (9, .invokevirtual 100, 3) rfl) hH hS hl) (fun v25 hF => ?_)
    cases Option.some.inj hF
    exact hR _ _ (dtX3_rowsToLookAt_0 6 (12, .ireturn, 1) rfl)
