/-! the walks (written by dec.py) -/
set_option maxHeartbeats 4000000 in
set_option maxRecDepth 100000 in
theorem c_X3_isTenant (l : Launch) (hlf : l.stackTraces = false) (X : XW)  (p1 : Int32) (m0 : Mem) (rv : Int32) (hF : F_X3_isTenant p1 m0 = some rv) : MX X l yX3_isTenant cX3_isTenant 1 (some .boolean) 0 [.int p1] m0 (QI X rv m0) := by
  refine startZ hlf (by decide +kernel) rfl [(0, .int p1)] rfl (Nat.le_of_ble_eq_true rfl) (fun K hk hR => ?_)
  unfold F_X3_isTenant at hF
  refine r_iload_n hk 0 (dtX3_isTenant_0 0 (0, .iload_n 0, 1) rfl) rfl ?_
  have j14_2 : ∀ (v1 : Int32), J_X3_isTenant_14 v1 = some rv → G X K 14 [] [.int v1] m0 := by
    intro v1 hF
    unfold J_X3_isTenant_14 at hF
    obtain ⟨hz, hF⟩ := ck_some hF
    cases Option.some.inj hF
    exact hR _ _ hz (dtX3_isTenant_0 8 (14, .ireturn, 1) rfl)
  have j13_3 : J_X3_isTenant_13 = some rv → G X K 13 [] [] m0 := by
    intro hF
    unfold J_X3_isTenant_13 at hF
    refine r_iconst (v := 0) hk (dtX3_isTenant_0 7 (13, .iconst 0, 1) rfl) (by decide) ?_
    exact r_sub hk [] rfl (j14_2 0 hF)
  refine r_if_lt hk 13 hF (dtX3_isTenant_0 1 (1, .ifCond .lt 12, 3) rfl) (by decide) (fun hF => ?_) (fun hF => ?_)
  · exact r_sub hk [] rfl (j13_3 hF)
  · refine r_iload_n hk 0 (dtX3_isTenant_0 2 (4, .iload_n 0, 1) rfl) rfl ?_
    refine r_iconst (v := 3) hk (dtX3_isTenant_0 3 (5, .iconst 3, 1) rfl) (by decide) ?_
    refine r_icmp_ge hk 13 hF (dtX3_isTenant_0 4 (6, .if_icmp .ge 7, 3) rfl) (by decide) (fun hF => ?_) (fun hF => ?_)
    · exact r_sub hk [] rfl (j13_3 hF)
    · refine r_iconst (v := 1) hk (dtX3_isTenant_0 5 (9, .iconst 1, 1) rfl) (by decide) ?_
      refine r_goto hk 14 (dtX3_isTenant_0 6 (10, .goto 4, 3) rfl) (by decide) ?_
      exact r_sub hk [] rfl (j14_2 1 hF)
set_option maxHeartbeats 4000000 in
set_option maxRecDepth 100000 in
theorem c_X3_require (l : Launch) (hlf : l.stackTraces = false) (X : XW)  (p1 : Int32) (m0 : Mem) (rv : Unit ⊕ Nat) (hF : F_X3_require p1 m0 = some rv) : MT X l yX3_require cX3_require 1 none 7 [.int p1] m0 rv m0 (QTV X rv m0) := by
  refine startTV hlf (by decide +kernel) rfl [(0, .int p1)] rfl (Nat.le_of_ble_eq_true rfl) (fun K hk hR hX => ?_)
  unfold F_X3_require at hF
  refine r_iload_n hk 0 (dtX3_require_0 0 (0, .iload_n 0, 1) rfl) rfl ?_
  refine r_if_ne hk 15 hF (dtX3_require_0 1 (1, .ifCond .ne 14, 3) rfl) (by decide) (fun hF => ?_) (fun hF => ?_)
  · cases Option.some.inj hF
    exact hR () rfl _ _ (dtX3_require_0 7 (15, .return_, 1) rfl)
  · cases Option.some.inj hF
    exact (hX 0 rfl).2.2.2 _ _ _ _ _ _ _ th_X3_267_271 th_X3_267_271_g (hk.2.2.2.2.2.1.2.2.2.2.2.2.1) (by decide) (Nat.le_of_ble_eq_true rfl) (dtX3_require_0 2 (4, .new 267, 3) rfl) (dtX3_require_0 3 (7, .dup, 1) rfl) (dtX3_require_0 4 (8, .ldc_w 269, 3) rfl) (dtX3_require_0 5 (11, .invokespecial 271, 3) rfl) (dtX3_require_0 6 (14, .athrow, 1) rfl)
set_option maxHeartbeats 4000000 in
set_option maxRecDepth 100000 in
theorem c_X3_asNumber (l : Launch) (hlf : l.stackTraces = false) (X : XW)  (p1 : Int32) (m0 : Mem) (rv : Int32) (hF : F_X3_asNumber p1 m0 = some rv) : MX X l yX3_asNumber cX3_asNumber 1 (some .int) 0 [.int p1] m0 (QI X rv m0) := by
  refine startI hlf (by decide +kernel) rfl [(0, .int p1)] rfl (Nat.le_of_ble_eq_true rfl) (fun K hk hR => ?_)
  unfold F_X3_asNumber at hF
  refine r_iload_n hk 0 (dtX3_asNumber_0 0 (0, .iload_n 0, 1) rfl) rfl ?_
  have j9_2 : ∀ (v1 : Int32), J_X3_asNumber_9 v1 = some rv → G X K 9 [] [.int v1] m0 := by
    intro v1 hF
    unfold J_X3_asNumber_9 at hF
    cases Option.some.inj hF
    exact hR _ _ (dtX3_asNumber_0 5 (9, .ireturn, 1) rfl)
  refine r_if_eq hk 8 hF (dtX3_asNumber_0 1 (1, .ifCond .eq 7, 3) rfl) (by decide) (fun hF => ?_) (fun hF => ?_)
  · refine r_iconst (v := 0) hk (dtX3_asNumber_0 4 (8, .iconst 0, 1) rfl) (by decide) ?_
    exact r_sub hk [] rfl (j9_2 0 hF)
  · refine r_iconst (v := 1) hk (dtX3_asNumber_0 2 (4, .iconst 1, 1) rfl) (by decide) ?_
    refine r_goto hk 9 (dtX3_asNumber_0 3 (5, .goto 4, 3) rfl) (by decide) ?_
    exact r_sub hk [] rfl (j9_2 1 hF)
set_option maxHeartbeats 4000000 in
set_option maxRecDepth 100000 in
theorem c_X1_rowsOf (l : Launch) (hlf : l.stackTraces = false) (X : XW) (i0 : Nat) (hi0 : i0 < 7) (p1 : Int32) (m0 : Mem) (rv : Int32) (hF : F_X1_rowsOf i0 p1 m0 = some rv) : MX X l yX1_rowsOf cX1_rowsOf 4 (some .int) 1 [.ref (xad X (1, i0, 0, 0)), .int p1] m0 (QI X rv m0) := by
  refine startI hlf (by decide +kernel) rfl [(0, .ref (xad X (1, i0, 0, 0))), (1, .int p1)] rfl (Nat.le_of_ble_eq_true rfl) (fun K hk hR => ?_)
  unfold F_X1_rowsOf at hF
  refine r_iconst (v := 0) hk (dtX1_rowsOf_0 0 (0, .iconst 0, 1) rfl) (by decide) ?_
  refine r_istore_n hk [(2, .int 0), (0, .ref (xad X (1, i0, 0, 0))), (1, .int p1)] (dtX1_rowsOf_0 1 (1, .istore_n 2, 1) rfl) (by decide) rfl ?_
  refine r_iconst (v := 0) hk (dtX1_rowsOf_0 2 (2, .iconst 0, 1) rfl) (by decide) ?_
  refine r_istore_n hk [(3, .int 0), (2, .int 0), (0, .ref (xad X (1, i0, 0, 0))), (1, .int p1)] (dtX1_rowsOf_0 3 (3, .istore_n 3, 1) rfl) (by decide) rfl ?_
  have e39_2 : ∀ (v1 : Int32), C_X1_rowsOf_39 v1 = some rv → G X K 39 [(2, .int v1)] [] m0 := by
    intro v1 hF
    unfold C_X1_rowsOf_39 at hF
    refine r_iload_n hk 0 (dtX1_rowsOf_0 23 (39, .iload_n 2, 1) rfl) rfl ?_
    cases Option.some.inj hF
    exact hR _ _ (dtX1_rowsOf_0 24 (40, .ireturn, 1) rfl)
  have l6 : ∀ (n6 : Nat) (v3 : Int32) (v4 : Int32), L_X1_rowsOf_4 i0 p1 m0 n6 v3 v4 = some rv → G X K 4 [(0, .ref (xad X (1, i0, 0, 0))), (1, .int p1), (2, .int v3), (3, .int v4)] [] m0 := by
    intro n6
    induction n6 with
    | zero => intro v3 v4 hF; exact nomatch (show (none : Option Int32) = some rv from hF)
    | succ n6 ih6 =>
      intro v3 v4 hF
      rw [L_X1_rowsOf_4] at hF
      refine r_iload_n hk 3 (dtX1_rowsOf_0 4 (4, .iload_n 3, 1) rfl) rfl ?_
      refine r_aload_n hk 0 (dtX1_rowsOf_0 5 (5, .aload_n 0, 1) rfl) rfl ?_
      refine r_getI hk (k := 3) (fsX1 X i0) cbX1 (by decide) fl_X1_29 (in_st i0 hi0 0 (by decide)) (fun _ => rfl) (fun _ _ => rfl) hF (dtX1_rowsOf_0 6 (6, .getfield 29, 3) rfl) (fun v7 hF => ?_)
      refine r_icmp_ge hk 39 hF (dtX1_rowsOf_0 7 (9, .if_icmp .ge 30, 3) rfl) (by decide) (fun hF => ?_) (fun hF => ?_)
      · exact r_sub hk [2] rfl (e39_2 v3 hF)
      · refine r_iload_n hk 2 (dtX1_rowsOf_0 8 (12, .iload_n 2, 1) rfl) rfl ?_
        refine r_aload_n hk 0 (dtX1_rowsOf_0 9 (13, .aload_n 0, 1) rfl) rfl ?_
        refine r_getR hk (k := 1) (fsX1 X i0) cbX1 (by decide) fl_X1_17 (in_st i0 hi0 0 (by decide)) (fun _ => rfl) (fun _ _ => rfl) (dtX1_rowsOf_0 10 (14, .getfield 17, 3) rfl) ?_
        refine r_iload_n hk 3 (dtX1_rowsOf_0 11 (17, .iload_n 3, 1) rfl) rfl ?_
        refine r_iald hk (in_st i0 hi0 2 (by decide)) (fun _ => rfl) hF (dtX1_rowsOf_0 12 (18, .iaload, 1) rfl) (fun v8 hF => ?_)
        refine r_iload_n hk 1 (dtX1_rowsOf_0 13 (19, .iload_n 1, 1) rfl) rfl ?_
        have j28_10 : ∀ (v9 : Int32), (J_X1_rowsOf_28 m0 v3 v4 (fun w0 w1 => L_X1_rowsOf_4 i0 p1 m0 n6 w0 w1)) v9 = some rv → G X K 28 [(0, .ref (xad X (1, i0, 0, 0))), (1, .int p1), (3, .int v4)] [.int v9, .int v3] m0 := by
          intro v9 hF
          unfold J_X1_rowsOf_28 at hF
          refine r_callI hF (fun v11 h H locs ls hH hS hl => run_SN hk (c_X3_asNumber (kl K) hk.2.2.2.2.2.2.2.2.2.2.2 X  v9 m0 v11 h) lk_X1_64 me_X3_asNumber yf_X3_asNumber (by decide) (by decide) rfl (Nat.le_of_ble_eq_true rfl) rfl (dtX1_rowsOf_0 18 (28, .invokestatic 64, 3) rfl) hH hS hl) (fun v11 hF => ?_)
          refine r_iadd hk hF (dtX1_rowsOf_0 19 (31, .iadd, 1) rfl) (fun v12 hF => ?_)
          refine r_istore_n hk [(2, .int v12), (0, .ref (xad X (1, i0, 0, 0))), (1, .int p1), (3, .int v4)] (dtX1_rowsOf_0 20 (32, .istore_n 2, 1) rfl) (by decide) rfl ?_
          refine r_iinc hk 1 3 (fun v13 => [(3, .int v13), (2, .int v12), (0, .ref (xad X (1, i0, 0, 0))), (1, .int p1)]) hF (dtX1_rowsOf_0 21 (33, .iinc 3 1, 3) rfl) rfl (by decide) (by decide) (fun _ => rfl) (fun v13 hF => ?_)
          refine r_goto hk 4 (dtX1_rowsOf_0 22 (36, .goto (-32), 3) rfl) (by decide) ?_
          exact r_sub hk [2, 3, 1, 0] rfl (ih6 v12 v13 hF)
        refine r_icmp_ne hk 27 hF (dtX1_rowsOf_0 14 (20, .if_icmp .ne 7, 3) rfl) (by decide) (fun hF => ?_) (fun hF => ?_)
        · refine r_iconst (v := 0) hk (dtX1_rowsOf_0 17 (27, .iconst 0, 1) rfl) (by decide) ?_
          exact r_sub hk [0, 1, 3] rfl (j28_10 0 hF)
        · refine r_iconst (v := 1) hk (dtX1_rowsOf_0 15 (23, .iconst 1, 1) rfl) (by decide) ?_
          refine r_goto hk 28 (dtX1_rowsOf_0 16 (24, .goto 4, 3) rfl) (by decide) ?_
          exact r_sub hk [0, 1, 3] rfl (j28_10 1 hF)
  exact r_sub hk [2, 3, 1, 0] rfl (l6 fu 0 0 hF)
set_option maxHeartbeats 4000000 in
set_option maxRecDepth 100000 in
theorem c_X2_meanings (l : Launch) (hlf : l.stackTraces = false) (X : XW) (i0 : Nat) (hi0 : i0 < 7) (j0 : Nat) (hj0 : j0 < 3)  (m0 : Mem) (rv : Int32) (hF : F_X2_meanings i0 j0 m0 = some rv) : MX X l yX2_meanings cX2_meanings 3 (some .int) 1 [.ref (xad X (2, i0, j0, 0))] m0 (QI X rv m0) := by
  refine startI hlf (by decide +kernel) rfl [(0, .ref (xad X (2, i0, j0, 0)))] rfl (Nat.le_of_ble_eq_true rfl) (fun K hk hR => ?_)
  unfold F_X2_meanings at hF
  refine r_iconst (v := 0) hk (dtX2_meanings_0 0 (0, .iconst 0, 1) rfl) (by decide) ?_
  refine r_istore_n hk [(1, .int 0), (0, .ref (xad X (2, i0, j0, 0)))] (dtX2_meanings_0 1 (1, .istore_n 1, 1) rfl) (by decide) rfl ?_
  refine r_iconst (v := 0) hk (dtX2_meanings_0 2 (2, .iconst 0, 1) rfl) (by decide) ?_
  refine r_istore_n hk [(2, .int 0), (1, .int 0), (0, .ref (xad X (2, i0, j0, 0)))] (dtX2_meanings_0 3 (3, .istore_n 2, 1) rfl) (by decide) rfl ?_
  have e37_2 : ∀ (v1 : Int32), C_X2_meanings_37 v1 = some rv → G X K 37 [(1, .int v1)] [] m0 := by
    intro v1 hF
    unfold C_X2_meanings_37 at hF
    refine r_iload_n hk 0 (dtX2_meanings_0 22 (37, .iload_n 1, 1) rfl) rfl ?_
    cases Option.some.inj hF
    exact hR _ _ (dtX2_meanings_0 23 (38, .ireturn, 1) rfl)
  have l6 : ∀ (n6 : Nat) (v3 : Int32) (v4 : Int32), L_X2_meanings_4 i0 j0 m0 n6 v3 v4 = some rv → G X K 4 [(0, .ref (xad X (2, i0, j0, 0))), (1, .int v3), (2, .int v4)] [] m0 := by
    intro n6
    induction n6 with
    | zero => intro v3 v4 hF; exact nomatch (show (none : Option Int32) = some rv from hF)
    | succ n6 ih6 =>
      intro v3 v4 hF
      rw [L_X2_meanings_4] at hF
      refine r_iload_n hk 2 (dtX2_meanings_0 4 (4, .iload_n 2, 1) rfl) rfl ?_
      refine r_bipush (v := 8) hk (dtX2_meanings_0 5 (5, .bipush 8, 2) rfl) (by decide) ?_
      refine r_icmp_ge hk 37 hF (dtX2_meanings_0 6 (7, .if_icmp .ge 30, 3) rfl) (by decide) (fun hF => ?_) (fun hF => ?_)
      · exact r_sub hk [1] rfl (e37_2 v3 hF)
      · refine r_iload_n hk 1 (dtX2_meanings_0 7 (10, .iload_n 1, 1) rfl) rfl ?_
        refine r_aload_n hk 0 (dtX2_meanings_0 8 (11, .aload_n 0, 1) rfl) rfl ?_
        refine r_getR hk (k := 0) (fsX2 X i0 j0) cbX2 (by decide) fl_X2_9 (in_tn i0 hi0 j0 hj0 0 (by decide)) (fun _ => rfl) (fun _ _ => rfl) (dtX2_meanings_0 9 (12, .getfield 9, 3) rfl) ?_
        refine r_iload_n hk 2 (dtX2_meanings_0 10 (15, .iload_n 2, 1) rfl) rfl ?_
        refine r_iald hk (in_tn i0 hi0 j0 hj0 1 (by decide)) (fun _ => rfl) hF (dtX2_meanings_0 11 (16, .iaload, 1) rfl) (fun v7 hF => ?_)
        refine r_iconst (v := (-1)) hk (dtX2_meanings_0 12 (17, .iconst (-1), 1) rfl) (by decide) ?_
        have j26_9 : ∀ (v8 : Int32), (J_X2_meanings_26 m0 v3 v4 (fun w0 w1 => L_X2_meanings_4 i0 j0 m0 n6 w0 w1)) v8 = some rv → G X K 26 [(0, .ref (xad X (2, i0, j0, 0))), (2, .int v4)] [.int v8, .int v3] m0 := by
          intro v8 hF
          unfold J_X2_meanings_26 at hF
          refine r_callI hF (fun v10 h H locs ls hH hS hl => run_SN hk (c_X3_asNumber (kl K) hk.2.2.2.2.2.2.2.2.2.2.2 X  v8 m0 v10 h) lk_X2_49 me_X3_asNumber yf_X3_asNumber (by decide) (by decide) rfl (Nat.le_of_ble_eq_true rfl) rfl (dtX2_meanings_0 17 (26, .invokestatic 49, 3) rfl) hH hS hl) (fun v10 hF => ?_)
          refine r_iadd hk hF (dtX2_meanings_0 18 (29, .iadd, 1) rfl) (fun v11 hF => ?_)
          refine r_istore_n hk [(1, .int v11), (0, .ref (xad X (2, i0, j0, 0))), (2, .int v4)] (dtX2_meanings_0 19 (30, .istore_n 1, 1) rfl) (by decide) rfl ?_
          refine r_iinc hk 1 2 (fun v12 => [(2, .int v12), (1, .int v11), (0, .ref (xad X (2, i0, j0, 0)))]) hF (dtX2_meanings_0 20 (31, .iinc 2 1, 3) rfl) rfl (by decide) (by decide) (fun _ => rfl) (fun v12 hF => ?_)
          refine r_goto hk 4 (dtX2_meanings_0 21 (34, .goto (-30), 3) rfl) (by decide) ?_
          exact r_sub hk [2, 1, 0] rfl (ih6 v11 v12 hF)
        refine r_icmp_eq hk 25 hF (dtX2_meanings_0 13 (18, .if_icmp .eq 7, 3) rfl) (by decide) (fun hF => ?_) (fun hF => ?_)
        · refine r_iconst (v := 0) hk (dtX2_meanings_0 16 (25, .iconst 0, 1) rfl) (by decide) ?_
          exact r_sub hk [0, 2] rfl (j26_9 0 hF)
        · refine r_iconst (v := 1) hk (dtX2_meanings_0 14 (21, .iconst 1, 1) rfl) (by decide) ?_
          refine r_goto hk 26 (dtX2_meanings_0 15 (22, .goto 4, 3) rfl) (by decide) ?_
          exact r_sub hk [0, 2] rfl (j26_9 1 hF)
  exact r_sub hk [2, 1, 0] rfl (l6 fu 0 0 hF)
set_option maxHeartbeats 4000000 in
set_option maxRecDepth 100000 in
theorem c_X3_tenant (l : Launch) (hlf : l.stackTraces = false) (X : XW)  (p1 : Int32) (p2 : Int32) (m0 : Mem) (rv : Int32 ⊕ Nat) (hF : F_X3_tenant p1 p2 m0 = some rv) : MT X l yX3_tenant cX3_tenant 4 (some .int) 8 [.ref (xad X (0, 0, 0, 0)), .int p1, .int p2] m0 rv m0 (QTI X rv m0) := by
  refine startTI hlf (by decide +kernel) rfl [(0, .ref (xad X (0, 0, 0, 0))), (1, .int p1), (2, .int p2)] rfl (Nat.le_of_ble_eq_true rfl) (fun K hk hR hX => ?_)
  unfold F_X3_tenant at hF
  refine r_iload_n hk 1 (dtX3_tenant_0 0 (0, .iload_n 1, 1) rfl) rfl ?_
  refine r_callI hF (fun v1 h H locs ls hH hS hl => run_S hk (c_X3_isTenant (kl K) hk.2.2.2.2.2.2.2.2.2.2.2 X  p1 m0 v1 h) lk_X3_34 me_X3_isTenant yf_X3_isTenant (by decide) (by decide) rfl (Nat.le_of_ble_eq_true rfl) rfl (dtX3_tenant_0 1 (1, .invokestatic 34, 3) rfl) hH hS hl) (fun v1 hF => ?_)
  have j22_3 : ∀ (v2 : Int32), (J_X3_tenant_22 p1 p2 m0) v2 = some rv → G X K 22 [(0, .ref (xad X (0, 0, 0, 0))), (1, .int p1), (2, .int p2)] [.int v2] m0 := by
    intro v2 hF
    unfold J_X3_tenant_22 at hF
    refine r_callVts hk hF (fun c h => by cases Option.some.inj h; exact hX c rfl) (fun R h hf H locs ls hH hS hl => runT_S hk (c_X3_require (kl K) hk.2.2.2.2.2.2.2.2.2.2.2 X  v2 m0 R h) lk_X3_41 me_X3_require yf_X3_require (by decide) (by decide) rfl (Nat.le_of_ble_eq_true rfl) rfl (dtX3_tenant_0 11 (22, .invokestatic 41, 3) rfl) hf hH hS hl) (fun _ hF => ?_)
    refine r_aload_n hk 0 (dtX3_tenant_0 12 (25, .aload_n 0, 1) rfl) rfl ?_
    refine r_getS hk fl_X3_30 hF (dtX3_tenant_0 13 (26, .getfield 30, 3) rfl) (fun q4 hq4 hF => ?_)
    refine r_getR hk (k := 0) (fsX1 X q4) cbX1 (by decide) fl_X3_49 (in_st q4 hq4 0 (by decide)) (fun _ => rfl) (fun _ _ => rfl) (dtX3_tenant_0 14 (29, .getfield 49, 3) rfl) ?_
    refine r_iload_n hk 1 (dtX3_tenant_0 15 (32, .iload_n 1, 1) rfl) rfl ?_
    refine r_aldT hk hq4 hF (dtX3_tenant_0 16 (33, .aaload, 1) rfl) (fun q5 hq5 hF => ?_)
    refine r_astore_n hk [(3, .ref (xad X (2, q4, q5, 0))), (0, .ref (xad X (0, 0, 0, 0))), (1, .int p1), (2, .int p2)] (dtX3_tenant_0 17 (34, .astore_n 3, 1) rfl) (by decide) rfl ?_
    refine r_iload_n hk 3 (dtX3_tenant_0 18 (35, .iload_n 2, 1) rfl) rfl ?_
    by_cases hs36_0 : p2 = 0
    · rw [if_pos hs36_0] at hF
      refine r_tabIn hk 84 (dtX3_tenant_0 19 (36, .tableswitch 95 0 7 #[48, 57, 62, 67, 72, 80, 85, 90], 48) rfl) (by rw [hs36_0]; decide) (by rw [hs36_0]; decide) (by rw [hs36_0]; rfl) (by decide) ?_
      refine r_aload_n hk 1 (dtX3_tenant_0 20 (84, .aload_n 0, 1) rfl) rfl ?_
      refine r_getS hk fl_X3_30 hF (dtX3_tenant_0 21 (85, .getfield 30, 3) rfl) (fun q6 hq6 hF => ?_)
      refine r_iload_n hk 2 (dtX3_tenant_0 22 (88, .iload_n 1, 1) rfl) rfl ?_
      refine r_callI hF (fun v7 h H locs ls hH hS hl => run_V (y := yX1_rowsOf) hk (in_st q6 hq6 0 (by decide)) rfl rfl (c_X1_rowsOf (kl K) hk.2.2.2.2.2.2.2.2.2.2.2 X q6 hq6 p1 m0 v7 h) lk_X3_100 me_X1_rowsOf yf_X1_rowsOf (by decide) (by decide) rfl (Nat.le_of_ble_eq_true rfl) rfl (dtX3_tenant_0 23 (89, .invokevirtual 100, 3) rfl) hH hS hl) (fun v7 hF => ?_)
      cases Option.some.inj hF
      exact hR v7 rfl _ _ (dtX3_tenant_0 24 (92, .ireturn, 1) rfl)
    · rw [if_neg hs36_0] at hF
      by_cases hs36_1 : p2 = 1
      · rw [if_pos hs36_1] at hF
        refine r_tabIn hk 93 (dtX3_tenant_0 19 (36, .tableswitch 95 0 7 #[48, 57, 62, 67, 72, 80, 85, 90], 48) rfl) (by rw [hs36_1]; decide) (by rw [hs36_1]; decide) (by rw [hs36_1]; rfl) (by decide) ?_
        refine r_aload_n hk 0 (dtX3_tenant_0 25 (93, .aload_n 3, 1) rfl) rfl ?_
        refine r_callI hF (fun v8 h H locs ls hH hS hl => run_V (y := yX2_meanings) hk (in_tn q4 hq4 q5 hq5 0 (by decide)) rfl rfl (c_X2_meanings (kl K) hk.2.2.2.2.2.2.2.2.2.2.2 X q4 hq4 q5 hq5  m0 v8 h) lk_X3_53 me_X2_meanings yf_X2_meanings (by decide) (by decide) rfl (Nat.le_of_ble_eq_true rfl) rfl (dtX3_tenant_0 26 (94, .invokevirtual 53, 3) rfl) hH hS hl) (fun v8 hF => ?_)
        cases Option.some.inj hF
        exact hR v8 rfl _ _ (dtX3_tenant_0 27 (97, .ireturn, 1) rfl)
      · rw [if_neg hs36_1] at hF
        by_cases hs36_2 : p2 = 2
        · rw [if_pos hs36_2] at hF
          refine r_tabIn hk 98 (dtX3_tenant_0 19 (36, .tableswitch 95 0 7 #[48, 57, 62, 67, 72, 80, 85, 90], 48) rfl) (by rw [hs36_2]; decide) (by rw [hs36_2]; decide) (by rw [hs36_2]; rfl) (by decide) ?_
          refine r_aload_n hk 0 (dtX3_tenant_0 28 (98, .aload_n 3, 1) rfl) rfl ?_
          refine r_getI hk (k := 3) (fsX2 X q4 q5) cbX2 (by decide) fl_X3_103 (in_tn q4 hq4 q5 hq5 0 (by decide)) (fun _ => rfl) (fun _ _ => rfl) hF (dtX3_tenant_0 29 (99, .getfield 103, 3) rfl) (fun v9 hF => ?_)
          cases Option.some.inj hF
          exact hR v9 rfl _ _ (dtX3_tenant_0 30 (102, .ireturn, 1) rfl)
        · rw [if_neg hs36_2] at hF
          by_cases hs36_3 : p2 = 3
          · rw [if_pos hs36_3] at hF
            refine r_tabIn hk 103 (dtX3_tenant_0 19 (36, .tableswitch 95 0 7 #[48, 57, 62, 67, 72, 80, 85, 90], 48) rfl) (by rw [hs36_3]; decide) (by rw [hs36_3]; decide) (by rw [hs36_3]; rfl) (by decide) ?_
            refine r_aload_n hk 0 (dtX3_tenant_0 31 (103, .aload_n 3, 1) rfl) rfl ?_
            refine r_getI hk (k := 4) (fsX2 X q4 q5) cbX2 (by decide) fl_X3_59 (in_tn q4 hq4 q5 hq5 0 (by decide)) (fun _ => rfl) (fun _ _ => rfl) hF (dtX3_tenant_0 32 (104, .getfield 59, 3) rfl) (fun v10 hF => ?_)
            cases Option.some.inj hF
            exact hR v10 rfl _ _ (dtX3_tenant_0 33 (107, .ireturn, 1) rfl)
          · rw [if_neg hs36_3] at hF
            by_cases hs36_4 : p2 = 4
            · rw [if_pos hs36_4] at hF
              refine r_tabIn hk 108 (dtX3_tenant_0 19 (36, .tableswitch 95 0 7 #[48, 57, 62, 67, 72, 80, 85, 90], 48) rfl) (by rw [hs36_4]; decide) (by rw [hs36_4]; decide) (by rw [hs36_4]; rfl) (by decide) ?_
              refine r_aload_n hk 0 (dtX3_tenant_0 34 (108, .aload_n 3, 1) rfl) rfl ?_
              refine r_getI hk (k := 5) (fsX2 X q4 q5) cbX2 (by decide) fl_X3_106 (in_tn q4 hq4 q5 hq5 0 (by decide)) (fun _ => rfl) (fun _ _ => rfl) hF (dtX3_tenant_0 35 (109, .getfield 106, 3) rfl) (fun v11 hF => ?_)
              refine r_callI hF (fun v12 h H locs ls hH hS hl => run_S hk (c_X3_asNumber (kl K) hk.2.2.2.2.2.2.2.2.2.2.2 X  v11 m0 v12 h) lk_X3_96 me_X3_asNumber yf_X3_asNumber (by decide) (by decide) rfl (Nat.le_of_ble_eq_true rfl) rfl (dtX3_tenant_0 36 (112, .invokestatic 96, 3) rfl) hH hS hl) (fun v12 hF => ?_)
              cases Option.some.inj hF
              exact hR v12 rfl _ _ (dtX3_tenant_0 37 (115, .ireturn, 1) rfl)
            · rw [if_neg hs36_4] at hF
              by_cases hs36_5 : p2 = 5
              · rw [if_pos hs36_5] at hF
                refine r_tabIn hk 116 (dtX3_tenant_0 19 (36, .tableswitch 95 0 7 #[48, 57, 62, 67, 72, 80, 85, 90], 48) rfl) (by rw [hs36_5]; decide) (by rw [hs36_5]; decide) (by rw [hs36_5]; rfl) (by decide) ?_
                refine r_aload_n hk 0 (dtX3_tenant_0 38 (116, .aload_n 3, 1) rfl) rfl ?_
                refine r_getI hk (k := 6) (fsX2 X q4 q5) cbX2 (by decide) fl_X3_166 (in_tn q4 hq4 q5 hq5 0 (by decide)) (fun _ => rfl) (fun _ _ => rfl) hF (dtX3_tenant_0 39 (117, .getfield 166, 3) rfl) (fun v13 hF => ?_)
                cases Option.some.inj hF
                exact hR v13 rfl _ _ (dtX3_tenant_0 40 (120, .ireturn, 1) rfl)
              · rw [if_neg hs36_5] at hF
                by_cases hs36_6 : p2 = 6
                · rw [if_pos hs36_6] at hF
                  refine r_tabIn hk 121 (dtX3_tenant_0 19 (36, .tableswitch 95 0 7 #[48, 57, 62, 67, 72, 80, 85, 90], 48) rfl) (by rw [hs36_6]; decide) (by rw [hs36_6]; decide) (by rw [hs36_6]; rfl) (by decide) ?_
                  refine r_aload_n hk 0 (dtX3_tenant_0 41 (121, .aload_n 3, 1) rfl) rfl ?_
                  refine r_getI hk (k := 7) (fsX2 X q4 q5) cbX2 (by decide) fl_X3_169 (in_tn q4 hq4 q5 hq5 0 (by decide)) (fun _ => rfl) (fun _ _ => rfl) hF (dtX3_tenant_0 42 (122, .getfield 169, 3) rfl) (fun v14 hF => ?_)
                  cases Option.some.inj hF
                  exact hR v14 rfl _ _ (dtX3_tenant_0 43 (125, .ireturn, 1) rfl)
                · rw [if_neg hs36_6] at hF
                  by_cases hs36_7 : p2 = 7
                  · rw [if_pos hs36_7] at hF
                    refine r_tabIn hk 126 (dtX3_tenant_0 19 (36, .tableswitch 95 0 7 #[48, 57, 62, 67, 72, 80, 85, 90], 48) rfl) (by rw [hs36_7]; decide) (by rw [hs36_7]; decide) (by rw [hs36_7]; rfl) (by decide) ?_
                    refine r_aload_n hk 0 (dtX3_tenant_0 44 (126, .aload_n 3, 1) rfl) rfl ?_
                    refine r_getI hk (k := 8) (fsX2 X q4 q5) cbX2 (by decide) fl_X3_176 (in_tn q4 hq4 q5 hq5 0 (by decide)) (fun _ => rfl) (fun _ _ => rfl) hF (dtX3_tenant_0 45 (127, .getfield 176, 3) rfl) (fun v15 hF => ?_)
                    cases Option.some.inj hF
                    exact hR v15 rfl _ _ (dtX3_tenant_0 46 (130, .ireturn, 1) rfl)
                  · rw [if_neg hs36_7] at hF
                    refine r_tabOut hk 131 (dtX3_tenant_0 19 (36, .tableswitch 95 0 7 #[48, 57, 62, 67, 72, 80, 85, 90], 48) rfl) (by have q0 := lv_neT hs36_0 (a := 0) rfl; have q1 := lv_neT hs36_1 (a := 1) rfl; have q2 := lv_neT hs36_2 (a := 2) rfl; have q3 := lv_neT hs36_3 (a := 3) rfl; have q4 := lv_neT hs36_4 (a := 4) rfl; have q5 := lv_neT hs36_5 (a := 5) rfl; have q6 := lv_neT hs36_6 (a := 6) rfl; have q7 := lv_neT hs36_7 (a := 7) rfl; omega) (by decide) ?_
                    refine r_aload_n hk 0 (dtX3_tenant_0 47 (131, .aload_n 3, 1) rfl) rfl ?_
                    refine r_getI hk (k := 9) (fsX2 X q4 q5) cbX2 (by decide) fl_X3_194 (in_tn q4 hq4 q5 hq5 0 (by decide)) (fun _ => rfl) (fun _ _ => rfl) hF (dtX3_tenant_0 48 (132, .getfield 194, 3) rfl) (fun v16 hF => ?_)
                    cases Option.some.inj hF
                    exact hR v16 rfl _ _ (dtX3_tenant_0 49 (135, .ireturn, 1) rfl)
  have j21_17 : (J_X3_tenant_21 p1 p2 m0) = some rv → G X K 21 [(0, .ref (xad X (0, 0, 0, 0))), (1, .int p1), (2, .int p2)] [] m0 := by
    intro hF
    unfold J_X3_tenant_21 at hF
    refine r_iconst (v := 0) hk (dtX3_tenant_0 10 (21, .iconst 0, 1) rfl) (by decide) ?_
    exact r_sub hk [0, 1, 2] rfl (j22_3 0 hF)
  refine r_if_eq hk 21 hF (dtX3_tenant_0 2 (4, .ifCond .eq 17, 3) rfl) (by decide) (fun hF => ?_) (fun hF => ?_)
  · exact r_sub hk [0, 1, 2] rfl (j21_17 hF)
  · refine r_iload_n hk 2 (dtX3_tenant_0 3 (7, .iload_n 2, 1) rfl) rfl ?_
    refine r_if_lt hk 21 hF (dtX3_tenant_0 4 (8, .ifCond .lt 13, 3) rfl) (by decide) (fun hF => ?_) (fun hF => ?_)
    · exact r_sub hk [0, 1, 2] rfl (j21_17 hF)
    · refine r_iload_n hk 2 (dtX3_tenant_0 5 (11, .iload_n 2, 1) rfl) rfl ?_
      refine r_bipush (v := 8) hk (dtX3_tenant_0 6 (12, .bipush 8, 2) rfl) (by decide) ?_
      refine r_icmp_gt hk 21 hF (dtX3_tenant_0 7 (14, .if_icmp .gt 7, 3) rfl) (by decide) (fun hF => ?_) (fun hF => ?_)
      · exact r_sub hk [0, 1, 2] rfl (j21_17 hF)
      · refine r_iconst (v := 1) hk (dtX3_tenant_0 8 (17, .iconst 1, 1) rfl) (by decide) ?_
        refine r_goto hk 22 (dtX3_tenant_0 9 (18, .goto 4, 3) rfl) (by decide) ?_
        exact r_sub hk [0, 1, 2] rfl (j22_3 1 hF)
set_option maxHeartbeats 4000000 in
set_option maxRecDepth 100000 in
theorem c_X1_ownerOf (l : Launch) (hlf : l.stackTraces = false) (X : XW) (i0 : Nat) (hi0 : i0 < 7) (p1 : Int32) (m0 : Mem) (rv : Nat) (hF : F_X1_ownerOf i0 p1 m0 = some rv) : MX X l yX1_ownerOf cX1_ownerOf 2 (some (.object RX2)) 0 [.ref (xad X (1, i0, 0, 0)), .int p1] m0 (QR X (xad X (2, i0, rv, 0)) m0) := by
  refine startR hlf (by decide +kernel) rfl [(0, .ref (xad X (1, i0, 0, 0))), (1, .int p1)] rfl (Nat.le_of_ble_eq_true rfl) (fun K hk hR => ?_)
  unfold F_X1_ownerOf at hF
  refine r_aload_n hk 0 (dtX1_ownerOf_0 0 (0, .aload_n 0, 1) rfl) rfl ?_
  refine r_getR hk (k := 0) (fsX1 X i0) cbX1 (by decide) fl_X1_11 (in_st i0 hi0 0 (by decide)) (fun _ => rfl) (fun _ _ => rfl) (dtX1_ownerOf_0 1 (1, .getfield 11, 3) rfl) ?_
  refine r_aload_n hk 0 (dtX1_ownerOf_0 2 (4, .aload_n 0, 1) rfl) rfl ?_
  refine r_getR hk (k := 1) (fsX1 X i0) cbX1 (by decide) fl_X1_17 (in_st i0 hi0 0 (by decide)) (fun _ => rfl) (fun _ _ => rfl) (dtX1_ownerOf_0 3 (5, .getfield 17, 3) rfl) ?_
  refine r_iload_n hk 1 (dtX1_ownerOf_0 4 (8, .iload_n 1, 1) rfl) rfl ?_
  refine r_iald hk (in_st i0 hi0 2 (by decide)) (fun _ => rfl) hF (dtX1_ownerOf_0 5 (9, .iaload, 1) rfl) (fun v1 hF => ?_)
  refine r_aldT hk hi0 hF (dtX1_ownerOf_0 6 (10, .aaload, 1) rfl) (fun q2 hq2 hF => ?_)
  cases Option.some.inj hF
  exact hR _ _ (dtX1_ownerOf_0 7 (11, .areturn, 1) rfl)
set_option maxHeartbeats 4000000 in
set_option maxRecDepth 100000 in
theorem c_X1_tableRows (l : Launch) (hlf : l.stackTraces = false) (X : XW) (i0 : Nat) (hi0 : i0 < 7)  (m0 : Mem) (rv : Int32) (hF : F_X1_tableRows i0 m0 = some rv) : MX X l yX1_tableRows cX1_tableRows 3 (some .int) 1 [.ref (xad X (1, i0, 0, 0))] m0 (QI X rv m0) := by
  refine startI hlf (by decide +kernel) rfl [(0, .ref (xad X (1, i0, 0, 0)))] rfl (Nat.le_of_ble_eq_true rfl) (fun K hk hR => ?_)
  unfold F_X1_tableRows at hF
  refine r_iconst (v := 0) hk (dtX1_tableRows_0 0 (0, .iconst 0, 1) rfl) (by decide) ?_
  refine r_istore_n hk [(1, .int 0), (0, .ref (xad X (1, i0, 0, 0)))] (dtX1_tableRows_0 1 (1, .istore_n 1, 1) rfl) (by decide) rfl ?_
  refine r_iconst (v := 0) hk (dtX1_tableRows_0 2 (2, .iconst 0, 1) rfl) (by decide) ?_
  refine r_istore_n hk [(2, .int 0), (1, .int 0), (0, .ref (xad X (1, i0, 0, 0)))] (dtX1_tableRows_0 3 (3, .istore_n 2, 1) rfl) (by decide) rfl ?_
  have e40_2 : ∀ (v1 : Int32), C_X1_tableRows_40 v1 = some rv → G X K 40 [(1, .int v1)] [] m0 := by
    intro v1 hF
    unfold C_X1_tableRows_40 at hF
    refine r_iload_n hk 0 (dtX1_tableRows_0 22 (40, .iload_n 1, 1) rfl) rfl ?_
    cases Option.some.inj hF
    exact hR _ _ (dtX1_tableRows_0 23 (41, .ireturn, 1) rfl)
  have l6 : ∀ (n6 : Nat) (v3 : Int32) (v4 : Int32), L_X1_tableRows_4 i0 m0 n6 v3 v4 = some rv → G X K 4 [(0, .ref (xad X (1, i0, 0, 0))), (1, .int v3), (2, .int v4)] [] m0 := by
    intro n6
    induction n6 with
    | zero => intro v3 v4 hF; exact nomatch (show (none : Option Int32) = some rv from hF)
    | succ n6 ih6 =>
      intro v3 v4 hF
      rw [L_X1_tableRows_4] at hF
      refine r_iload_n hk 2 (dtX1_tableRows_0 4 (4, .iload_n 2, 1) rfl) rfl ?_
      refine r_aload_n hk 0 (dtX1_tableRows_0 5 (5, .aload_n 0, 1) rfl) rfl ?_
      refine r_getI hk (k := 3) (fsX1 X i0) cbX1 (by decide) fl_X1_29 (in_st i0 hi0 0 (by decide)) (fun _ => rfl) (fun _ _ => rfl) hF (dtX1_tableRows_0 6 (6, .getfield 29, 3) rfl) (fun v7 hF => ?_)
      refine r_icmp_ge hk 40 hF (dtX1_tableRows_0 7 (9, .if_icmp .ge 31, 3) rfl) (by decide) (fun hF => ?_) (fun hF => ?_)
      · exact r_sub hk [1] rfl (e40_2 v3 hF)
      · refine r_iload_n hk 1 (dtX1_tableRows_0 8 (12, .iload_n 1, 1) rfl) rfl ?_
        refine r_aload_n hk 0 (dtX1_tableRows_0 9 (13, .aload_n 0, 1) rfl) rfl ?_
        refine r_iload_n hk 2 (dtX1_tableRows_0 10 (14, .iload_n 2, 1) rfl) rfl ?_
        refine r_callR (fun q => xad X (2, i0, q, 0)) hF (fun q8 h H locs ls hH hS hl => run_V (y := yX1_ownerOf) hk (in_st i0 hi0 0 (by decide)) rfl rfl (c_X1_ownerOf (kl K) hk.2.2.2.2.2.2.2.2.2.2.2 X i0 hi0 v4 m0 q8 h) lk_X1_60 me_X1_ownerOf yf_X1_ownerOf (by decide) (by decide) rfl (Nat.le_of_ble_eq_true rfl) rfl (dtX1_tableRows_0 11 (15, .invokevirtual 60, 3) rfl) hH hS hl) (fun q8 _ hF => ?_)
        obtain ⟨hq8, hF⟩ := bp_some hF
        refine r_getI hk (k := 5) (fsX2 X i0 q8) cbX2 (by decide) fl_X1_56 (in_tn i0 hi0 q8 hq8 0 (by decide)) (fun _ => rfl) (fun _ _ => rfl) hF (dtX1_tableRows_0 12 (18, .getfield 56, 3) rfl) (fun v9 hF => ?_)
        have j29_11 : ∀ (v10 : Int32), (J_X1_tableRows_29 m0 v3 v4 (fun w0 w1 => L_X1_tableRows_4 i0 m0 n6 w0 w1)) v10 = some rv → G X K 29 [(0, .ref (xad X (1, i0, 0, 0))), (2, .int v4)] [.int v10, .int v3] m0 := by
          intro v10 hF
          unfold J_X1_tableRows_29 at hF
          refine r_callI hF (fun v12 h H locs ls hH hS hl => run_SN hk (c_X3_asNumber (kl K) hk.2.2.2.2.2.2.2.2.2.2.2 X  v10 m0 v12 h) lk_X1_64 me_X3_asNumber yf_X3_asNumber (by decide) (by decide) rfl (Nat.le_of_ble_eq_true rfl) rfl (dtX1_tableRows_0 17 (29, .invokestatic 64, 3) rfl) hH hS hl) (fun v12 hF => ?_)
          refine r_iadd hk hF (dtX1_tableRows_0 18 (32, .iadd, 1) rfl) (fun v13 hF => ?_)
          refine r_istore_n hk [(1, .int v13), (0, .ref (xad X (1, i0, 0, 0))), (2, .int v4)] (dtX1_tableRows_0 19 (33, .istore_n 1, 1) rfl) (by decide) rfl ?_
          refine r_iinc hk 1 2 (fun v14 => [(2, .int v14), (1, .int v13), (0, .ref (xad X (1, i0, 0, 0)))]) hF (dtX1_tableRows_0 20 (34, .iinc 2 1, 3) rfl) rfl (by decide) (by decide) (fun _ => rfl) (fun v14 hF => ?_)
          refine r_goto hk 4 (dtX1_tableRows_0 21 (37, .goto (-33), 3) rfl) (by decide) ?_
          exact r_sub hk [2, 1, 0] rfl (ih6 v13 v14 hF)
        refine r_if_ne hk 28 hF (dtX1_tableRows_0 13 (21, .ifCond .ne 7, 3) rfl) (by decide) (fun hF => ?_) (fun hF => ?_)
        · refine r_iconst (v := 0) hk (dtX1_tableRows_0 16 (28, .iconst 0, 1) rfl) (by decide) ?_
          exact r_sub hk [0, 2] rfl (j29_11 0 hF)
        · refine r_iconst (v := 1) hk (dtX1_tableRows_0 14 (24, .iconst 1, 1) rfl) (by decide) ?_
          refine r_goto hk 29 (dtX1_tableRows_0 15 (25, .goto 4, 3) rfl) (by decide) ?_
          exact r_sub hk [0, 2] rfl (j29_11 1 hF)
  exact r_sub hk [2, 1, 0] rfl (l6 fu 0 0 hF)
set_option maxHeartbeats 4000000 in
set_option maxRecDepth 100000 in
theorem c_X1_valueAt (l : Launch) (hlf : l.stackTraces = false) (X : XW) (i0 : Nat) (hi0 : i0 < 7) (p1 : Int32) (p2 : Int32) (m0 : Mem) (rv : Int32) (hF : F_X1_valueAt i0 p1 p2 m0 = some rv) : MX X l yX1_valueAt cX1_valueAt 3 (some .int) 0 [.ref (xad X (1, i0, 0, 0)), .int p1, .int p2] m0 (QI X rv m0) := by
  refine startI hlf (by decide +kernel) rfl [(0, .ref (xad X (1, i0, 0, 0))), (1, .int p1), (2, .int p2)] rfl (Nat.le_of_ble_eq_true rfl) (fun K hk hR => ?_)
  unfold F_X1_valueAt at hF
  refine r_iload_n hk 1 (dtX1_valueAt_0 0 (0, .iload_n 1, 1) rfl) rfl ?_
  have j22_1 : J_X1_valueAt_22 = some rv → G X K 22 [] [] m0 := by
    intro hF
    unfold J_X1_valueAt_22 at hF
    refine r_ldc hk cn_X1_39 (dtX1_valueAt_0 11 (22, .ldc 39, 2) rfl) ?_
    cases Option.some.inj hF
    exact hR _ _ (dtX1_valueAt_0 12 (24, .ireturn, 1) rfl)
  refine r_if_lt hk 22 hF (dtX1_valueAt_0 1 (1, .ifCond .lt 21, 3) rfl) (by decide) (fun hF => ?_) (fun hF => ?_)
  · exact r_sub hk [] rfl (j22_1 hF)
  · refine r_iload_n hk 1 (dtX1_valueAt_0 2 (4, .iload_n 1, 1) rfl) rfl ?_
    refine r_aload_n hk 0 (dtX1_valueAt_0 3 (5, .aload_n 0, 1) rfl) rfl ?_
    refine r_getI hk (k := 3) (fsX1 X i0) cbX1 (by decide) fl_X1_29 (in_st i0 hi0 0 (by decide)) (fun _ => rfl) (fun _ _ => rfl) hF (dtX1_valueAt_0 4 (6, .getfield 29, 3) rfl) (fun v2 hF => ?_)
    refine r_icmp_ge hk 22 hF (dtX1_valueAt_0 5 (9, .if_icmp .ge 13, 3) rfl) (by decide) (fun hF => ?_) (fun hF => ?_)
    · exact r_sub hk [] rfl (j22_1 hF)
    · refine r_iload_n hk 2 (dtX1_valueAt_0 6 (12, .iload_n 2, 1) rfl) rfl ?_
      refine r_if_lt hk 22 hF (dtX1_valueAt_0 7 (13, .ifCond .lt 9, 3) rfl) (by decide) (fun hF => ?_) (fun hF => ?_)
      · exact r_sub hk [] rfl (j22_1 hF)
      · refine r_iload_n hk 2 (dtX1_valueAt_0 8 (16, .iload_n 2, 1) rfl) rfl ?_
        refine r_bipush (v := 8) hk (dtX1_valueAt_0 9 (17, .bipush 8, 2) rfl) (by decide) ?_
        refine r_icmp_lt hk 25 hF (dtX1_valueAt_0 10 (19, .if_icmp .lt 6, 3) rfl) (by decide) (fun hF => ?_) (fun hF => ?_)
        · refine r_aload_n hk 0 (dtX1_valueAt_0 13 (25, .aload_n 0, 1) rfl) rfl ?_
          refine r_getR hk (k := 2) (fsX1 X i0) cbX1 (by decide) fl_X1_21 (in_st i0 hi0 0 (by decide)) (fun _ => rfl) (fun _ _ => rfl) (dtX1_valueAt_0 14 (26, .getfield 21, 3) rfl) ?_
          refine r_iload_n hk 1 (dtX1_valueAt_0 15 (29, .iload_n 1, 1) rfl) rfl ?_
          refine r_bipush (v := 8) hk (dtX1_valueAt_0 16 (30, .bipush 8, 2) rfl) (by decide) ?_
          refine r_imul hk hF (dtX1_valueAt_0 17 (32, .imul, 1) rfl) (fun v3 hF => ?_)
          refine r_iload_n hk 2 (dtX1_valueAt_0 18 (33, .iload_n 2, 1) rfl) rfl ?_
          refine r_iadd hk hF (dtX1_valueAt_0 19 (34, .iadd, 1) rfl) (fun v4 hF => ?_)
          refine r_iald hk (in_st i0 hi0 3 (by decide)) (fun _ => rfl) hF (dtX1_valueAt_0 20 (35, .iaload, 1) rfl) (fun v5 hF => ?_)
          cases Option.some.inj hF
          exact hR _ _ (dtX1_valueAt_0 21 (36, .ireturn, 1) rfl)
        · exact r_sub hk [] rfl (j22_1 hF)
set_option maxHeartbeats 4000000 in
set_option maxRecDepth 100000 in
theorem c_X1_valuesIn (l : Launch) (hlf : l.stackTraces = false) (X : XW) (i0 : Nat) (hi0 : i0 < 7) (p1 : Int32) (m0 : Mem) (rv : Int32) (hF : F_X1_valuesIn i0 p1 m0 = some rv) : MX X l yX1_valuesIn cX1_valuesIn 4 (some .int) 1 [.ref (xad X (1, i0, 0, 0)), .int p1] m0 (QI X rv m0) := by
  refine startI hlf (by decide +kernel) rfl [(0, .ref (xad X (1, i0, 0, 0))), (1, .int p1)] rfl (Nat.le_of_ble_eq_true rfl) (fun K hk hR => ?_)
  unfold F_X1_valuesIn at hF
  refine r_iconst (v := 0) hk (dtX1_valuesIn_0 0 (0, .iconst 0, 1) rfl) (by decide) ?_
  refine r_istore_n hk [(2, .int 0), (0, .ref (xad X (1, i0, 0, 0))), (1, .int p1)] (dtX1_valuesIn_0 1 (1, .istore_n 2, 1) rfl) (by decide) rfl ?_
  refine r_iconst (v := 0) hk (dtX1_valuesIn_0 2 (2, .iconst 0, 1) rfl) (by decide) ?_
  refine r_istore_n hk [(3, .int 0), (2, .int 0), (0, .ref (xad X (1, i0, 0, 0))), (1, .int p1)] (dtX1_valuesIn_0 3 (3, .istore_n 3, 1) rfl) (by decide) rfl ?_
  have e38_2 : ∀ (v1 : Int32), C_X1_valuesIn_38 v1 = some rv → G X K 38 [(2, .int v1)] [] m0 := by
    intro v1 hF
    unfold C_X1_valuesIn_38 at hF
    refine r_iload_n hk 0 (dtX1_valuesIn_0 22 (38, .iload_n 2, 1) rfl) rfl ?_
    cases Option.some.inj hF
    exact hR _ _ (dtX1_valuesIn_0 23 (39, .ireturn, 1) rfl)
  have l6 : ∀ (n6 : Nat) (v3 : Int32) (v4 : Int32), L_X1_valuesIn_4 i0 p1 m0 n6 v3 v4 = some rv → G X K 4 [(0, .ref (xad X (1, i0, 0, 0))), (1, .int p1), (2, .int v3), (3, .int v4)] [] m0 := by
    intro n6
    induction n6 with
    | zero => intro v3 v4 hF; exact nomatch (show (none : Option Int32) = some rv from hF)
    | succ n6 ih6 =>
      intro v3 v4 hF
      rw [L_X1_valuesIn_4] at hF
      refine r_iload_n hk 3 (dtX1_valuesIn_0 4 (4, .iload_n 3, 1) rfl) rfl ?_
      refine r_bipush (v := 8) hk (dtX1_valuesIn_0 5 (5, .bipush 8, 2) rfl) (by decide) ?_
      refine r_icmp_ge hk 38 hF (dtX1_valuesIn_0 6 (7, .if_icmp .ge 31, 3) rfl) (by decide) (fun hF => ?_) (fun hF => ?_)
      · exact r_sub hk [2] rfl (e38_2 v3 hF)
      · refine r_iload_n hk 2 (dtX1_valuesIn_0 7 (10, .iload_n 2, 1) rfl) rfl ?_
        refine r_aload_n hk 0 (dtX1_valuesIn_0 8 (11, .aload_n 0, 1) rfl) rfl ?_
        refine r_iload_n hk 1 (dtX1_valuesIn_0 9 (12, .iload_n 1, 1) rfl) rfl ?_
        refine r_iload_n hk 3 (dtX1_valuesIn_0 10 (13, .iload_n 3, 1) rfl) rfl ?_
        refine r_callI hF (fun v7 h H locs ls hH hS hl => run_V (y := yX1_valueAt) hk (in_st i0 hi0 0 (by decide)) rfl rfl (c_X1_valueAt (kl K) hk.2.2.2.2.2.2.2.2.2.2.2 X i0 hi0 p1 v4 m0 v7 h) lk_X1_40 me_X1_valueAt yf_X1_valueAt (by decide) (by decide) rfl (Nat.le_of_ble_eq_true rfl) rfl (dtX1_valuesIn_0 11 (14, .invokevirtual 40, 3) rfl) hH hS hl) (fun v7 hF => ?_)
        refine r_ldc hk cn_X1_39 (dtX1_valuesIn_0 12 (17, .ldc 39, 2) rfl) ?_
        have j27_9 : ∀ (v8 : Int32), (J_X1_valuesIn_27 m0 v3 v4 (fun w0 w1 => L_X1_valuesIn_4 i0 p1 m0 n6 w0 w1)) v8 = some rv → G X K 27 [(0, .ref (xad X (1, i0, 0, 0))), (1, .int p1), (3, .int v4)] [.int v8, .int v3] m0 := by
          intro v8 hF
          unfold J_X1_valuesIn_27 at hF
          refine r_callI hF (fun v10 h H locs ls hH hS hl => run_SN hk (c_X3_asNumber (kl K) hk.2.2.2.2.2.2.2.2.2.2.2 X  v8 m0 v10 h) lk_X1_64 me_X3_asNumber yf_X3_asNumber (by decide) (by decide) rfl (Nat.le_of_ble_eq_true rfl) rfl (dtX1_valuesIn_0 17 (27, .invokestatic 64, 3) rfl) hH hS hl) (fun v10 hF => ?_)
          refine r_iadd hk hF (dtX1_valuesIn_0 18 (30, .iadd, 1) rfl) (fun v11 hF => ?_)
          refine r_istore_n hk [(2, .int v11), (0, .ref (xad X (1, i0, 0, 0))), (1, .int p1), (3, .int v4)] (dtX1_valuesIn_0 19 (31, .istore_n 2, 1) rfl) (by decide) rfl ?_
          refine r_iinc hk 1 3 (fun v12 => [(3, .int v12), (2, .int v11), (0, .ref (xad X (1, i0, 0, 0))), (1, .int p1)]) hF (dtX1_valuesIn_0 20 (32, .iinc 3 1, 3) rfl) rfl (by decide) (by decide) (fun _ => rfl) (fun v12 hF => ?_)
          refine r_goto hk 4 (dtX1_valuesIn_0 21 (35, .goto (-31), 3) rfl) (by decide) ?_
          exact r_sub hk [2, 3, 1, 0] rfl (ih6 v11 v12 hF)
        refine r_icmp_eq hk 26 hF (dtX1_valuesIn_0 13 (19, .if_icmp .eq 7, 3) rfl) (by decide) (fun hF => ?_) (fun hF => ?_)
        · refine r_iconst (v := 0) hk (dtX1_valuesIn_0 16 (26, .iconst 0, 1) rfl) (by decide) ?_
          exact r_sub hk [0, 1, 3] rfl (j27_9 0 hF)
        · refine r_iconst (v := 1) hk (dtX1_valuesIn_0 14 (22, .iconst 1, 1) rfl) (by decide) ?_
          refine r_goto hk 27 (dtX1_valuesIn_0 15 (23, .goto 4, 3) rfl) (by decide) ?_
          exact r_sub hk [0, 1, 3] rfl (j27_9 1 hF)
  exact r_sub hk [2, 3, 1, 0] rfl (l6 fu 0 0 hF)
set_option maxHeartbeats 4000000 in
set_option maxRecDepth 100000 in
theorem c_X1_tableValues (l : Launch) (hlf : l.stackTraces = false) (X : XW) (i0 : Nat) (hi0 : i0 < 7)  (m0 : Mem) (rv : Int32) (hF : F_X1_tableValues i0 m0 = some rv) : MX X l yX1_tableValues cX1_tableValues 3 (some .int) 2 [.ref (xad X (1, i0, 0, 0))] m0 (QI X rv m0) := by
  refine startI hlf (by decide +kernel) rfl [(0, .ref (xad X (1, i0, 0, 0)))] rfl (Nat.le_of_ble_eq_true rfl) (fun K hk hR => ?_)
  unfold F_X1_tableValues at hF
  refine r_iconst (v := 0) hk (dtX1_tableValues_0 0 (0, .iconst 0, 1) rfl) (by decide) ?_
  refine r_istore_n hk [(1, .int 0), (0, .ref (xad X (1, i0, 0, 0)))] (dtX1_tableValues_0 1 (1, .istore_n 1, 1) rfl) (by decide) rfl ?_
  refine r_iconst (v := 0) hk (dtX1_tableValues_0 2 (2, .iconst 0, 1) rfl) (by decide) ?_
  refine r_istore_n hk [(2, .int 0), (1, .int 0), (0, .ref (xad X (1, i0, 0, 0)))] (dtX1_tableValues_0 3 (3, .istore_n 2, 1) rfl) (by decide) rfl ?_
  have e41_2 : ∀ (v1 : Int32), C_X1_tableValues_41 v1 = some rv → G X K 41 [(1, .int v1)] [] m0 := by
    intro v1 hF
    unfold C_X1_tableValues_41 at hF
    refine r_iload_n hk 0 (dtX1_tableValues_0 23 (41, .iload_n 1, 1) rfl) rfl ?_
    cases Option.some.inj hF
    exact hR _ _ (dtX1_tableValues_0 24 (42, .ireturn, 1) rfl)
  have l6 : ∀ (n6 : Nat) (v3 : Int32) (v4 : Int32), L_X1_tableValues_4 i0 m0 n6 v3 v4 = some rv → G X K 4 [(0, .ref (xad X (1, i0, 0, 0))), (1, .int v3), (2, .int v4)] [] m0 := by
    intro n6
    induction n6 with
    | zero => intro v3 v4 hF; exact nomatch (show (none : Option Int32) = some rv from hF)
    | succ n6 ih6 =>
      intro v3 v4 hF
      rw [L_X1_tableValues_4] at hF
      refine r_iload_n hk 2 (dtX1_tableValues_0 4 (4, .iload_n 2, 1) rfl) rfl ?_
      refine r_aload_n hk 0 (dtX1_tableValues_0 5 (5, .aload_n 0, 1) rfl) rfl ?_
      refine r_getI hk (k := 3) (fsX1 X i0) cbX1 (by decide) fl_X1_29 (in_st i0 hi0 0 (by decide)) (fun _ => rfl) (fun _ _ => rfl) hF (dtX1_tableValues_0 6 (6, .getfield 29, 3) rfl) (fun v7 hF => ?_)
      refine r_icmp_ge hk 41 hF (dtX1_tableValues_0 7 (9, .if_icmp .ge 32, 3) rfl) (by decide) (fun hF => ?_) (fun hF => ?_)
      · exact r_sub hk [1] rfl (e41_2 v3 hF)
      · refine r_iload_n hk 1 (dtX1_tableValues_0 8 (12, .iload_n 1, 1) rfl) rfl ?_
        refine r_aload_n hk 0 (dtX1_tableValues_0 9 (13, .aload_n 0, 1) rfl) rfl ?_
        refine r_iload_n hk 2 (dtX1_tableValues_0 10 (14, .iload_n 2, 1) rfl) rfl ?_
        refine r_callR (fun q => xad X (2, i0, q, 0)) hF (fun q8 h H locs ls hH hS hl => run_V (y := yX1_ownerOf) hk (in_st i0 hi0 0 (by decide)) rfl rfl (c_X1_ownerOf (kl K) hk.2.2.2.2.2.2.2.2.2.2.2 X i0 hi0 v4 m0 q8 h) lk_X1_60 me_X1_ownerOf yf_X1_ownerOf (by decide) (by decide) rfl (Nat.le_of_ble_eq_true rfl) rfl (dtX1_tableValues_0 11 (15, .invokevirtual 60, 3) rfl) hH hS hl) (fun q8 _ hF => ?_)
        obtain ⟨hq8, hF⟩ := bp_some hF
        refine r_getI hk (k := 5) (fsX2 X i0 q8) cbX2 (by decide) fl_X1_56 (in_tn i0 hi0 q8 hq8 0 (by decide)) (fun _ => rfl) (fun _ _ => rfl) hF (dtX1_tableValues_0 12 (18, .getfield 56, 3) rfl) (fun v9 hF => ?_)
        have j33_11 : ∀ (v10 : Int32), (J_X1_tableValues_33 v3 v4 (fun w0 w1 => L_X1_tableValues_4 i0 m0 n6 w0 w1)) v10 = some rv → G X K 33 [(0, .ref (xad X (1, i0, 0, 0))), (2, .int v4)] [.int v10, .int v3] m0 := by
          intro v10 hF
          unfold J_X1_tableValues_33 at hF
          refine r_iadd hk hF (dtX1_tableValues_0 19 (33, .iadd, 1) rfl) (fun v12 hF => ?_)
          refine r_istore_n hk [(1, .int v12), (0, .ref (xad X (1, i0, 0, 0))), (2, .int v4)] (dtX1_tableValues_0 20 (34, .istore_n 1, 1) rfl) (by decide) rfl ?_
          refine r_iinc hk 1 2 (fun v13 => [(2, .int v13), (1, .int v12), (0, .ref (xad X (1, i0, 0, 0)))]) hF (dtX1_tableValues_0 21 (35, .iinc 2 1, 3) rfl) rfl (by decide) (by decide) (fun _ => rfl) (fun v13 hF => ?_)
          refine r_goto hk 4 (dtX1_tableValues_0 22 (38, .goto (-34), 3) rfl) (by decide) ?_
          exact r_sub hk [2, 1, 0] rfl (ih6 v12 v13 hF)
        refine r_if_eq hk 28 hF (dtX1_tableValues_0 13 (21, .ifCond .eq 7, 3) rfl) (by decide) (fun hF => ?_) (fun hF => ?_)
        · refine r_aload_n hk 0 (dtX1_tableValues_0 16 (28, .aload_n 0, 1) rfl) rfl ?_
          refine r_iload_n hk 2 (dtX1_tableValues_0 17 (29, .iload_n 2, 1) rfl) rfl ?_
          refine r_callI hF (fun v14 h H locs ls hH hS hl => run_V (y := yX1_valuesIn) hk (in_st i0 hi0 0 (by decide)) rfl rfl (c_X1_valuesIn (kl K) hk.2.2.2.2.2.2.2.2.2.2.2 X i0 hi0 v4 m0 v14 h) lk_X1_68 me_X1_valuesIn yf_X1_valuesIn (by decide) (by decide) rfl (Nat.le_of_ble_eq_true rfl) rfl (dtX1_tableValues_0 18 (30, .invokevirtual 68, 3) rfl) hH hS hl) (fun v14 hF => ?_)
          exact r_sub hk [0, 2] rfl (j33_11 v14 hF)
        · refine r_iconst (v := 0) hk (dtX1_tableValues_0 14 (24, .iconst 0, 1) rfl) (by decide) ?_
          refine r_goto hk 33 (dtX1_tableValues_0 15 (25, .goto 8, 3) rfl) (by decide) ?_
          exact r_sub hk [0, 2] rfl (j33_11 0 hF)
  exact r_sub hk [2, 1, 0] rfl (l6 fu 0 0 hF)
set_option maxHeartbeats 4000000 in
set_option maxRecDepth 100000 in
theorem c_X1_columnsWithMeanings (l : Launch) (hlf : l.stackTraces = false) (X : XW) (i0 : Nat) (hi0 : i0 < 7) (p1 : Int32) (p2 : Int32) (m0 : Mem) (rv : Int32) (hF : F_X1_columnsWithMeanings i0 p1 p2 m0 = some rv) : MX X l yX1_columnsWithMeanings cX1_columnsWithMeanings 7 (some .int) 1 [.ref (xad X (1, i0, 0, 0)), .int p1, .int p2] m0 (QI X rv m0) := by
  refine startI hlf (by decide +kernel) rfl [(0, .ref (xad X (1, i0, 0, 0))), (1, .int p1), (2, .int p2)] rfl (Nat.le_of_ble_eq_true rfl) (fun K hk hR => ?_)
  unfold F_X1_columnsWithMeanings at hF
  refine r_iconst (v := 0) hk (dtX1_columnsWithMeanings_0 0 (0, .iconst 0, 1) rfl) (by decide) ?_
  refine r_istore_n hk [(3, .int 0), (0, .ref (xad X (1, i0, 0, 0))), (1, .int p1), (2, .int p2)] (dtX1_columnsWithMeanings_0 1 (1, .istore_n 3, 1) rfl) (by decide) rfl ?_
  refine r_iconst (v := 0) hk (dtX1_columnsWithMeanings_0 2 (2, .iconst 0, 1) rfl) (by decide) ?_
  refine r_istore hk [(4, .int 0), (3, .int 0), (0, .ref (xad X (1, i0, 0, 0))), (1, .int p1), (2, .int p2)] (dtX1_columnsWithMeanings_0 3 (3, .istore 4, 2) rfl) (by decide) rfl ?_
  have e89_2 : ∀ (v1 : Int32), C_X1_columnsWithMeanings_89 v1 = some rv → G X K 89 [(3, .int v1)] [] m0 := by
    intro v1 hF
    unfold C_X1_columnsWithMeanings_89 at hF
    refine r_iload_n hk 0 (dtX1_columnsWithMeanings_0 47 (89, .iload_n 3, 1) rfl) rfl ?_
    cases Option.some.inj hF
    exact hR _ _ (dtX1_columnsWithMeanings_0 48 (90, .ireturn, 1) rfl)
  have l6 : ∀ (n6 : Nat) (v3 : Int32) (v4 : Int32), L_X1_columnsWithMeanings_5 i0 p1 p2 m0 n6 v3 v4 = some rv → G X K 5 [(0, .ref (xad X (1, i0, 0, 0))), (1, .int p1), (2, .int p2), (3, .int v3), (4, .int v4)] [] m0 := by
    intro n6
    induction n6 with
    | zero => intro v3 v4 hF; exact nomatch (show (none : Option Int32) = some rv from hF)
    | succ n6 ih6 =>
      intro v3 v4 hF
      rw [L_X1_columnsWithMeanings_5] at hF
      refine r_iload hk 4 (dtX1_columnsWithMeanings_0 4 (5, .iload 4, 2) rfl) rfl ?_
      refine r_bipush (v := 8) hk (dtX1_columnsWithMeanings_0 5 (7, .bipush 8, 2) rfl) (by decide) ?_
      refine r_icmp_ge hk 89 hF (dtX1_columnsWithMeanings_0 6 (9, .if_icmp .ge 80, 3) rfl) (by decide) (fun hF => ?_) (fun hF => ?_)
      · exact r_sub hk [3] rfl (e89_2 v3 hF)
      · refine r_iconst (v := 0) hk (dtX1_columnsWithMeanings_0 7 (12, .iconst 0, 1) rfl) (by decide) ?_
        refine r_istore hk [(5, .int 0), (0, .ref (xad X (1, i0, 0, 0))), (1, .int p1), (2, .int p2), (3, .int v3), (4, .int v4)] (dtX1_columnsWithMeanings_0 8 (13, .istore 5, 2) rfl) (by decide) rfl ?_
        refine r_iconst (v := 0) hk (dtX1_columnsWithMeanings_0 9 (15, .iconst 0, 1) rfl) (by decide) ?_
        refine r_istore hk [(6, .int 0), (5, .int 0), (0, .ref (xad X (1, i0, 0, 0))), (1, .int p1), (2, .int p2), (3, .int v3), (4, .int v4)] (dtX1_columnsWithMeanings_0 10 (16, .istore 6, 2) rfl) (by decide) rfl ?_
        have e60_8 : ∀ (v7 : Int32), (C_X1_columnsWithMeanings_60 p1 p2 m0 v3 v4 (fun w0 w1 => L_X1_columnsWithMeanings_5 i0 p1 p2 m0 n6 w0 w1)) v7 = some rv → G X K 60 [(0, .ref (xad X (1, i0, 0, 0))), (1, .int p1), (2, .int p2), (3, .int v3), (4, .int v4), (5, .int v7)] [] m0 := by
          intro v7 hF
          unfold C_X1_columnsWithMeanings_60 at hF
          refine r_iload_n hk 3 (dtX1_columnsWithMeanings_0 32 (60, .iload_n 3, 1) rfl) rfl ?_
          refine r_iload hk 5 (dtX1_columnsWithMeanings_0 33 (61, .iload 5, 2) rfl) rfl ?_
          refine r_iload_n hk 1 (dtX1_columnsWithMeanings_0 34 (63, .iload_n 1, 1) rfl) rfl ?_
          have j78_10 : ∀ (v9 : Int32), (J_X1_columnsWithMeanings_78 m0 v3 v4 (fun w0 w1 => L_X1_columnsWithMeanings_5 i0 p1 p2 m0 n6 w0 w1)) v9 = some rv → G X K 78 [(0, .ref (xad X (1, i0, 0, 0))), (1, .int p1), (2, .int p2), (4, .int v4)] [.int v9, .int v3] m0 := by
            intro v9 hF
            unfold J_X1_columnsWithMeanings_78 at hF
            refine r_callI hF (fun v11 h H locs ls hH hS hl => run_SN hk (c_X3_asNumber (kl K) hk.2.2.2.2.2.2.2.2.2.2.2 X  v9 m0 v11 h) lk_X1_64 me_X3_asNumber yf_X3_asNumber (by decide) (by decide) rfl (Nat.le_of_ble_eq_true rfl) rfl (dtX1_columnsWithMeanings_0 42 (78, .invokestatic 64, 3) rfl) hH hS hl) (fun v11 hF => ?_)
            refine r_iadd hk hF (dtX1_columnsWithMeanings_0 43 (81, .iadd, 1) rfl) (fun v12 hF => ?_)
            refine r_istore_n hk [(3, .int v12), (0, .ref (xad X (1, i0, 0, 0))), (1, .int p1), (2, .int p2), (4, .int v4)] (dtX1_columnsWithMeanings_0 44 (82, .istore_n 3, 1) rfl) (by decide) rfl ?_
            refine r_iinc hk 1 4 (fun v13 => [(4, .int v13), (3, .int v12), (0, .ref (xad X (1, i0, 0, 0))), (1, .int p1), (2, .int p2)]) hF (dtX1_columnsWithMeanings_0 45 (83, .iinc 4 1, 3) rfl) rfl (by decide) (by decide) (fun _ => rfl) (fun v13 hF => ?_)
            refine r_goto hk 5 (dtX1_columnsWithMeanings_0 46 (86, .goto (-81), 3) rfl) (by decide) ?_
            exact r_sub hk [2, 3, 4, 1, 0] rfl (ih6 v12 v13 hF)
          have j77_14 : (J_X1_columnsWithMeanings_77 m0 v3 v4 (fun w0 w1 => L_X1_columnsWithMeanings_5 i0 p1 p2 m0 n6 w0 w1)) = some rv → G X K 77 [(0, .ref (xad X (1, i0, 0, 0))), (1, .int p1), (2, .int p2), (4, .int v4)] [.int v3] m0 := by
            intro hF
            unfold J_X1_columnsWithMeanings_77 at hF
            refine r_iconst (v := 0) hk (dtX1_columnsWithMeanings_0 41 (77, .iconst 0, 1) rfl) (by decide) ?_
            exact r_sub hk [0, 1, 2, 3] rfl (j78_10 0 hF)
          refine r_icmp_lt hk 77 hF (dtX1_columnsWithMeanings_0 35 (64, .if_icmp .lt 13, 3) rfl) (by decide) (fun hF => ?_) (fun hF => ?_)
          · exact r_sub hk [0, 1, 2, 4] rfl (j77_14 hF)
          · refine r_iload hk 5 (dtX1_columnsWithMeanings_0 36 (67, .iload 5, 2) rfl) rfl ?_
            refine r_iload_n hk 2 (dtX1_columnsWithMeanings_0 37 (69, .iload_n 2, 1) rfl) rfl ?_
            refine r_icmp_gt hk 77 hF (dtX1_columnsWithMeanings_0 38 (70, .if_icmp .gt 7, 3) rfl) (by decide) (fun hF => ?_) (fun hF => ?_)
            · exact r_sub hk [0, 1, 2, 4] rfl (j77_14 hF)
            · refine r_iconst (v := 1) hk (dtX1_columnsWithMeanings_0 39 (73, .iconst 1, 1) rfl) (by decide) ?_
              refine r_goto hk 78 (dtX1_columnsWithMeanings_0 40 (74, .goto 4, 3) rfl) (by decide) ?_
              exact r_sub hk [0, 1, 2, 4] rfl (j78_10 1 hF)
        have l18 : ∀ (n18 : Nat) (v15 : Int32) (v16 : Int32), L_X1_columnsWithMeanings_18 i0 p1 p2 m0 v3 v4 (fun w0 w1 => L_X1_columnsWithMeanings_5 i0 p1 p2 m0 n6 w0 w1) n18 v15 v16 = some rv → G X K 18 [(0, .ref (xad X (1, i0, 0, 0))), (1, .int p1), (2, .int p2), (3, .int v3), (4, .int v4), (5, .int v15), (6, .int v16)] [] m0 := by
          intro n18
          induction n18 with
          | zero => intro v15 v16 hF; exact nomatch (show (none : Option Int32) = some rv from hF)
          | succ n18 ih18 =>
            intro v15 v16 hF
            rw [L_X1_columnsWithMeanings_18] at hF
            refine r_iload hk 6 (dtX1_columnsWithMeanings_0 11 (18, .iload 6, 2) rfl) rfl ?_
            refine r_iconst (v := 3) hk (dtX1_columnsWithMeanings_0 12 (20, .iconst 3, 1) rfl) (by decide) ?_
            refine r_icmp_ge hk 60 hF (dtX1_columnsWithMeanings_0 13 (21, .if_icmp .ge 39, 3) rfl) (by decide) (fun hF => ?_) (fun hF => ?_)
            · exact r_sub hk [0, 1, 2, 3, 4, 5] rfl (e60_8 v15 hF)
            · refine r_iload hk 5 (dtX1_columnsWithMeanings_0 14 (24, .iload 5, 2) rfl) rfl ?_
              refine r_aload_n hk 0 (dtX1_columnsWithMeanings_0 15 (26, .aload_n 0, 1) rfl) rfl ?_
              refine r_getR hk (k := 0) (fsX1 X i0) cbX1 (by decide) fl_X1_11 (in_st i0 hi0 0 (by decide)) (fun _ => rfl) (fun _ _ => rfl) (dtX1_columnsWithMeanings_0 16 (27, .getfield 11, 3) rfl) ?_
              refine r_iload hk 6 (dtX1_columnsWithMeanings_0 17 (30, .iload 6, 2) rfl) rfl ?_
              refine r_aldT hk hi0 hF (dtX1_columnsWithMeanings_0 18 (32, .aaload, 1) rfl) (fun q19 hq19 hF => ?_)
              refine r_getR hk (k := 0) (fsX2 X i0 q19) cbX2 (by decide) fl_X1_82 (in_tn i0 hi0 q19 hq19 0 (by decide)) (fun _ => rfl) (fun _ _ => rfl) (dtX1_columnsWithMeanings_0 19 (33, .getfield 82, 3) rfl) ?_
              refine r_iload hk 4 (dtX1_columnsWithMeanings_0 20 (36, .iload 4, 2) rfl) rfl ?_
              refine r_iald hk (in_tn i0 hi0 q19 hq19 1 (by decide)) (fun _ => rfl) hF (dtX1_columnsWithMeanings_0 21 (38, .iaload, 1) rfl) (fun v20 hF => ?_)
              refine r_iconst (v := (-1)) hk (dtX1_columnsWithMeanings_0 22 (39, .iconst (-1), 1) rfl) (by decide) ?_
              have j48_22 : ∀ (v21 : Int32), (J_X1_columnsWithMeanings_48 m0 v15 v16 (fun w0 w1 => L_X1_columnsWithMeanings_18 i0 p1 p2 m0 v3 v4 (fun w0 w1 => L_X1_columnsWithMeanings_5 i0 p1 p2 m0 n6 w0 w1) n18 w0 w1)) v21 = some rv → G X K 48 [(0, .ref (xad X (1, i0, 0, 0))), (1, .int p1), (2, .int p2), (3, .int v3), (4, .int v4), (6, .int v16)] [.int v21, .int v15] m0 := by
                intro v21 hF
                unfold J_X1_columnsWithMeanings_48 at hF
                refine r_callI hF (fun v23 h H locs ls hH hS hl => run_SN hk (c_X3_asNumber (kl K) hk.2.2.2.2.2.2.2.2.2.2.2 X  v21 m0 v23 h) lk_X1_64 me_X3_asNumber yf_X3_asNumber (by decide) (by decide) rfl (Nat.le_of_ble_eq_true rfl) rfl (dtX1_columnsWithMeanings_0 27 (48, .invokestatic 64, 3) rfl) hH hS hl) (fun v23 hF => ?_)
                refine r_iadd hk hF (dtX1_columnsWithMeanings_0 28 (51, .iadd, 1) rfl) (fun v24 hF => ?_)
                refine r_istore hk [(5, .int v24), (0, .ref (xad X (1, i0, 0, 0))), (1, .int p1), (2, .int p2), (3, .int v3), (4, .int v4), (6, .int v16)] (dtX1_columnsWithMeanings_0 29 (52, .istore 5, 2) rfl) (by decide) rfl ?_
                refine r_iinc hk 1 6 (fun v25 => [(6, .int v25), (5, .int v24), (0, .ref (xad X (1, i0, 0, 0))), (1, .int p1), (2, .int p2), (3, .int v3), (4, .int v4)]) hF (dtX1_columnsWithMeanings_0 30 (54, .iinc 6 1, 3) rfl) rfl (by decide) (by decide) (fun _ => rfl) (fun v25 hF => ?_)
                refine r_goto hk 18 (dtX1_columnsWithMeanings_0 31 (57, .goto (-39), 3) rfl) (by decide) ?_
                exact r_sub hk [2, 3, 4, 5, 6, 1, 0] rfl (ih18 v24 v25 hF)
              refine r_icmp_eq hk 47 hF (dtX1_columnsWithMeanings_0 23 (40, .if_icmp .eq 7, 3) rfl) (by decide) (fun hF => ?_) (fun hF => ?_)
              · refine r_iconst (v := 0) hk (dtX1_columnsWithMeanings_0 26 (47, .iconst 0, 1) rfl) (by decide) ?_
                exact r_sub hk [0, 1, 2, 3, 4, 6] rfl (j48_22 0 hF)
              · refine r_iconst (v := 1) hk (dtX1_columnsWithMeanings_0 24 (43, .iconst 1, 1) rfl) (by decide) ?_
                refine r_goto hk 48 (dtX1_columnsWithMeanings_0 25 (44, .goto 4, 3) rfl) (by decide) ?_
                exact r_sub hk [0, 1, 2, 3, 4, 6] rfl (j48_22 1 hF)
        exact r_sub hk [2, 3, 4, 5, 6, 1, 0] rfl (l18 fu 0 0 hF)
  exact r_sub hk [2, 3, 4, 1, 0] rfl (l6 fu 0 0 hF)
set_option maxHeartbeats 4000000 in
set_option maxRecDepth 100000 in
theorem c_X1_indexes (l : Launch) (hlf : l.stackTraces = false) (X : XW) (i0 : Nat) (hi0 : i0 < 7)  (m0 : Mem) (rv : Int32) (hF : F_X1_indexes i0 m0 = some rv) : MX X l yX1_indexes cX1_indexes 4 (some .int) 1 [.ref (xad X (1, i0, 0, 0))] m0 (QI X rv m0) := by
  refine startI hlf (by decide +kernel) rfl [(0, .ref (xad X (1, i0, 0, 0)))] rfl (Nat.le_of_ble_eq_true rfl) (fun K hk hR => ?_)
  unfold F_X1_indexes at hF
  refine r_iconst (v := 0) hk (dtX1_indexes_0 0 (0, .iconst 0, 1) rfl) (by decide) ?_
  refine r_istore_n hk [(1, .int 0), (0, .ref (xad X (1, i0, 0, 0)))] (dtX1_indexes_0 1 (1, .istore_n 1, 1) rfl) (by decide) rfl ?_
  refine r_iconst (v := 0) hk (dtX1_indexes_0 2 (2, .iconst 0, 1) rfl) (by decide) ?_
  refine r_istore_n hk [(2, .int 0), (1, .int 0), (0, .ref (xad X (1, i0, 0, 0)))] (dtX1_indexes_0 3 (3, .istore_n 2, 1) rfl) (by decide) rfl ?_
  have e46_2 : ∀ (v1 : Int32), C_X1_indexes_46 v1 = some rv → G X K 46 [(1, .int v1)] [] m0 := by
    intro v1 hF
    unfold C_X1_indexes_46 at hF
    refine r_iload_n hk 0 (dtX1_indexes_0 27 (46, .iload_n 1, 1) rfl) rfl ?_
    cases Option.some.inj hF
    exact hR _ _ (dtX1_indexes_0 28 (47, .ireturn, 1) rfl)
  have l6 : ∀ (n6 : Nat) (v3 : Int32) (v4 : Int32), L_X1_indexes_4 i0 m0 n6 v3 v4 = some rv → G X K 4 [(0, .ref (xad X (1, i0, 0, 0))), (1, .int v3), (2, .int v4)] [] m0 := by
    intro n6
    induction n6 with
    | zero => intro v3 v4 hF; exact nomatch (show (none : Option Int32) = some rv from hF)
    | succ n6 ih6 =>
      intro v3 v4 hF
      rw [L_X1_indexes_4] at hF
      refine r_iload_n hk 2 (dtX1_indexes_0 4 (4, .iload_n 2, 1) rfl) rfl ?_
      refine r_iconst (v := 3) hk (dtX1_indexes_0 5 (5, .iconst 3, 1) rfl) (by decide) ?_
      refine r_icmp_ge hk 46 hF (dtX1_indexes_0 6 (6, .if_icmp .ge 40, 3) rfl) (by decide) (fun hF => ?_) (fun hF => ?_)
      · exact r_sub hk [1] rfl (e46_2 v3 hF)
      · refine r_iconst (v := 0) hk (dtX1_indexes_0 7 (9, .iconst 0, 1) rfl) (by decide) ?_
        refine r_istore_n hk [(3, .int 0), (0, .ref (xad X (1, i0, 0, 0))), (1, .int v3), (2, .int v4)] (dtX1_indexes_0 8 (10, .istore_n 3, 1) rfl) (by decide) rfl ?_
        have e40_8 : ∀ (v7 : Int32), (C_X1_indexes_40 v4 (fun w0 w1 => L_X1_indexes_4 i0 m0 n6 w0 w1)) v7 = some rv → G X K 40 [(0, .ref (xad X (1, i0, 0, 0))), (1, .int v7), (2, .int v4)] [] m0 := by
          intro v7 hF
          unfold C_X1_indexes_40 at hF
          refine r_iinc hk 1 2 (fun v9 => [(2, .int v9), (0, .ref (xad X (1, i0, 0, 0))), (1, .int v7)]) hF (dtX1_indexes_0 25 (40, .iinc 2 1, 3) rfl) rfl (by decide) (by decide) (fun _ => rfl) (fun v9 hF => ?_)
          refine r_goto hk 4 (dtX1_indexes_0 26 (43, .goto (-39), 3) rfl) (by decide) ?_
          exact r_sub hk [1, 2, 0] rfl (ih6 v7 v9 hF)
        have l13 : ∀ (n13 : Nat) (v10 : Int32) (v11 : Int32), L_X1_indexes_11 i0 m0 v4 (fun w0 w1 => L_X1_indexes_4 i0 m0 n6 w0 w1) n13 v10 v11 = some rv → G X K 11 [(0, .ref (xad X (1, i0, 0, 0))), (1, .int v10), (2, .int v4), (3, .int v11)] [] m0 := by
          intro n13
          induction n13 with
          | zero => intro v10 v11 hF; exact nomatch (show (none : Option Int32) = some rv from hF)
          | succ n13 ih13 =>
            intro v10 v11 hF
            rw [L_X1_indexes_11] at hF
            refine r_iload_n hk 3 (dtX1_indexes_0 9 (11, .iload_n 3, 1) rfl) rfl ?_
            refine r_bipush (v := 8) hk (dtX1_indexes_0 10 (12, .bipush 8, 2) rfl) (by decide) ?_
            refine r_icmp_ge hk 40 hF (dtX1_indexes_0 11 (14, .if_icmp .ge 26, 3) rfl) (by decide) (fun hF => ?_) (fun hF => ?_)
            · exact r_sub hk [0, 1, 2] rfl (e40_8 v10 hF)
            · refine r_iload_n hk 1 (dtX1_indexes_0 12 (17, .iload_n 1, 1) rfl) rfl ?_
              refine r_aload_n hk 0 (dtX1_indexes_0 13 (18, .aload_n 0, 1) rfl) rfl ?_
              refine r_getR hk (k := 0) (fsX1 X i0) cbX1 (by decide) fl_X1_11 (in_st i0 hi0 0 (by decide)) (fun _ => rfl) (fun _ _ => rfl) (dtX1_indexes_0 14 (19, .getfield 11, 3) rfl) ?_
              refine r_iload_n hk 2 (dtX1_indexes_0 15 (22, .iload_n 2, 1) rfl) rfl ?_
              refine r_aldT hk hi0 hF (dtX1_indexes_0 16 (23, .aaload, 1) rfl) (fun q14 hq14 hF => ?_)
              refine r_getR hk (k := 2) (fsX2 X i0 q14) cbX2 (by decide) fl_X1_85 (in_tn i0 hi0 q14 hq14 0 (by decide)) (fun _ => rfl) (fun _ _ => rfl) (dtX1_indexes_0 17 (24, .getfield 85, 3) rfl) ?_
              refine r_iload_n hk 3 (dtX1_indexes_0 18 (27, .iload_n 3, 1) rfl) rfl ?_
              refine r_zald hk (in_tn i0 hi0 q14 hq14 3 (by decide)) (fun _ => rfl) hF (dtX1_indexes_0 19 (28, .baload, 1) rfl) (fun v15 hF => ?_)
              refine r_callI hF (fun v16 h H locs ls hH hS hl => run_SN hk (c_X3_asNumber (kl K) hk.2.2.2.2.2.2.2.2.2.2.2 X  v15 m0 v16 h) lk_X1_64 me_X3_asNumber yf_X3_asNumber (by decide) (by decide) rfl (Nat.le_of_ble_eq_true rfl) rfl (dtX1_indexes_0 20 (29, .invokestatic 64, 3) rfl) hH hS hl) (fun v16 hF => ?_)
              refine r_iadd hk hF (dtX1_indexes_0 21 (32, .iadd, 1) rfl) (fun v17 hF => ?_)
              refine r_istore_n hk [(1, .int v17), (0, .ref (xad X (1, i0, 0, 0))), (2, .int v4), (3, .int v11)] (dtX1_indexes_0 22 (33, .istore_n 1, 1) rfl) (by decide) rfl ?_
              refine r_iinc hk 1 3 (fun v18 => [(3, .int v18), (1, .int v17), (0, .ref (xad X (1, i0, 0, 0))), (2, .int v4)]) hF (dtX1_indexes_0 23 (34, .iinc 3 1, 3) rfl) rfl (by decide) (by decide) (fun _ => rfl) (fun v18 hF => ?_)
              refine r_goto hk 11 (dtX1_indexes_0 24 (37, .goto (-26), 3) rfl) (by decide) ?_
              exact r_sub hk [2, 1, 3, 0] rfl (ih13 v17 v18 hF)
        exact r_sub hk [1, 2, 3, 0] rfl (l13 fu v3 0 hF)
  exact r_sub hk [2, 1, 0] rfl (l6 fu 0 0 hF)
set_option maxHeartbeats 4000000 in
set_option maxRecDepth 100000 in
theorem c_X1_movedTenants (l : Launch) (hlf : l.stackTraces = false) (X : XW) (i0 : Nat) (hi0 : i0 < 7)  (m0 : Mem) (rv : Int32) (hF : F_X1_movedTenants i0 m0 = some rv) : MX X l yX1_movedTenants cX1_movedTenants 3 (some .int) 1 [.ref (xad X (1, i0, 0, 0))] m0 (QI X rv m0) := by
  refine startI hlf (by decide +kernel) rfl [(0, .ref (xad X (1, i0, 0, 0)))] rfl (Nat.le_of_ble_eq_true rfl) (fun K hk hR => ?_)
  unfold F_X1_movedTenants at hF
  refine r_iconst (v := 0) hk (dtX1_movedTenants_0 0 (0, .iconst 0, 1) rfl) (by decide) ?_
  refine r_istore_n hk [(1, .int 0), (0, .ref (xad X (1, i0, 0, 0)))] (dtX1_movedTenants_0 1 (1, .istore_n 1, 1) rfl) (by decide) rfl ?_
  refine r_iconst (v := 0) hk (dtX1_movedTenants_0 2 (2, .iconst 0, 1) rfl) (by decide) ?_
  refine r_istore_n hk [(2, .int 0), (1, .int 0), (0, .ref (xad X (1, i0, 0, 0)))] (dtX1_movedTenants_0 3 (3, .istore_n 2, 1) rfl) (by decide) rfl ?_
  have e30_2 : ∀ (v1 : Int32), C_X1_movedTenants_30 v1 = some rv → G X K 30 [(1, .int v1)] [] m0 := by
    intro v1 hF
    unfold C_X1_movedTenants_30 at hF
    refine r_iload_n hk 0 (dtX1_movedTenants_0 18 (30, .iload_n 1, 1) rfl) rfl ?_
    cases Option.some.inj hF
    exact hR _ _ (dtX1_movedTenants_0 19 (31, .ireturn, 1) rfl)
  have l6 : ∀ (n6 : Nat) (v3 : Int32) (v4 : Int32), L_X1_movedTenants_4 i0 m0 n6 v3 v4 = some rv → G X K 4 [(0, .ref (xad X (1, i0, 0, 0))), (1, .int v3), (2, .int v4)] [] m0 := by
    intro n6
    induction n6 with
    | zero => intro v3 v4 hF; exact nomatch (show (none : Option Int32) = some rv from hF)
    | succ n6 ih6 =>
      intro v3 v4 hF
      rw [L_X1_movedTenants_4] at hF
      refine r_iload_n hk 2 (dtX1_movedTenants_0 4 (4, .iload_n 2, 1) rfl) rfl ?_
      refine r_iconst (v := 3) hk (dtX1_movedTenants_0 5 (5, .iconst 3, 1) rfl) (by decide) ?_
      refine r_icmp_ge hk 30 hF (dtX1_movedTenants_0 6 (6, .if_icmp .ge 24, 3) rfl) (by decide) (fun hF => ?_) (fun hF => ?_)
      · exact r_sub hk [1] rfl (e30_2 v3 hF)
      · refine r_iload_n hk 1 (dtX1_movedTenants_0 7 (9, .iload_n 1, 1) rfl) rfl ?_
        refine r_aload_n hk 0 (dtX1_movedTenants_0 8 (10, .aload_n 0, 1) rfl) rfl ?_
        refine r_getR hk (k := 0) (fsX1 X i0) cbX1 (by decide) fl_X1_11 (in_st i0 hi0 0 (by decide)) (fun _ => rfl) (fun _ _ => rfl) (dtX1_movedTenants_0 9 (11, .getfield 11, 3) rfl) ?_
        refine r_iload_n hk 2 (dtX1_movedTenants_0 10 (14, .iload_n 2, 1) rfl) rfl ?_
        refine r_aldT hk hi0 hF (dtX1_movedTenants_0 11 (15, .aaload, 1) rfl) (fun q7 hq7 hF => ?_)
        refine r_getI hk (k := 5) (fsX2 X i0 q7) cbX2 (by decide) fl_X1_56 (in_tn i0 hi0 q7 hq7 0 (by decide)) (fun _ => rfl) (fun _ _ => rfl) hF (dtX1_movedTenants_0 12 (16, .getfield 56, 3) rfl) (fun v8 hF => ?_)
        refine r_callI hF (fun v9 h H locs ls hH hS hl => run_SN hk (c_X3_asNumber (kl K) hk.2.2.2.2.2.2.2.2.2.2.2 X  v8 m0 v9 h) lk_X1_64 me_X3_asNumber yf_X3_asNumber (by decide) (by decide) rfl (Nat.le_of_ble_eq_true rfl) rfl (dtX1_movedTenants_0 13 (19, .invokestatic 64, 3) rfl) hH hS hl) (fun v9 hF => ?_)
        refine r_iadd hk hF (dtX1_movedTenants_0 14 (22, .iadd, 1) rfl) (fun v10 hF => ?_)
        refine r_istore_n hk [(1, .int v10), (0, .ref (xad X (1, i0, 0, 0))), (2, .int v4)] (dtX1_movedTenants_0 15 (23, .istore_n 1, 1) rfl) (by decide) rfl ?_
        refine r_iinc hk 1 2 (fun v11 => [(2, .int v11), (1, .int v10), (0, .ref (xad X (1, i0, 0, 0)))]) hF (dtX1_movedTenants_0 16 (24, .iinc 2 1, 3) rfl) rfl (by decide) (by decide) (fun _ => rfl) (fun v11 hF => ?_)
        refine r_goto hk 4 (dtX1_movedTenants_0 17 (27, .goto (-23), 3) rfl) (by decide) ?_
        exact r_sub hk [2, 1, 0] rfl (ih6 v10 v11 hF)
  exact r_sub hk [2, 1, 0] rfl (l6 fu 0 0 hF)
set_option maxHeartbeats 4000000 in
set_option maxRecDepth 100000 in
theorem c_X3_count (l : Launch) (hlf : l.stackTraces = false) (X : XW)  (p1 : Int32) (m0 : Mem) (rv : Int32 ⊕ Nat) (hF : F_X3_count p1 m0 = some rv) : MT X l yX3_count cX3_count 2 (some .int) 8 [.ref (xad X (0, 0, 0, 0)), .int p1] m0 rv m0 (QTI X rv m0) := by
  refine startTI hlf (by decide +kernel) rfl [(0, .ref (xad X (0, 0, 0, 0))), (1, .int p1)] rfl (Nat.le_of_ble_eq_true rfl) (fun K hk hR hX => ?_)
  unfold F_X3_count at hF
  refine r_iload_n hk 1 (dtX3_count_0 0 (0, .iload_n 1, 1) rfl) rfl ?_
  have j15_2 : ∀ (v1 : Int32), (J_X3_count_15 p1 m0) v1 = some rv → G X K 15 [(0, .ref (xad X (0, 0, 0, 0))), (1, .int p1)] [.int v1] m0 := by
    intro v1 hF
    unfold J_X3_count_15 at hF
    refine r_callVts hk hF (fun c h => by cases Option.some.inj h; exact hX c rfl) (fun R h hf H locs ls hH hS hl => runT_S hk (c_X3_require (kl K) hk.2.2.2.2.2.2.2.2.2.2.2 X  v1 m0 R h) lk_X3_41 me_X3_require yf_X3_require (by decide) (by decide) rfl (Nat.le_of_ble_eq_true rfl) rfl (dtX3_count_0 8 (15, .invokestatic 41, 3) rfl) hf hH hS hl) (fun _ hF => ?_)
    refine r_iload_n hk 1 (dtX3_count_0 9 (18, .iload_n 1, 1) rfl) rfl ?_
    by_cases hs19_0 : p1 = 0
    · rw [if_pos hs19_0] at hF
      refine r_tabIn hk 60 (dtX3_count_0 10 (19, .tableswitch 101 0 6 #[41, 49, 57, 65, 75, 85, 93], 41) rfl) (by rw [hs19_0]; decide) (by rw [hs19_0]; decide) (by rw [hs19_0]; rfl) (by decide) ?_
      refine r_aload_n hk 0 (dtX3_count_0 11 (60, .aload_n 0, 1) rfl) rfl ?_
      refine r_getS hk fl_X3_30 hF (dtX3_count_0 12 (61, .getfield 30, 3) rfl) (fun q3 hq3 hF => ?_)
      refine r_callI hF (fun v4 h H locs ls hH hS hl => run_V (y := yX1_tableRows) hk (in_st q3 hq3 0 (by decide)) rfl rfl (c_X1_tableRows (kl K) hk.2.2.2.2.2.2.2.2.2.2.2 X q3 hq3  m0 v4 h) lk_X3_110 me_X1_tableRows yf_X1_tableRows (by decide) (by decide) rfl (Nat.le_of_ble_eq_true rfl) rfl (dtX3_count_0 13 (64, .invokevirtual 110, 3) rfl) hH hS hl) (fun v4 hF => ?_)
      cases Option.some.inj hF
      exact hR v4 rfl _ _ (dtX3_count_0 14 (67, .ireturn, 1) rfl)
    · rw [if_neg hs19_0] at hF
      by_cases hs19_1 : p1 = 1
      · rw [if_pos hs19_1] at hF
        refine r_tabIn hk 68 (dtX3_count_0 10 (19, .tableswitch 101 0 6 #[41, 49, 57, 65, 75, 85, 93], 41) rfl) (by rw [hs19_1]; decide) (by rw [hs19_1]; decide) (by rw [hs19_1]; rfl) (by decide) ?_
        refine r_aload_n hk 0 (dtX3_count_0 15 (68, .aload_n 0, 1) rfl) rfl ?_
        refine r_getS hk fl_X3_30 hF (dtX3_count_0 16 (69, .getfield 30, 3) rfl) (fun q5 hq5 hF => ?_)
        refine r_getI hk (k := 3) (fsX1 X q5) cbX1 (by decide) fl_X3_204 (in_st q5 hq5 0 (by decide)) (fun _ => rfl) (fun _ _ => rfl) hF (dtX3_count_0 17 (72, .getfield 204, 3) rfl) (fun v6 hF => ?_)
        cases Option.some.inj hF
        exact hR v6 rfl _ _ (dtX3_count_0 18 (75, .ireturn, 1) rfl)
      · rw [if_neg hs19_1] at hF
        by_cases hs19_2 : p1 = 2
        · rw [if_pos hs19_2] at hF
          refine r_tabIn hk 76 (dtX3_count_0 10 (19, .tableswitch 101 0 6 #[41, 49, 57, 65, 75, 85, 93], 41) rfl) (by rw [hs19_2]; decide) (by rw [hs19_2]; decide) (by rw [hs19_2]; rfl) (by decide) ?_
          refine r_aload_n hk 0 (dtX3_count_0 19 (76, .aload_n 0, 1) rfl) rfl ?_
          refine r_getS hk fl_X3_30 hF (dtX3_count_0 20 (77, .getfield 30, 3) rfl) (fun q7 hq7 hF => ?_)
          refine r_callI hF (fun v8 h H locs ls hH hS hl => run_V (y := yX1_tableValues) hk (in_st q7 hq7 0 (by decide)) rfl rfl (c_X1_tableValues (kl K) hk.2.2.2.2.2.2.2.2.2.2.2 X q7 hq7  m0 v8 h) lk_X3_207 me_X1_tableValues yf_X1_tableValues (by decide) (by decide) rfl (Nat.le_of_ble_eq_true rfl) rfl (dtX3_count_0 21 (80, .invokevirtual 207, 3) rfl) hH hS hl) (fun v8 hF => ?_)
          cases Option.some.inj hF
          exact hR v8 rfl _ _ (dtX3_count_0 22 (83, .ireturn, 1) rfl)
        · rw [if_neg hs19_2] at hF
          by_cases hs19_3 : p1 = 3
          · rw [if_pos hs19_3] at hF
            refine r_tabIn hk 84 (dtX3_count_0 10 (19, .tableswitch 101 0 6 #[41, 49, 57, 65, 75, 85, 93], 41) rfl) (by rw [hs19_3]; decide) (by rw [hs19_3]; decide) (by rw [hs19_3]; rfl) (by decide) ?_
            refine r_aload_n hk 0 (dtX3_count_0 23 (84, .aload_n 0, 1) rfl) rfl ?_
            refine r_getS hk fl_X3_30 hF (dtX3_count_0 24 (85, .getfield 30, 3) rfl) (fun q9 hq9 hF => ?_)
            refine r_iconst (v := 2) hk (dtX3_count_0 25 (88, .iconst 2, 1) rfl) (by decide) ?_
            refine r_iconst (v := 3) hk (dtX3_count_0 26 (89, .iconst 3, 1) rfl) (by decide) ?_
            refine r_callI hF (fun v10 h H locs ls hH hS hl => run_V (y := yX1_columnsWithMeanings) hk (in_st q9 hq9 0 (by decide)) rfl rfl (c_X1_columnsWithMeanings (kl K) hk.2.2.2.2.2.2.2.2.2.2.2 X q9 hq9 2 3 m0 v10 h) lk_X3_210 me_X1_columnsWithMeanings yf_X1_columnsWithMeanings (by decide) (by decide) rfl (Nat.le_of_ble_eq_true rfl) rfl (dtX3_count_0 27 (90, .invokevirtual 210, 3) rfl) hH hS hl) (fun v10 hF => ?_)
            cases Option.some.inj hF
            exact hR v10 rfl _ _ (dtX3_count_0 28 (93, .ireturn, 1) rfl)
          · rw [if_neg hs19_3] at hF
            by_cases hs19_4 : p1 = 4
            · rw [if_pos hs19_4] at hF
              refine r_tabIn hk 94 (dtX3_count_0 10 (19, .tableswitch 101 0 6 #[41, 49, 57, 65, 75, 85, 93], 41) rfl) (by rw [hs19_4]; decide) (by rw [hs19_4]; decide) (by rw [hs19_4]; rfl) (by decide) ?_
              refine r_aload_n hk 0 (dtX3_count_0 29 (94, .aload_n 0, 1) rfl) rfl ?_
              refine r_getS hk fl_X3_30 hF (dtX3_count_0 30 (95, .getfield 30, 3) rfl) (fun q11 hq11 hF => ?_)
              refine r_iconst (v := 0) hk (dtX3_count_0 31 (98, .iconst 0, 1) rfl) (by decide) ?_
              refine r_iconst (v := 0) hk (dtX3_count_0 32 (99, .iconst 0, 1) rfl) (by decide) ?_
              refine r_callI hF (fun v12 h H locs ls hH hS hl => run_V (y := yX1_columnsWithMeanings) hk (in_st q11 hq11 0 (by decide)) rfl rfl (c_X1_columnsWithMeanings (kl K) hk.2.2.2.2.2.2.2.2.2.2.2 X q11 hq11 0 0 m0 v12 h) lk_X3_210 me_X1_columnsWithMeanings yf_X1_columnsWithMeanings (by decide) (by decide) rfl (Nat.le_of_ble_eq_true rfl) rfl (dtX3_count_0 33 (100, .invokevirtual 210, 3) rfl) hH hS hl) (fun v12 hF => ?_)
              cases Option.some.inj hF
              exact hR v12 rfl _ _ (dtX3_count_0 34 (103, .ireturn, 1) rfl)
            · rw [if_neg hs19_4] at hF
              by_cases hs19_5 : p1 = 5
              · rw [if_pos hs19_5] at hF
                refine r_tabIn hk 104 (dtX3_count_0 10 (19, .tableswitch 101 0 6 #[41, 49, 57, 65, 75, 85, 93], 41) rfl) (by rw [hs19_5]; decide) (by rw [hs19_5]; decide) (by rw [hs19_5]; rfl) (by decide) ?_
                refine r_aload_n hk 0 (dtX3_count_0 35 (104, .aload_n 0, 1) rfl) rfl ?_
                refine r_getS hk fl_X3_30 hF (dtX3_count_0 36 (105, .getfield 30, 3) rfl) (fun q13 hq13 hF => ?_)
                refine r_callI hF (fun v14 h H locs ls hH hS hl => run_V (y := yX1_indexes) hk (in_st q13 hq13 0 (by decide)) rfl rfl (c_X1_indexes (kl K) hk.2.2.2.2.2.2.2.2.2.2.2 X q13 hq13  m0 v14 h) lk_X3_213 me_X1_indexes yf_X1_indexes (by decide) (by decide) rfl (Nat.le_of_ble_eq_true rfl) rfl (dtX3_count_0 37 (108, .invokevirtual 213, 3) rfl) hH hS hl) (fun v14 hF => ?_)
                cases Option.some.inj hF
                exact hR v14 rfl _ _ (dtX3_count_0 38 (111, .ireturn, 1) rfl)
              · rw [if_neg hs19_5] at hF
                by_cases hs19_6 : p1 = 6
                · rw [if_pos hs19_6] at hF
                  refine r_tabIn hk 112 (dtX3_count_0 10 (19, .tableswitch 101 0 6 #[41, 49, 57, 65, 75, 85, 93], 41) rfl) (by rw [hs19_6]; decide) (by rw [hs19_6]; decide) (by rw [hs19_6]; rfl) (by decide) ?_
                  refine r_aload_n hk 0 (dtX3_count_0 39 (112, .aload_n 0, 1) rfl) rfl ?_
                  refine r_getS hk fl_X3_30 hF (dtX3_count_0 40 (113, .getfield 30, 3) rfl) (fun q15 hq15 hF => ?_)
                  refine r_callI hF (fun v16 h H locs ls hH hS hl => run_V (y := yX1_movedTenants) hk (in_st q15 hq15 0 (by decide)) rfl rfl (c_X1_movedTenants (kl K) hk.2.2.2.2.2.2.2.2.2.2.2 X q15 hq15  m0 v16 h) lk_X3_216 me_X1_movedTenants yf_X1_movedTenants (by decide) (by decide) rfl (Nat.le_of_ble_eq_true rfl) rfl (dtX3_count_0 41 (116, .invokevirtual 216, 3) rfl) hH hS hl) (fun v16 hF => ?_)
                  cases Option.some.inj hF
                  exact hR v16 rfl _ _ (dtX3_count_0 42 (119, .ireturn, 1) rfl)
                · rw [if_neg hs19_6] at hF
                  refine r_tabOut hk 120 (dtX3_count_0 10 (19, .tableswitch 101 0 6 #[41, 49, 57, 65, 75, 85, 93], 41) rfl) (by have q0 := lv_neT hs19_0 (a := 0) rfl; have q1 := lv_neT hs19_1 (a := 1) rfl; have q2 := lv_neT hs19_2 (a := 2) rfl; have q3 := lv_neT hs19_3 (a := 3) rfl; have q4 := lv_neT hs19_4 (a := 4) rfl; have q5 := lv_neT hs19_5 (a := 5) rfl; have q6 := lv_neT hs19_6 (a := 6) rfl; omega) (by decide) ?_
                  refine r_aload_n hk 0 (dtX3_count_0 43 (120, .aload_n 0, 1) rfl) rfl ?_
                  refine r_getI hk (k := 5) (fsX3 X) cbX3 (by decide) fl_X3_179 (in_main 0 (by decide)) (fun _ => rfl) (fun _ _ => rfl) hF (dtX3_count_0 44 (121, .getfield 179, 3) rfl) (fun v17 hF => ?_)
                  cases Option.some.inj hF
                  exact hR v17 rfl _ _ (dtX3_count_0 45 (124, .ireturn, 1) rfl)
  have j14_18 : (J_X3_count_14 p1 m0) = some rv → G X K 14 [(0, .ref (xad X (0, 0, 0, 0))), (1, .int p1)] [] m0 := by
    intro hF
    unfold J_X3_count_14 at hF
    refine r_iconst (v := 0) hk (dtX3_count_0 7 (14, .iconst 0, 1) rfl) (by decide) ?_
    exact r_sub hk [0, 1] rfl (j15_2 0 hF)
  refine r_if_lt hk 14 hF (dtX3_count_0 1 (1, .ifCond .lt 13, 3) rfl) (by decide) (fun hF => ?_) (fun hF => ?_)
  · exact r_sub hk [0, 1] rfl (j14_18 hF)
  · refine r_iload_n hk 1 (dtX3_count_0 2 (4, .iload_n 1, 1) rfl) rfl ?_
    refine r_bipush (v := 7) hk (dtX3_count_0 3 (5, .bipush 7, 2) rfl) (by decide) ?_
    refine r_icmp_gt hk 14 hF (dtX3_count_0 4 (7, .if_icmp .gt 7, 3) rfl) (by decide) (fun hF => ?_) (fun hF => ?_)
    · exact r_sub hk [0, 1] rfl (j14_18 hF)
    · refine r_iconst (v := 1) hk (dtX3_count_0 5 (10, .iconst 1, 1) rfl) (by decide) ?_
      refine r_goto hk 15 (dtX3_count_0 6 (11, .goto 4, 3) rfl) (by decide) ?_
      exact r_sub hk [0, 1] rfl (j15_2 1 hF)
set_option maxHeartbeats 4000000 in
set_option maxRecDepth 100000 in
theorem c_X3_requireRow (l : Launch) (hlf : l.stackTraces = false) (X : XW)  (p1 : Int32) (m0 : Mem) (rv : Unit ⊕ Nat) (hF : F_X3_requireRow p1 m0 = some rv) : MT X l yX3_requireRow cX3_requireRow 2 none 7 [.ref (xad X (0, 0, 0, 0)), .int p1] m0 rv m0 (QTV X rv m0) := by
  refine startTV hlf (by decide +kernel) rfl [(0, .ref (xad X (0, 0, 0, 0))), (1, .int p1)] rfl (Nat.le_of_ble_eq_true rfl) (fun K hk hR hX => ?_)
  unfold F_X3_requireRow at hF
  refine r_iload_n hk 1 (dtX3_requireRow_0 0 (0, .iload_n 1, 1) rfl) rfl ?_
  have j15_1 : J_X3_requireRow_15 = some rv → G X K 15 [] [] m0 := by
    intro hF
    unfold J_X3_requireRow_15 at hF
    cases Option.some.inj hF
    exact (hX 2 rfl).2.2.2 _ _ _ _ _ _ _ th_X3_272_276 th_X3_272_276_g (hk.2.2.2.2.2.1.2.2.2.2.2.2.2.1) (by decide) (Nat.le_of_ble_eq_true rfl) (dtX3_requireRow_0 7 (15, .new 272, 3) rfl) (dtX3_requireRow_0 8 (18, .dup, 1) rfl) (dtX3_requireRow_0 9 (19, .ldc_w 274, 3) rfl) (dtX3_requireRow_0 10 (22, .invokespecial 276, 3) rfl) (dtX3_requireRow_0 11 (25, .athrow, 1) rfl)
  refine r_if_lt hk 15 hF (dtX3_requireRow_0 1 (1, .ifCond .lt 14, 3) rfl) (by decide) (fun hF => ?_) (fun hF => ?_)
  · exact r_sub hk [] rfl (j15_1 hF)
  · refine r_iload_n hk 1 (dtX3_requireRow_0 2 (4, .iload_n 1, 1) rfl) rfl ?_
    refine r_aload_n hk 0 (dtX3_requireRow_0 3 (5, .aload_n 0, 1) rfl) rfl ?_
    refine r_getS hk fl_X3_30 hF (dtX3_requireRow_0 4 (6, .getfield 30, 3) rfl) (fun q2 hq2 hF => ?_)
    refine r_getI hk (k := 3) (fsX1 X q2) cbX1 (by decide) fl_X3_204 (in_st q2 hq2 0 (by decide)) (fun _ => rfl) (fun _ _ => rfl) hF (dtX3_requireRow_0 5 (9, .getfield 204, 3) rfl) (fun v3 hF => ?_)
    refine r_icmp_lt hk 26 hF (dtX3_requireRow_0 6 (12, .if_icmp .lt 14, 3) rfl) (by decide) (fun hF => ?_) (fun hF => ?_)
    · cases Option.some.inj hF
      exact hR () rfl _ _ (dtX3_requireRow_0 12 (26, .return_, 1) rfl)
    · exact r_sub hk [] rfl (j15_1 hF)
set_option maxHeartbeats 4000000 in
set_option maxRecDepth 100000 in
theorem c_X3_rowOf (l : Launch) (hlf : l.stackTraces = false) (X : XW)  (p1 : Int32) (p2 : Int32) (m0 : Mem) (rv : Int32 ⊕ Nat) (hF : F_X3_rowOf p1 p2 m0 = some rv) : MT X l yX3_rowOf cX3_rowOf 4 (some .int) 8 [.ref (xad X (0, 0, 0, 0)), .int p1, .int p2] m0 rv m0 (QTI X rv m0) := by
  refine startTI hlf (by decide +kernel) rfl [(0, .ref (xad X (0, 0, 0, 0))), (1, .int p1), (2, .int p2)] rfl (Nat.le_of_ble_eq_true rfl) (fun K hk hR hX => ?_)
  unfold F_X3_rowOf at hF
  refine r_aload_n hk 0 (dtX3_rowOf_0 0 (0, .aload_n 0, 1) rfl) rfl ?_
  refine r_iload_n hk 1 (dtX3_rowOf_0 1 (1, .iload_n 1, 1) rfl) rfl ?_
  refine r_callVts hk hF (fun c h => by cases Option.some.inj h; exact hX c rfl) (fun R h hf H locs ls hH hS hl => runT_V (y := yX3_requireRow) hk (in_main 0 (by decide)) rfl rfl (c_X3_requireRow (kl K) hk.2.2.2.2.2.2.2.2.2.2.2 X  p1 m0 R h) lk_X3_116 me_X3_requireRow yf_X3_requireRow (by decide) (by decide) rfl (Nat.le_of_ble_eq_true rfl) rfl (dtX3_rowOf_0 2 (2, .invokevirtual 116, 3) rfl) hf hH hS hl) (fun _ hF => ?_)
  refine r_iload_n hk 2 (dtX3_rowOf_0 3 (5, .iload_n 2, 1) rfl) rfl ?_
  have j20_2 : ∀ (v1 : Int32), (J_X3_rowOf_20 p1 p2 m0) v1 = some rv → G X K 20 [(0, .ref (xad X (0, 0, 0, 0))), (1, .int p1), (2, .int p2)] [.int v1] m0 := by
    intro v1 hF
    unfold J_X3_rowOf_20 at hF
    refine r_callVts hk hF (fun c h => by cases Option.some.inj h; exact hX c rfl) (fun R h hf H locs ls hH hS hl => runT_S hk (c_X3_require (kl K) hk.2.2.2.2.2.2.2.2.2.2.2 X  v1 m0 R h) lk_X3_41 me_X3_require yf_X3_require (by decide) (by decide) rfl (Nat.le_of_ble_eq_true rfl) rfl (dtX3_rowOf_0 11 (20, .invokestatic 41, 3) rfl) hf hH hS hl) (fun _ hF => ?_)
    refine r_iload_n hk 2 (dtX3_rowOf_0 12 (23, .iload_n 2, 1) rfl) rfl ?_
    refine r_if_ne hk 37 hF (dtX3_rowOf_0 13 (24, .ifCond .ne 13, 3) rfl) (by decide) (fun hF => ?_) (fun hF => ?_)
    · refine r_iload_n hk 2 (dtX3_rowOf_0 20 (37, .iload_n 2, 1) rfl) rfl ?_
      refine r_bipush (v := 9) hk (dtX3_rowOf_0 21 (38, .bipush 9, 2) rfl) (by decide) ?_
      refine r_icmp_ne hk 52 hF (dtX3_rowOf_0 22 (40, .if_icmp .ne 12, 3) rfl) (by decide) (fun hF => ?_) (fun hF => ?_)
      · refine r_aload_n hk 0 (dtX3_rowOf_0 28 (52, .aload_n 0, 1) rfl) rfl ?_
        refine r_getS hk fl_X3_30 hF (dtX3_rowOf_0 29 (53, .getfield 30, 3) rfl) (fun q3 hq3 hF => ?_)
        refine r_iload_n hk 1 (dtX3_rowOf_0 30 (56, .iload_n 1, 1) rfl) rfl ?_
        refine r_iload_n hk 2 (dtX3_rowOf_0 31 (57, .iload_n 2, 1) rfl) rfl ?_
        refine r_iconst (v := 1) hk (dtX3_rowOf_0 32 (58, .iconst 1, 1) rfl) (by decide) ?_
        refine r_isub hk hF (dtX3_rowOf_0 33 (59, .isub, 1) rfl) (fun v4 hF => ?_)
        refine r_callI hF (fun v5 h H locs ls hH hS hl => run_V (y := yX1_valueAt) hk (in_st q3 hq3 0 (by decide)) rfl rfl (c_X1_valueAt (kl K) hk.2.2.2.2.2.2.2.2.2.2.2 X q3 hq3 p1 v4 m0 v5 h) lk_X3_127 me_X1_valueAt yf_X1_valueAt (by decide) (by decide) rfl (Nat.le_of_ble_eq_true rfl) rfl (dtX3_rowOf_0 34 (60, .invokevirtual 127, 3) rfl) hH hS hl) (fun v5 hF => ?_)
        refine r_istore_n hk [(3, .int v5), (0, .ref (xad X (0, 0, 0, 0))), (1, .int p1), (2, .int p2)] (dtX3_rowOf_0 35 (63, .istore_n 3, 1) rfl) (by decide) rfl ?_
        refine r_iload_n hk 0 (dtX3_rowOf_0 36 (64, .iload_n 3, 1) rfl) rfl ?_
        refine r_ldc hk cn_X3_130 (dtX3_rowOf_0 37 (65, .ldc 130, 2) rfl) ?_
        have j79_7 : ∀ (v6 : Int32), J_X3_rowOf_79 v6 = some rv → G X K 79 [] [.int v6] m0 := by
          intro v6 hF
          unfold J_X3_rowOf_79 at hF
          cases Option.some.inj hF
          exact hR v6 rfl _ _ (dtX3_rowOf_0 44 (79, .ireturn, 1) rfl)
        refine r_icmp_ne hk 74 hF (dtX3_rowOf_0 38 (67, .if_icmp .ne 7, 3) rfl) (by decide) (fun hF => ?_) (fun hF => ?_)
        · refine r_iload_n hk 0 (dtX3_rowOf_0 41 (74, .iload_n 3, 1) rfl) rfl ?_
          refine r_sipush (v := 10000) hk (dtX3_rowOf_0 42 (75, .sipush 10000, 3) rfl) (by decide) ?_
          refine r_iadd hk hF (dtX3_rowOf_0 43 (78, .iadd, 1) rfl) (fun v8 hF => ?_)
          exact r_sub hk [] rfl (j79_7 v8 hF)
        · refine r_iconst (v := (-1)) hk (dtX3_rowOf_0 39 (70, .iconst (-1), 1) rfl) (by decide) ?_
          refine r_goto hk 79 (dtX3_rowOf_0 40 (71, .goto 8, 3) rfl) (by decide) ?_
          exact r_sub hk [] rfl (j79_7 (-1) hF)
      · refine r_aload_n hk 0 (dtX3_rowOf_0 23 (43, .aload_n 0, 1) rfl) rfl ?_
        refine r_getS hk fl_X3_30 hF (dtX3_rowOf_0 24 (44, .getfield 30, 3) rfl) (fun q9 hq9 hF => ?_)
        refine r_iload_n hk 1 (dtX3_rowOf_0 25 (47, .iload_n 1, 1) rfl) rfl ?_
        refine r_callI hF (fun v10 h H locs ls hH hS hl => run_V (y := yX1_valuesIn) hk (in_st q9 hq9 0 (by decide)) rfl rfl (c_X1_valuesIn (kl K) hk.2.2.2.2.2.2.2.2.2.2.2 X q9 hq9 p1 m0 v10 h) lk_X3_184 me_X1_valuesIn yf_X1_valuesIn (by decide) (by decide) rfl (Nat.le_of_ble_eq_true rfl) rfl (dtX3_rowOf_0 26 (48, .invokevirtual 184, 3) rfl) hH hS hl) (fun v10 hF => ?_)
        cases Option.some.inj hF
        exact hR v10 rfl _ _ (dtX3_rowOf_0 27 (51, .ireturn, 1) rfl)
    · refine r_aload_n hk 0 (dtX3_rowOf_0 14 (27, .aload_n 0, 1) rfl) rfl ?_
      refine r_getS hk fl_X3_30 hF (dtX3_rowOf_0 15 (28, .getfield 30, 3) rfl) (fun q11 hq11 hF => ?_)
      refine r_getR hk (k := 1) (fsX1 X q11) cbX1 (by decide) fl_X3_134 (in_st q11 hq11 0 (by decide)) (fun _ => rfl) (fun _ _ => rfl) (dtX3_rowOf_0 16 (31, .getfield 134, 3) rfl) ?_
      refine r_iload_n hk 1 (dtX3_rowOf_0 17 (34, .iload_n 1, 1) rfl) rfl ?_
      refine r_iald hk (in_st q11 hq11 2 (by decide)) (fun _ => rfl) hF (dtX3_rowOf_0 18 (35, .iaload, 1) rfl) (fun v12 hF => ?_)
      cases Option.some.inj hF
      exact hR v12 rfl _ _ (dtX3_rowOf_0 19 (36, .ireturn, 1) rfl)
  have j19_13 : (J_X3_rowOf_19 p1 p2 m0) = some rv → G X K 19 [(0, .ref (xad X (0, 0, 0, 0))), (1, .int p1), (2, .int p2)] [] m0 := by
    intro hF
    unfold J_X3_rowOf_19 at hF
    refine r_iconst (v := 0) hk (dtX3_rowOf_0 10 (19, .iconst 0, 1) rfl) (by decide) ?_
    exact r_sub hk [0, 1, 2] rfl (j20_2 0 hF)
  refine r_if_lt hk 19 hF (dtX3_rowOf_0 4 (6, .ifCond .lt 13, 3) rfl) (by decide) (fun hF => ?_) (fun hF => ?_)
  · exact r_sub hk [0, 1, 2] rfl (j19_13 hF)
  · refine r_iload_n hk 2 (dtX3_rowOf_0 5 (9, .iload_n 2, 1) rfl) rfl ?_
    refine r_bipush (v := 9) hk (dtX3_rowOf_0 6 (10, .bipush 9, 2) rfl) (by decide) ?_
    refine r_icmp_gt hk 19 hF (dtX3_rowOf_0 7 (12, .if_icmp .gt 7, 3) rfl) (by decide) (fun hF => ?_) (fun hF => ?_)
    · exact r_sub hk [0, 1, 2] rfl (j19_13 hF)
    · refine r_iconst (v := 1) hk (dtX3_rowOf_0 8 (15, .iconst 1, 1) rfl) (by decide) ?_
      refine r_goto hk 20 (dtX3_rowOf_0 9 (16, .goto 4, 3) rfl) (by decide) ?_
      exact r_sub hk [0, 1, 2] rfl (j20_2 1 hF)
set_option maxHeartbeats 4000000 in
set_option maxRecDepth 100000 in
theorem c_X1_rowsWith (l : Launch) (hlf : l.stackTraces = false) (X : XW) (i0 : Nat) (hi0 : i0 < 7) (p1 : Int32) (p2 : Int32) (p3 : Int32) (m0 : Mem) (rv : Int32) (hF : F_X1_rowsWith i0 p1 p2 p3 m0 = some rv) : MX X l yX1_rowsWith cX1_rowsWith 6 (some .int) 1 [.ref (xad X (1, i0, 0, 0)), .int p1, .int p2, .int p3] m0 (QI X rv m0) := by
  refine startI hlf (by decide +kernel) rfl [(0, .ref (xad X (1, i0, 0, 0))), (1, .int p1), (2, .int p2), (3, .int p3)] rfl (Nat.le_of_ble_eq_true rfl) (fun K hk hR => ?_)
  unfold F_X1_rowsWith at hF
  refine r_iconst (v := 0) hk (dtX1_rowsWith_0 0 (0, .iconst 0, 1) rfl) (by decide) ?_
  refine r_istore hk [(4, .int 0), (0, .ref (xad X (1, i0, 0, 0))), (1, .int p1), (2, .int p2), (3, .int p3)] (dtX1_rowsWith_0 1 (1, .istore 4, 2) rfl) (by decide) rfl ?_
  refine r_iconst (v := 0) hk (dtX1_rowsWith_0 2 (3, .iconst 0, 1) rfl) (by decide) ?_
  refine r_istore hk [(5, .int 0), (4, .int 0), (0, .ref (xad X (1, i0, 0, 0))), (1, .int p1), (2, .int p2), (3, .int p3)] (dtX1_rowsWith_0 3 (4, .istore 5, 2) rfl) (by decide) rfl ?_
  have e56_2 : ∀ (v1 : Int32), C_X1_rowsWith_56 v1 = some rv → G X K 56 [(4, .int v1)] [] m0 := by
    intro v1 hF
    unfold C_X1_rowsWith_56 at hF
    refine r_iload hk 0 (dtX1_rowsWith_0 29 (56, .iload 4, 2) rfl) rfl ?_
    cases Option.some.inj hF
    exact hR _ _ (dtX1_rowsWith_0 30 (58, .ireturn, 1) rfl)
  have l6 : ∀ (n6 : Nat) (v3 : Int32) (v4 : Int32), L_X1_rowsWith_6 i0 p1 p2 p3 m0 n6 v3 v4 = some rv → G X K 6 [(0, .ref (xad X (1, i0, 0, 0))), (1, .int p1), (2, .int p2), (3, .int p3), (4, .int v3), (5, .int v4)] [] m0 := by
    intro n6
    induction n6 with
    | zero => intro v3 v4 hF; exact nomatch (show (none : Option Int32) = some rv from hF)
    | succ n6 ih6 =>
      intro v3 v4 hF
      rw [L_X1_rowsWith_6] at hF
      refine r_iload hk 5 (dtX1_rowsWith_0 4 (6, .iload 5, 2) rfl) rfl ?_
      refine r_aload_n hk 0 (dtX1_rowsWith_0 5 (8, .aload_n 0, 1) rfl) rfl ?_
      refine r_getI hk (k := 3) (fsX1 X i0) cbX1 (by decide) fl_X1_29 (in_st i0 hi0 0 (by decide)) (fun _ => rfl) (fun _ _ => rfl) hF (dtX1_rowsWith_0 6 (9, .getfield 29, 3) rfl) (fun v7 hF => ?_)
      refine r_icmp_ge hk 56 hF (dtX1_rowsWith_0 7 (12, .if_icmp .ge 44, 3) rfl) (by decide) (fun hF => ?_) (fun hF => ?_)
      · exact r_sub hk [4] rfl (e56_2 v3 hF)
      · refine r_iload hk 4 (dtX1_rowsWith_0 8 (15, .iload 4, 2) rfl) rfl ?_
        refine r_aload_n hk 0 (dtX1_rowsWith_0 9 (17, .aload_n 0, 1) rfl) rfl ?_
        refine r_getR hk (k := 1) (fsX1 X i0) cbX1 (by decide) fl_X1_17 (in_st i0 hi0 0 (by decide)) (fun _ => rfl) (fun _ _ => rfl) (dtX1_rowsWith_0 10 (18, .getfield 17, 3) rfl) ?_
        refine r_iload hk 5 (dtX1_rowsWith_0 11 (21, .iload 5, 2) rfl) rfl ?_
        refine r_iald hk (in_st i0 hi0 2 (by decide)) (fun _ => rfl) hF (dtX1_rowsWith_0 12 (23, .iaload, 1) rfl) (fun v8 hF => ?_)
        refine r_iload_n hk 1 (dtX1_rowsWith_0 13 (24, .iload_n 1, 1) rfl) rfl ?_
        have j44_10 : ∀ (v9 : Int32), (J_X1_rowsWith_44 m0 v3 v4 (fun w0 w1 => L_X1_rowsWith_6 i0 p1 p2 p3 m0 n6 w0 w1)) v9 = some rv → G X K 44 [(0, .ref (xad X (1, i0, 0, 0))), (1, .int p1), (2, .int p2), (3, .int p3), (5, .int v4)] [.int v9, .int v3] m0 := by
          intro v9 hF
          unfold J_X1_rowsWith_44 at hF
          refine r_callI hF (fun v11 h H locs ls hH hS hl => run_SN hk (c_X3_asNumber (kl K) hk.2.2.2.2.2.2.2.2.2.2.2 X  v9 m0 v11 h) lk_X1_64 me_X3_asNumber yf_X3_asNumber (by decide) (by decide) rfl (Nat.le_of_ble_eq_true rfl) rfl (dtX1_rowsWith_0 24 (44, .invokestatic 64, 3) rfl) hH hS hl) (fun v11 hF => ?_)
          refine r_iadd hk hF (dtX1_rowsWith_0 25 (47, .iadd, 1) rfl) (fun v12 hF => ?_)
          refine r_istore hk [(4, .int v12), (0, .ref (xad X (1, i0, 0, 0))), (1, .int p1), (2, .int p2), (3, .int p3), (5, .int v4)] (dtX1_rowsWith_0 26 (48, .istore 4, 2) rfl) (by decide) rfl ?_
          refine r_iinc hk 1 5 (fun v13 => [(5, .int v13), (4, .int v12), (0, .ref (xad X (1, i0, 0, 0))), (1, .int p1), (2, .int p2), (3, .int p3)]) hF (dtX1_rowsWith_0 27 (50, .iinc 5 1, 3) rfl) rfl (by decide) (by decide) (fun _ => rfl) (fun v13 hF => ?_)
          refine r_goto hk 6 (dtX1_rowsWith_0 28 (53, .goto (-47), 3) rfl) (by decide) ?_
          exact r_sub hk [2, 3, 4, 5, 1, 0] rfl (ih6 v12 v13 hF)
        have j43_14 : (J_X1_rowsWith_43 m0 v3 v4 (fun w0 w1 => L_X1_rowsWith_6 i0 p1 p2 p3 m0 n6 w0 w1)) = some rv → G X K 43 [(0, .ref (xad X (1, i0, 0, 0))), (1, .int p1), (2, .int p2), (3, .int p3), (5, .int v4)] [.int v3] m0 := by
          intro hF
          unfold J_X1_rowsWith_43 at hF
          refine r_iconst (v := 0) hk (dtX1_rowsWith_0 23 (43, .iconst 0, 1) rfl) (by decide) ?_
          exact r_sub hk [0, 1, 2, 3, 4] rfl (j44_10 0 hF)
        refine r_icmp_ne hk 43 hF (dtX1_rowsWith_0 14 (25, .if_icmp .ne 18, 3) rfl) (by decide) (fun hF => ?_) (fun hF => ?_)
        · exact r_sub hk [0, 1, 2, 3, 5] rfl (j43_14 hF)
        · refine r_aload_n hk 0 (dtX1_rowsWith_0 15 (28, .aload_n 0, 1) rfl) rfl ?_
          refine r_iload hk 5 (dtX1_rowsWith_0 16 (29, .iload 5, 2) rfl) rfl ?_
          refine r_iload_n hk 2 (dtX1_rowsWith_0 17 (31, .iload_n 2, 1) rfl) rfl ?_
          refine r_callI hF (fun v15 h H locs ls hH hS hl => run_V (y := yX1_valueAt) hk (in_st i0 hi0 0 (by decide)) rfl rfl (c_X1_valueAt (kl K) hk.2.2.2.2.2.2.2.2.2.2.2 X i0 hi0 v4 p2 m0 v15 h) lk_X1_40 me_X1_valueAt yf_X1_valueAt (by decide) (by decide) rfl (Nat.le_of_ble_eq_true rfl) rfl (dtX1_rowsWith_0 18 (32, .invokevirtual 40, 3) rfl) hH hS hl) (fun v15 hF => ?_)
          refine r_iload_n hk 3 (dtX1_rowsWith_0 19 (35, .iload_n 3, 1) rfl) rfl ?_
          refine r_icmp_ne hk 43 hF (dtX1_rowsWith_0 20 (36, .if_icmp .ne 7, 3) rfl) (by decide) (fun hF => ?_) (fun hF => ?_)
          · exact r_sub hk [0, 1, 2, 3, 5] rfl (j43_14 hF)
          · refine r_iconst (v := 1) hk (dtX1_rowsWith_0 21 (39, .iconst 1, 1) rfl) (by decide) ?_
            refine r_goto hk 44 (dtX1_rowsWith_0 22 (40, .goto 4, 3) rfl) (by decide) ?_
            exact r_sub hk [0, 1, 2, 3, 5] rfl (j44_10 1 hF)
  exact r_sub hk [2, 3, 4, 5, 1, 0] rfl (l6 fu 0 0 hF)
set_option maxHeartbeats 4000000 in
set_option maxRecDepth 100000 in
theorem c_X1_rowsWithValue (l : Launch) (hlf : l.stackTraces = false) (X : XW) (i0 : Nat) (hi0 : i0 < 7) (p1 : Int32) (p2 : Int32) (m0 : Mem) (rv : Int32) (hF : F_X1_rowsWithValue i0 p1 p2 m0 = some rv) : MX X l yX1_rowsWithValue cX1_rowsWithValue 3 (some .int) 2 [.ref (xad X (1, i0, 0, 0)), .int p1, .int p2] m0 (QI X rv m0) := by
  refine startI hlf (by decide +kernel) rfl [(0, .ref (xad X (1, i0, 0, 0))), (1, .int p1), (2, .int p2)] rfl (Nat.le_of_ble_eq_true rfl) (fun K hk hR => ?_)
  unfold F_X1_rowsWithValue at hF
  refine r_aload_n hk 0 (dtX1_rowsWithValue_0 0 (0, .aload_n 0, 1) rfl) rfl ?_
  refine r_iload_n hk 1 (dtX1_rowsWithValue_0 1 (1, .iload_n 1, 1) rfl) rfl ?_
  refine r_callI hF (fun v1 h H locs ls hH hS hl => run_V (y := yX1_rowsOf) hk (in_st i0 hi0 0 (by decide)) rfl rfl (c_X1_rowsOf (kl K) hk.2.2.2.2.2.2.2.2.2.2.2 X i0 hi0 p1 m0 v1 h) lk_X1_71 me_X1_rowsOf yf_X1_rowsOf (by decide) (by decide) rfl (Nat.le_of_ble_eq_true rfl) rfl (dtX1_rowsWithValue_0 2 (2, .invokevirtual 71, 3) rfl) hH hS hl) (fun v1 hF => ?_)
  refine r_aload_n hk 0 (dtX1_rowsWithValue_0 3 (5, .aload_n 0, 1) rfl) rfl ?_
  refine r_iload_n hk 1 (dtX1_rowsWithValue_0 4 (6, .iload_n 1, 1) rfl) rfl ?_
  refine r_iload_n hk 2 (dtX1_rowsWithValue_0 5 (7, .iload_n 2, 1) rfl) rfl ?_
  refine r_ldc hk cn_X1_39 (dtX1_rowsWithValue_0 6 (8, .ldc 39, 2) rfl) ?_
  refine r_callI hF (fun v2 h H locs ls hH hS hl => run_V (y := yX1_rowsWith) hk (in_st i0 hi0 0 (by decide)) rfl rfl (c_X1_rowsWith (kl K) hk.2.2.2.2.2.2.2.2.2.2.2 X i0 hi0 p1 p2 (-1000000) m0 v2 h) lk_X1_74 me_X1_rowsWith yf_X1_rowsWith (by decide) (by decide) rfl (Nat.le_of_ble_eq_true rfl) rfl (dtX1_rowsWithValue_0 7 (10, .invokevirtual 74, 3) rfl) hH hS hl) (fun v2 hF => ?_)
  refine r_isub hk hF (dtX1_rowsWithValue_0 8 (13, .isub, 1) rfl) (fun v3 hF => ?_)
  cases Option.some.inj hF
  exact hR _ _ (dtX1_rowsWithValue_0 9 (14, .ireturn, 1) rfl)
set_option maxHeartbeats 4000000 in
set_option maxRecDepth 100000 in
theorem c_X1_sumOf (l : Launch) (hlf : l.stackTraces = false) (X : XW) (i0 : Nat) (hi0 : i0 < 7) (p1 : Int32) (p2 : Int32) (m0 : Mem) (rv : Int32) (hF : F_X1_sumOf i0 p1 p2 m0 = some rv) : MX X l yX1_sumOf cX1_sumOf 6 (some .int) 1 [.ref (xad X (1, i0, 0, 0)), .int p1, .int p2] m0 (QI X rv m0) := by
  refine startI hlf (by decide +kernel) rfl [(0, .ref (xad X (1, i0, 0, 0))), (1, .int p1), (2, .int p2)] rfl (Nat.le_of_ble_eq_true rfl) (fun K hk hR => ?_)
  unfold F_X1_sumOf at hF
  refine r_iconst (v := 0) hk (dtX1_sumOf_0 0 (0, .iconst 0, 1) rfl) (by decide) ?_
  refine r_istore_n hk [(3, .int 0), (0, .ref (xad X (1, i0, 0, 0))), (1, .int p1), (2, .int p2)] (dtX1_sumOf_0 1 (1, .istore_n 3, 1) rfl) (by decide) rfl ?_
  refine r_iconst (v := 0) hk (dtX1_sumOf_0 2 (2, .iconst 0, 1) rfl) (by decide) ?_
  refine r_istore hk [(4, .int 0), (3, .int 0), (0, .ref (xad X (1, i0, 0, 0))), (1, .int p1), (2, .int p2)] (dtX1_sumOf_0 3 (3, .istore 4, 2) rfl) (by decide) rfl ?_
  have e56_2 : ∀ (v1 : Int32), C_X1_sumOf_56 v1 = some rv → G X K 56 [(3, .int v1)] [] m0 := by
    intro v1 hF
    unfold C_X1_sumOf_56 at hF
    refine r_iload_n hk 0 (dtX1_sumOf_0 30 (56, .iload_n 3, 1) rfl) rfl ?_
    cases Option.some.inj hF
    exact hR _ _ (dtX1_sumOf_0 31 (57, .ireturn, 1) rfl)
  have l6 : ∀ (n6 : Nat) (v3 : Int32) (v4 : Int32), L_X1_sumOf_5 i0 p1 p2 m0 n6 v3 v4 = some rv → G X K 5 [(0, .ref (xad X (1, i0, 0, 0))), (1, .int p1), (2, .int p2), (3, .int v3), (4, .int v4)] [] m0 := by
    intro n6
    induction n6 with
    | zero => intro v3 v4 hF; exact nomatch (show (none : Option Int32) = some rv from hF)
    | succ n6 ih6 =>
      intro v3 v4 hF
      rw [L_X1_sumOf_5] at hF
      refine r_iload hk 4 (dtX1_sumOf_0 4 (5, .iload 4, 2) rfl) rfl ?_
      refine r_aload_n hk 0 (dtX1_sumOf_0 5 (7, .aload_n 0, 1) rfl) rfl ?_
      refine r_getI hk (k := 3) (fsX1 X i0) cbX1 (by decide) fl_X1_29 (in_st i0 hi0 0 (by decide)) (fun _ => rfl) (fun _ _ => rfl) hF (dtX1_sumOf_0 6 (8, .getfield 29, 3) rfl) (fun v7 hF => ?_)
      refine r_icmp_ge hk 56 hF (dtX1_sumOf_0 7 (11, .if_icmp .ge 45, 3) rfl) (by decide) (fun hF => ?_) (fun hF => ?_)
      · exact r_sub hk [3] rfl (e56_2 v3 hF)
      · refine r_aload_n hk 0 (dtX1_sumOf_0 8 (14, .aload_n 0, 1) rfl) rfl ?_
        refine r_iload hk 4 (dtX1_sumOf_0 9 (15, .iload 4, 2) rfl) rfl ?_
        refine r_iload_n hk 2 (dtX1_sumOf_0 10 (17, .iload_n 2, 1) rfl) rfl ?_
        refine r_callI hF (fun v8 h H locs ls hH hS hl => run_V (y := yX1_valueAt) hk (in_st i0 hi0 0 (by decide)) rfl rfl (c_X1_valueAt (kl K) hk.2.2.2.2.2.2.2.2.2.2.2 X i0 hi0 v4 p2 m0 v8 h) lk_X1_40 me_X1_valueAt yf_X1_valueAt (by decide) (by decide) rfl (Nat.le_of_ble_eq_true rfl) rfl (dtX1_sumOf_0 11 (18, .invokevirtual 40, 3) rfl) hH hS hl) (fun v8 hF => ?_)
        refine r_istore hk [(5, .int v8), (0, .ref (xad X (1, i0, 0, 0))), (1, .int p1), (2, .int p2), (3, .int v3), (4, .int v4)] (dtX1_sumOf_0 12 (21, .istore 5, 2) rfl) (by decide) rfl ?_
        refine r_iload_n hk 4 (dtX1_sumOf_0 13 (23, .iload_n 3, 1) rfl) rfl ?_
        refine r_aload_n hk 1 (dtX1_sumOf_0 14 (24, .aload_n 0, 1) rfl) rfl ?_
        refine r_getR hk (k := 1) (fsX1 X i0) cbX1 (by decide) fl_X1_17 (in_st i0 hi0 0 (by decide)) (fun _ => rfl) (fun _ _ => rfl) (dtX1_sumOf_0 15 (25, .getfield 17, 3) rfl) ?_
        refine r_iload hk 5 (dtX1_sumOf_0 16 (28, .iload 4, 2) rfl) rfl ?_
        refine r_iald hk (in_st i0 hi0 2 (by decide)) (fun _ => rfl) hF (dtX1_sumOf_0 17 (30, .iaload, 1) rfl) (fun v9 hF => ?_)
        refine r_iload_n hk 2 (dtX1_sumOf_0 18 (31, .iload_n 1, 1) rfl) rfl ?_
        have j48_11 : ∀ (v10 : Int32), (J_X1_sumOf_48 v3 v4 (fun w0 w1 => L_X1_sumOf_5 i0 p1 p2 m0 n6 w0 w1)) v10 = some rv → G X K 48 [(0, .ref (xad X (1, i0, 0, 0))), (1, .int p1), (2, .int p2), (4, .int v4)] [.int v10, .int v3] m0 := by
          intro v10 hF
          unfold J_X1_sumOf_48 at hF
          refine r_iadd hk hF (dtX1_sumOf_0 26 (48, .iadd, 1) rfl) (fun v12 hF => ?_)
          refine r_istore_n hk [(3, .int v12), (0, .ref (xad X (1, i0, 0, 0))), (1, .int p1), (2, .int p2), (4, .int v4)] (dtX1_sumOf_0 27 (49, .istore_n 3, 1) rfl) (by decide) rfl ?_
          refine r_iinc hk 1 4 (fun v13 => [(4, .int v13), (3, .int v12), (0, .ref (xad X (1, i0, 0, 0))), (1, .int p1), (2, .int p2)]) hF (dtX1_sumOf_0 28 (50, .iinc 4 1, 3) rfl) rfl (by decide) (by decide) (fun _ => rfl) (fun v13 hF => ?_)
          refine r_goto hk 5 (dtX1_sumOf_0 29 (53, .goto (-48), 3) rfl) (by decide) ?_
          exact r_sub hk [2, 3, 4, 1, 0] rfl (ih6 v12 v13 hF)
        have j47_14 : (J_X1_sumOf_47 v3 v4 (fun w0 w1 => L_X1_sumOf_5 i0 p1 p2 m0 n6 w0 w1)) = some rv → G X K 47 [(0, .ref (xad X (1, i0, 0, 0))), (1, .int p1), (2, .int p2), (4, .int v4)] [.int v3] m0 := by
          intro hF
          unfold J_X1_sumOf_47 at hF
          refine r_iconst (v := 0) hk (dtX1_sumOf_0 25 (47, .iconst 0, 1) rfl) (by decide) ?_
          exact r_sub hk [0, 1, 2, 3] rfl (j48_11 0 hF)
        refine r_icmp_ne hk 47 hF (dtX1_sumOf_0 19 (32, .if_icmp .ne 15, 3) rfl) (by decide) (fun hF => ?_) (fun hF => ?_)
        · exact r_sub hk [1, 2, 3, 5] rfl (j47_14 hF)
        · refine r_iload hk 0 (dtX1_sumOf_0 20 (35, .iload 5, 2) rfl) rfl ?_
          refine r_ldc hk cn_X1_39 (dtX1_sumOf_0 21 (37, .ldc 39, 2) rfl) ?_
          refine r_icmp_eq hk 47 hF (dtX1_sumOf_0 22 (39, .if_icmp .eq 8, 3) rfl) (by decide) (fun hF => ?_) (fun hF => ?_)
          · exact r_sub hk [1, 2, 3, 5] rfl (j47_14 hF)
          · refine r_iload hk 0 (dtX1_sumOf_0 23 (42, .iload 5, 2) rfl) rfl ?_
            refine r_goto hk 48 (dtX1_sumOf_0 24 (44, .goto 4, 3) rfl) (by decide) ?_
            exact r_sub hk [1, 2, 3, 5] rfl (j48_11 v8 hF)
  exact r_sub hk [2, 3, 4, 1, 0] rfl (l6 fu 0 0 hF)
set_option maxHeartbeats 4000000 in
set_option maxRecDepth 100000 in
theorem c_X1_standsAhead (l : Launch) (hlf : l.stackTraces = false) (X : XW) (i0 : Nat) (hi0 : i0 < 7) (p1 : Int32) (p2 : Int32) (p3 : Int32) (m0 : Mem) (rv : Int32) (hF : F_X1_standsAhead i0 p1 p2 p3 m0 = some rv) : MX X l yX1_standsAhead cX1_standsAhead 6 (some .boolean) 1 [.ref (xad X (1, i0, 0, 0)), .int p1, .int p2, .int p3] m0 (QI X rv m0) := by
  refine startZ hlf (by decide +kernel) rfl [(0, .ref (xad X (1, i0, 0, 0))), (1, .int p1), (2, .int p2), (3, .int p3)] rfl (Nat.le_of_ble_eq_true rfl) (fun K hk hR => ?_)
  unfold F_X1_standsAhead at hF
  refine r_aload_n hk 0 (dtX1_standsAhead_0 0 (0, .aload_n 0, 1) rfl) rfl ?_
  refine r_iload_n hk 3 (dtX1_standsAhead_0 1 (1, .iload_n 3, 1) rfl) rfl ?_
  refine r_iload_n hk 2 (dtX1_standsAhead_0 2 (2, .iload_n 2, 1) rfl) rfl ?_
  refine r_callI hF (fun v1 h H locs ls hH hS hl => run_V (y := yX1_valueAt) hk (in_st i0 hi0 0 (by decide)) rfl rfl (c_X1_valueAt (kl K) hk.2.2.2.2.2.2.2.2.2.2.2 X i0 hi0 p3 p2 m0 v1 h) lk_X1_40 me_X1_valueAt yf_X1_valueAt (by decide) (by decide) rfl (Nat.le_of_ble_eq_true rfl) rfl (dtX1_standsAhead_0 3 (3, .invokevirtual 40, 3) rfl) hH hS hl) (fun v1 hF => ?_)
  refine r_istore hk [(4, .int v1), (0, .ref (xad X (1, i0, 0, 0))), (1, .int p1), (2, .int p2), (3, .int p3)] (dtX1_standsAhead_0 4 (6, .istore 4, 2) rfl) (by decide) rfl ?_
  refine r_iconst (v := 0) hk (dtX1_standsAhead_0 5 (8, .iconst 0, 1) rfl) (by decide) ?_
  refine r_istore hk [(5, .int 0), (4, .int v1), (0, .ref (xad X (1, i0, 0, 0))), (1, .int p1), (2, .int p2), (3, .int p3)] (dtX1_standsAhead_0 6 (9, .istore 5, 2) rfl) (by decide) rfl ?_
  have e48_2 : C_X1_standsAhead_48 = some rv → G X K 48 [] [] m0 := by
    intro hF
    unfold C_X1_standsAhead_48 at hF
    refine r_iconst (v := 0) hk (dtX1_standsAhead_0 26 (48, .iconst 0, 1) rfl) (by decide) ?_
    obtain ⟨hz, hF⟩ := ck_some hF
    cases Option.some.inj hF
    exact hR _ _ hz (dtX1_standsAhead_0 27 (49, .ireturn, 1) rfl)
  have l5 : ∀ (n5 : Nat) (v3 : Int32), L_X1_standsAhead_11 i0 p1 p2 p3 m0 v1 n5 v3 = some rv → G X K 11 [(0, .ref (xad X (1, i0, 0, 0))), (1, .int p1), (2, .int p2), (3, .int p3), (4, .int v1), (5, .int v3)] [] m0 := by
    intro n5
    induction n5 with
    | zero => intro v3 hF; exact nomatch (show (none : Option Int32) = some rv from hF)
    | succ n5 ih5 =>
      intro v3 hF
      rw [L_X1_standsAhead_11] at hF
      refine r_iload hk 5 (dtX1_standsAhead_0 7 (11, .iload 5, 2) rfl) rfl ?_
      refine r_iload_n hk 3 (dtX1_standsAhead_0 8 (13, .iload_n 3, 1) rfl) rfl ?_
      refine r_icmp_ge hk 48 hF (dtX1_standsAhead_0 9 (14, .if_icmp .ge 34, 3) rfl) (by decide) (fun hF => ?_) (fun hF => ?_)
      · exact r_sub hk [] rfl (e48_2 hF)
      · refine r_aload_n hk 0 (dtX1_standsAhead_0 10 (17, .aload_n 0, 1) rfl) rfl ?_
        refine r_getR hk (k := 1) (fsX1 X i0) cbX1 (by decide) fl_X1_17 (in_st i0 hi0 0 (by decide)) (fun _ => rfl) (fun _ _ => rfl) (dtX1_standsAhead_0 11 (18, .getfield 17, 3) rfl) ?_
        refine r_iload hk 5 (dtX1_standsAhead_0 12 (21, .iload 5, 2) rfl) rfl ?_
        refine r_iald hk (in_st i0 hi0 2 (by decide)) (fun _ => rfl) hF (dtX1_standsAhead_0 13 (23, .iaload, 1) rfl) (fun v6 hF => ?_)
        refine r_iload_n hk 1 (dtX1_standsAhead_0 14 (24, .iload_n 1, 1) rfl) rfl ?_
        have j42_7 : (J_X1_standsAhead_42 v3 (fun w0 => L_X1_standsAhead_11 i0 p1 p2 p3 m0 v1 n5 w0)) = some rv → G X K 42 [(0, .ref (xad X (1, i0, 0, 0))), (1, .int p1), (2, .int p2), (3, .int p3), (4, .int v1), (5, .int v3)] [] m0 := by
          intro hF
          unfold J_X1_standsAhead_42 at hF
          refine r_iinc hk 1 5 (fun v8 => [(5, .int v8), (0, .ref (xad X (1, i0, 0, 0))), (1, .int p1), (2, .int p2), (3, .int p3), (4, .int v1)]) hF (dtX1_standsAhead_0 24 (42, .iinc 5 1, 3) rfl) rfl (by decide) (by decide) (fun _ => rfl) (fun v8 hF => ?_)
          refine r_goto hk 11 (dtX1_standsAhead_0 25 (45, .goto (-34), 3) rfl) (by decide) ?_
          exact r_sub hk [1, 2, 3, 4, 5, 0] rfl (ih5 v8 hF)
        refine r_icmp_ne hk 42 hF (dtX1_standsAhead_0 15 (25, .if_icmp .ne 17, 3) rfl) (by decide) (fun hF => ?_) (fun hF => ?_)
        · exact r_sub hk [0, 1, 2, 3, 4, 5] rfl (j42_7 hF)
        · refine r_aload_n hk 0 (dtX1_standsAhead_0 16 (28, .aload_n 0, 1) rfl) rfl ?_
          refine r_iload hk 5 (dtX1_standsAhead_0 17 (29, .iload 5, 2) rfl) rfl ?_
          refine r_iload_n hk 2 (dtX1_standsAhead_0 18 (31, .iload_n 2, 1) rfl) rfl ?_
          refine r_callI hF (fun v9 h H locs ls hH hS hl => run_V (y := yX1_valueAt) hk (in_st i0 hi0 0 (by decide)) rfl rfl (c_X1_valueAt (kl K) hk.2.2.2.2.2.2.2.2.2.2.2 X i0 hi0 v3 p2 m0 v9 h) lk_X1_40 me_X1_valueAt yf_X1_valueAt (by decide) (by decide) rfl (Nat.le_of_ble_eq_true rfl) rfl (dtX1_standsAhead_0 19 (32, .invokevirtual 40, 3) rfl) hH hS hl) (fun v9 hF => ?_)
          refine r_iload hk 4 (dtX1_standsAhead_0 20 (35, .iload 4, 2) rfl) rfl ?_
          refine r_icmp_ne hk 42 hF (dtX1_standsAhead_0 21 (37, .if_icmp .ne 5, 3) rfl) (by decide) (fun hF => ?_) (fun hF => ?_)
          · exact r_sub hk [0, 1, 2, 3, 4, 5] rfl (j42_7 hF)
          · refine r_iconst (v := 1) hk (dtX1_standsAhead_0 22 (40, .iconst 1, 1) rfl) (by decide) ?_
            obtain ⟨hz, hF⟩ := ck_some hF
            cases Option.some.inj hF
            exact hR _ _ hz (dtX1_standsAhead_0 23 (41, .ireturn, 1) rfl)
  exact r_sub hk [2, 3, 4, 5, 1, 0] rfl (l5 fu 0 hF)
set_option maxHeartbeats 4000000 in
set_option maxRecDepth 100000 in
theorem c_X1_unlikeValues (l : Launch) (hlf : l.stackTraces = false) (X : XW) (i0 : Nat) (hi0 : i0 < 7) (p1 : Int32) (p2 : Int32) (m0 : Mem) (rv : Int32) (hF : F_X1_unlikeValues i0 p1 p2 m0 = some rv) : MX X l yX1_unlikeValues cX1_unlikeValues 5 (some .int) 2 [.ref (xad X (1, i0, 0, 0)), .int p1, .int p2] m0 (QI X rv m0) := by
  refine startI hlf (by decide +kernel) rfl [(0, .ref (xad X (1, i0, 0, 0))), (1, .int p1), (2, .int p2)] rfl (Nat.le_of_ble_eq_true rfl) (fun K hk hR => ?_)
  unfold F_X1_unlikeValues at hF
  refine r_iconst (v := 0) hk (dtX1_unlikeValues_0 0 (0, .iconst 0, 1) rfl) (by decide) ?_
  refine r_istore_n hk [(3, .int 0), (0, .ref (xad X (1, i0, 0, 0))), (1, .int p1), (2, .int p2)] (dtX1_unlikeValues_0 1 (1, .istore_n 3, 1) rfl) (by decide) rfl ?_
  refine r_iconst (v := 0) hk (dtX1_unlikeValues_0 2 (2, .iconst 0, 1) rfl) (by decide) ?_
  refine r_istore hk [(4, .int 0), (3, .int 0), (0, .ref (xad X (1, i0, 0, 0))), (1, .int p1), (2, .int p2)] (dtX1_unlikeValues_0 3 (3, .istore 4, 2) rfl) (by decide) rfl ?_
  have e65_2 : ∀ (v1 : Int32), C_X1_unlikeValues_65 v1 = some rv → G X K 65 [(3, .int v1)] [] m0 := by
    intro v1 hF
    unfold C_X1_unlikeValues_65 at hF
    refine r_iload_n hk 0 (dtX1_unlikeValues_0 35 (65, .iload_n 3, 1) rfl) rfl ?_
    cases Option.some.inj hF
    exact hR _ _ (dtX1_unlikeValues_0 36 (66, .ireturn, 1) rfl)
  have l6 : ∀ (n6 : Nat) (v3 : Int32) (v4 : Int32), L_X1_unlikeValues_5 i0 p1 p2 m0 n6 v3 v4 = some rv → G X K 5 [(0, .ref (xad X (1, i0, 0, 0))), (1, .int p1), (2, .int p2), (3, .int v3), (4, .int v4)] [] m0 := by
    intro n6
    induction n6 with
    | zero => intro v3 v4 hF; exact nomatch (show (none : Option Int32) = some rv from hF)
    | succ n6 ih6 =>
      intro v3 v4 hF
      rw [L_X1_unlikeValues_5] at hF
      refine r_iload hk 4 (dtX1_unlikeValues_0 4 (5, .iload 4, 2) rfl) rfl ?_
      refine r_aload_n hk 0 (dtX1_unlikeValues_0 5 (7, .aload_n 0, 1) rfl) rfl ?_
      refine r_getI hk (k := 3) (fsX1 X i0) cbX1 (by decide) fl_X1_29 (in_st i0 hi0 0 (by decide)) (fun _ => rfl) (fun _ _ => rfl) hF (dtX1_unlikeValues_0 6 (8, .getfield 29, 3) rfl) (fun v7 hF => ?_)
      refine r_icmp_ge hk 65 hF (dtX1_unlikeValues_0 7 (11, .if_icmp .ge 54, 3) rfl) (by decide) (fun hF => ?_) (fun hF => ?_)
      · exact r_sub hk [3] rfl (e65_2 v3 hF)
      · refine r_aload_n hk 0 (dtX1_unlikeValues_0 8 (14, .aload_n 0, 1) rfl) rfl ?_
        refine r_getR hk (k := 1) (fsX1 X i0) cbX1 (by decide) fl_X1_17 (in_st i0 hi0 0 (by decide)) (fun _ => rfl) (fun _ _ => rfl) (dtX1_unlikeValues_0 9 (15, .getfield 17, 3) rfl) ?_
        refine r_iload hk 4 (dtX1_unlikeValues_0 10 (18, .iload 4, 2) rfl) rfl ?_
        refine r_iald hk (in_st i0 hi0 2 (by decide)) (fun _ => rfl) hF (dtX1_unlikeValues_0 11 (20, .iaload, 1) rfl) (fun v8 hF => ?_)
        refine r_iload_n hk 1 (dtX1_unlikeValues_0 12 (21, .iload_n 1, 1) rfl) rfl ?_
        have j59_10 : ∀ (v9 : Int32), (J_X1_unlikeValues_59 v4 (fun w0 w1 => L_X1_unlikeValues_5 i0 p1 p2 m0 n6 w0 w1)) v9 = some rv → G X K 59 [(0, .ref (xad X (1, i0, 0, 0))), (1, .int p1), (2, .int p2), (3, .int v9), (4, .int v4)] [] m0 := by
          intro v9 hF
          unfold J_X1_unlikeValues_59 at hF
          refine r_iinc hk 1 4 (fun v11 => [(4, .int v11), (0, .ref (xad X (1, i0, 0, 0))), (1, .int p1), (2, .int p2), (3, .int v9)]) hF (dtX1_unlikeValues_0 33 (59, .iinc 4 1, 3) rfl) rfl (by decide) (by decide) (fun _ => rfl) (fun v11 hF => ?_)
          refine r_goto hk 5 (dtX1_unlikeValues_0 34 (62, .goto (-57), 3) rfl) (by decide) ?_
          exact r_sub hk [1, 2, 3, 4, 0] rfl (ih6 v9 v11 hF)
        refine r_icmp_ne hk 59 hF (dtX1_unlikeValues_0 13 (22, .if_icmp .ne 37, 3) rfl) (by decide) (fun hF => ?_) (fun hF => ?_)
        · exact r_sub hk [0, 1, 2, 3, 4] rfl (j59_10 v3 hF)
        · refine r_aload_n hk 0 (dtX1_unlikeValues_0 14 (25, .aload_n 0, 1) rfl) rfl ?_
          refine r_iload hk 4 (dtX1_unlikeValues_0 15 (26, .iload 4, 2) rfl) rfl ?_
          refine r_iload_n hk 2 (dtX1_unlikeValues_0 16 (28, .iload_n 2, 1) rfl) rfl ?_
          refine r_callI hF (fun v12 h H locs ls hH hS hl => run_V (y := yX1_valueAt) hk (in_st i0 hi0 0 (by decide)) rfl rfl (c_X1_valueAt (kl K) hk.2.2.2.2.2.2.2.2.2.2.2 X i0 hi0 v4 p2 m0 v12 h) lk_X1_40 me_X1_valueAt yf_X1_valueAt (by decide) (by decide) rfl (Nat.le_of_ble_eq_true rfl) rfl (dtX1_unlikeValues_0 17 (29, .invokevirtual 40, 3) rfl) hH hS hl) (fun v12 hF => ?_)
          refine r_ldc hk cn_X1_39 (dtX1_unlikeValues_0 18 (32, .ldc 39, 2) rfl) ?_
          refine r_icmp_eq hk 59 hF (dtX1_unlikeValues_0 19 (34, .if_icmp .eq 25, 3) rfl) (by decide) (fun hF => ?_) (fun hF => ?_)
          · exact r_sub hk [0, 1, 2, 3, 4] rfl (j59_10 v3 hF)
          · refine r_iload_n hk 3 (dtX1_unlikeValues_0 20 (37, .iload_n 3, 1) rfl) rfl ?_
            refine r_aload_n hk 0 (dtX1_unlikeValues_0 21 (38, .aload_n 0, 1) rfl) rfl ?_
            refine r_iload_n hk 1 (dtX1_unlikeValues_0 22 (39, .iload_n 1, 1) rfl) rfl ?_
            refine r_iload_n hk 2 (dtX1_unlikeValues_0 23 (40, .iload_n 2, 1) rfl) rfl ?_
            refine r_iload hk 4 (dtX1_unlikeValues_0 24 (41, .iload 4, 2) rfl) rfl ?_
            refine r_callI hF (fun v13 h H locs ls hH hS hl => run_V (y := yX1_standsAhead) hk (in_st i0 hi0 0 (by decide)) rfl rfl (c_X1_standsAhead (kl K) hk.2.2.2.2.2.2.2.2.2.2.2 X i0 hi0 p1 p2 v4 m0 v13 h) lk_X1_78 me_X1_standsAhead yf_X1_standsAhead (by decide) (by decide) rfl (Nat.le_of_ble_eq_true rfl) rfl (dtX1_unlikeValues_0 25 (43, .invokevirtual 78, 3) rfl) hH hS hl) (fun v13 hF => ?_)
            have j54_15 : ∀ (v14 : Int32), (J_X1_unlikeValues_54 m0 v3 v4 (fun w0 w1 => L_X1_unlikeValues_5 i0 p1 p2 m0 n6 w0 w1)) v14 = some rv → G X K 54 [(0, .ref (xad X (1, i0, 0, 0))), (1, .int p1), (2, .int p2), (4, .int v4)] [.int v14, .int v3] m0 := by
              intro v14 hF
              unfold J_X1_unlikeValues_54 at hF
              refine r_callI hF (fun v16 h H locs ls hH hS hl => run_SN hk (c_X3_asNumber (kl K) hk.2.2.2.2.2.2.2.2.2.2.2 X  v14 m0 v16 h) lk_X1_64 me_X3_asNumber yf_X3_asNumber (by decide) (by decide) rfl (Nat.le_of_ble_eq_true rfl) rfl (dtX1_unlikeValues_0 30 (54, .invokestatic 64, 3) rfl) hH hS hl) (fun v16 hF => ?_)
              refine r_iadd hk hF (dtX1_unlikeValues_0 31 (57, .iadd, 1) rfl) (fun v17 hF => ?_)
              refine r_istore_n hk [(3, .int v17), (0, .ref (xad X (1, i0, 0, 0))), (1, .int p1), (2, .int p2), (4, .int v4)] (dtX1_unlikeValues_0 32 (58, .istore_n 3, 1) rfl) (by decide) rfl ?_
              exact r_sub hk [1, 2, 3, 0, 4] rfl (j59_10 v17 hF)
            refine r_if_ne hk 53 hF (dtX1_unlikeValues_0 26 (46, .ifCond .ne 7, 3) rfl) (by decide) (fun hF => ?_) (fun hF => ?_)
            · refine r_iconst (v := 0) hk (dtX1_unlikeValues_0 29 (53, .iconst 0, 1) rfl) (by decide) ?_
              exact r_sub hk [0, 1, 2, 4] rfl (j54_15 0 hF)
            · refine r_iconst (v := 1) hk (dtX1_unlikeValues_0 27 (49, .iconst 1, 1) rfl) (by decide) ?_
              refine r_goto hk 54 (dtX1_unlikeValues_0 28 (50, .goto 4, 3) rfl) (by decide) ?_
              exact r_sub hk [0, 1, 2, 4] rfl (j54_15 1 hF)
  exact r_sub hk [2, 3, 4, 1, 0] rfl (l6 fu 0 0 hF)
set_option maxHeartbeats 4000000 in
set_option maxRecDepth 100000 in
theorem c_X3_column (l : Launch) (hlf : l.stackTraces = false) (X : XW)  (p1 : Int32) (p2 : Int32) (p3 : Int32) (m0 : Mem) (rv : Int32 ⊕ Nat) (hF : F_X3_column p1 p2 p3 m0 = some rv) : MT X l yX3_column cX3_column 5 (some .int) 8 [.ref (xad X (0, 0, 0, 0)), .int p1, .int p2, .int p3] m0 rv m0 (QTI X rv m0) := by
  refine startTI hlf (by decide +kernel) rfl [(0, .ref (xad X (0, 0, 0, 0))), (1, .int p1), (2, .int p2), (3, .int p3)] rfl (Nat.le_of_ble_eq_true rfl) (fun K hk hR hX => ?_)
  unfold F_X3_column at hF
  refine r_iload_n hk 1 (dtX3_column_0 0 (0, .iload_n 1, 1) rfl) rfl ?_
  refine r_callI hF (fun v1 h H locs ls hH hS hl => run_S hk (c_X3_isTenant (kl K) hk.2.2.2.2.2.2.2.2.2.2.2 X  p1 m0 v1 h) lk_X3_34 me_X3_isTenant yf_X3_isTenant (by decide) (by decide) rfl (Nat.le_of_ble_eq_true rfl) rfl (dtX3_column_0 1 (1, .invokestatic 34, 3) rfl) hH hS hl) (fun v1 hF => ?_)
  have j31_3 : ∀ (v2 : Int32), (J_X3_column_31 p1 p2 p3 m0) v2 = some rv → G X K 31 [(0, .ref (xad X (0, 0, 0, 0))), (1, .int p1), (2, .int p2), (3, .int p3)] [.int v2] m0 := by
    intro v2 hF
    unfold J_X3_column_31 at hF
    refine r_callVts hk hF (fun c h => by cases Option.some.inj h; exact hX c rfl) (fun R h hf H locs ls hH hS hl => runT_S hk (c_X3_require (kl K) hk.2.2.2.2.2.2.2.2.2.2.2 X  v2 m0 R h) lk_X3_41 me_X3_require yf_X3_require (by decide) (by decide) rfl (Nat.le_of_ble_eq_true rfl) rfl (dtX3_column_0 16 (31, .invokestatic 41, 3) rfl) hf hH hS hl) (fun _ hF => ?_)
    refine r_aload_n hk 0 (dtX3_column_0 17 (34, .aload_n 0, 1) rfl) rfl ?_
    refine r_getS hk fl_X3_30 hF (dtX3_column_0 18 (35, .getfield 30, 3) rfl) (fun q4 hq4 hF => ?_)
    refine r_getR hk (k := 0) (fsX1 X q4) cbX1 (by decide) fl_X3_49 (in_st q4 hq4 0 (by decide)) (fun _ => rfl) (fun _ _ => rfl) (dtX3_column_0 19 (38, .getfield 49, 3) rfl) ?_
    refine r_iload_n hk 1 (dtX3_column_0 20 (41, .iload_n 1, 1) rfl) rfl ?_
    refine r_aldT hk hq4 hF (dtX3_column_0 21 (42, .aaload, 1) rfl) (fun q5 hq5 hF => ?_)
    refine r_astore hk [(4, .ref (xad X (2, q4, q5, 0))), (0, .ref (xad X (0, 0, 0, 0))), (1, .int p1), (2, .int p2), (3, .int p3)] (dtX3_column_0 22 (43, .astore 4, 2) rfl) (by decide) rfl ?_
    refine r_aload hk 0 (dtX3_column_0 23 (45, .aload 4, 2) rfl) rfl ?_
    refine r_getR hk (k := 0) (fsX2 X q4 q5) cbX2 (by decide) fl_X3_86 (in_tn q4 hq4 q5 hq5 0 (by decide)) (fun _ => rfl) (fun _ _ => rfl) (dtX3_column_0 24 (47, .getfield 86, 3) rfl) ?_
    refine r_iload_n hk 3 (dtX3_column_0 25 (50, .iload_n 2, 1) rfl) rfl ?_
    refine r_iald hk (in_tn q4 hq4 q5 hq5 1 (by decide)) (fun _ => rfl) hF (dtX3_column_0 26 (51, .iaload, 1) rfl) (fun v6 hF => ?_)
    refine r_iconst (v := (-1)) hk (dtX3_column_0 27 (52, .iconst (-1), 1) rfl) (by decide) ?_
    refine r_icmp_ne hk 58 hF (dtX3_column_0 28 (53, .if_icmp .ne 5, 3) rfl) (by decide) (fun hF => ?_) (fun hF => ?_)
    · refine r_iload_n hk 4 (dtX3_column_0 31 (58, .iload_n 3, 1) rfl) rfl ?_
      by_cases hs59_0 : p3 = 0
      · rw [if_pos hs59_0] at hF
        refine r_tabIn hk 92 (dtX3_column_0 32 (59, .tableswitch 83 0 4 #[33, 41, 49, 60, 70], 33) rfl) (by rw [hs59_0]; decide) (by rw [hs59_0]; decide) (by rw [hs59_0]; rfl) (by decide) ?_
        refine r_aload hk 0 (dtX3_column_0 33 (92, .aload 4, 2) rfl) rfl ?_
        refine r_getR hk (k := 0) (fsX2 X q4 q5) cbX2 (by decide) fl_X3_86 (in_tn q4 hq4 q5 hq5 0 (by decide)) (fun _ => rfl) (fun _ _ => rfl) (dtX3_column_0 34 (94, .getfield 86, 3) rfl) ?_
        refine r_iload_n hk 3 (dtX3_column_0 35 (97, .iload_n 2, 1) rfl) rfl ?_
        refine r_iald hk (in_tn q4 hq4 q5 hq5 1 (by decide)) (fun _ => rfl) hF (dtX3_column_0 36 (98, .iaload, 1) rfl) (fun v7 hF => ?_)
        cases Option.some.inj hF
        exact hR v7 rfl _ _ (dtX3_column_0 37 (99, .ireturn, 1) rfl)
      · rw [if_neg hs59_0] at hF
        by_cases hs59_1 : p3 = 1
        · rw [if_pos hs59_1] at hF
          refine r_tabIn hk 100 (dtX3_column_0 32 (59, .tableswitch 83 0 4 #[33, 41, 49, 60, 70], 33) rfl) (by rw [hs59_1]; decide) (by rw [hs59_1]; decide) (by rw [hs59_1]; rfl) (by decide) ?_
          refine r_aload hk 0 (dtX3_column_0 38 (100, .aload 4, 2) rfl) rfl ?_
          refine r_getR hk (k := 1) (fsX2 X q4 q5) cbX2 (by decide) fl_X3_89 (in_tn q4 hq4 q5 hq5 0 (by decide)) (fun _ => rfl) (fun _ _ => rfl) (dtX3_column_0 39 (102, .getfield 89, 3) rfl) ?_
          refine r_iload_n hk 3 (dtX3_column_0 40 (105, .iload_n 2, 1) rfl) rfl ?_
          refine r_iald hk (in_tn q4 hq4 q5 hq5 2 (by decide)) (fun _ => rfl) hF (dtX3_column_0 41 (106, .iaload, 1) rfl) (fun v8 hF => ?_)
          cases Option.some.inj hF
          exact hR v8 rfl _ _ (dtX3_column_0 42 (107, .ireturn, 1) rfl)
        · rw [if_neg hs59_1] at hF
          by_cases hs59_2 : p3 = 2
          · rw [if_pos hs59_2] at hF
            refine r_tabIn hk 108 (dtX3_column_0 32 (59, .tableswitch 83 0 4 #[33, 41, 49, 60, 70], 33) rfl) (by rw [hs59_2]; decide) (by rw [hs59_2]; decide) (by rw [hs59_2]; rfl) (by decide) ?_
            refine r_aload hk 0 (dtX3_column_0 43 (108, .aload 4, 2) rfl) rfl ?_
            refine r_getR hk (k := 2) (fsX2 X q4 q5) cbX2 (by decide) fl_X3_92 (in_tn q4 hq4 q5 hq5 0 (by decide)) (fun _ => rfl) (fun _ _ => rfl) (dtX3_column_0 44 (110, .getfield 92, 3) rfl) ?_
            refine r_iload_n hk 3 (dtX3_column_0 45 (113, .iload_n 2, 1) rfl) rfl ?_
            refine r_zald hk (in_tn q4 hq4 q5 hq5 3 (by decide)) (fun _ => rfl) hF (dtX3_column_0 46 (114, .baload, 1) rfl) (fun v9 hF => ?_)
            refine r_callI hF (fun v10 h H locs ls hH hS hl => run_S hk (c_X3_asNumber (kl K) hk.2.2.2.2.2.2.2.2.2.2.2 X  v9 m0 v10 h) lk_X3_96 me_X3_asNumber yf_X3_asNumber (by decide) (by decide) rfl (Nat.le_of_ble_eq_true rfl) rfl (dtX3_column_0 47 (115, .invokestatic 96, 3) rfl) hH hS hl) (fun v10 hF => ?_)
            cases Option.some.inj hF
            exact hR v10 rfl _ _ (dtX3_column_0 48 (118, .ireturn, 1) rfl)
          · rw [if_neg hs59_2] at hF
            by_cases hs59_3 : p3 = 3
            · rw [if_pos hs59_3] at hF
              refine r_tabIn hk 119 (dtX3_column_0 32 (59, .tableswitch 83 0 4 #[33, 41, 49, 60, 70], 33) rfl) (by rw [hs59_3]; decide) (by rw [hs59_3]; decide) (by rw [hs59_3]; rfl) (by decide) ?_
              refine r_aload_n hk 1 (dtX3_column_0 49 (119, .aload_n 0, 1) rfl) rfl ?_
              refine r_getS hk fl_X3_30 hF (dtX3_column_0 50 (120, .getfield 30, 3) rfl) (fun q11 hq11 hF => ?_)
              refine r_iload_n hk 2 (dtX3_column_0 51 (123, .iload_n 1, 1) rfl) rfl ?_
              refine r_iload_n hk 3 (dtX3_column_0 52 (124, .iload_n 2, 1) rfl) rfl ?_
              refine r_callI hF (fun v12 h H locs ls hH hS hl => run_V (y := yX1_rowsWithValue) hk (in_st q11 hq11 0 (by decide)) rfl rfl (c_X1_rowsWithValue (kl K) hk.2.2.2.2.2.2.2.2.2.2.2 X q11 hq11 p1 p2 m0 v12 h) lk_X3_74 me_X1_rowsWithValue yf_X1_rowsWithValue (by decide) (by decide) rfl (Nat.le_of_ble_eq_true rfl) rfl (dtX3_column_0 53 (125, .invokevirtual 74, 3) rfl) hH hS hl) (fun v12 hF => ?_)
              cases Option.some.inj hF
              exact hR v12 rfl _ _ (dtX3_column_0 54 (128, .ireturn, 1) rfl)
            · rw [if_neg hs59_3] at hF
              by_cases hs59_4 : p3 = 4
              · rw [if_pos hs59_4] at hF
                refine r_tabIn hk 129 (dtX3_column_0 32 (59, .tableswitch 83 0 4 #[33, 41, 49, 60, 70], 33) rfl) (by rw [hs59_4]; decide) (by rw [hs59_4]; decide) (by rw [hs59_4]; rfl) (by decide) ?_
                refine r_aload_n hk 1 (dtX3_column_0 55 (129, .aload_n 0, 1) rfl) rfl ?_
                refine r_getS hk fl_X3_30 hF (dtX3_column_0 56 (130, .getfield 30, 3) rfl) (fun q13 hq13 hF => ?_)
                refine r_iload_n hk 2 (dtX3_column_0 57 (133, .iload_n 1, 1) rfl) rfl ?_
                refine r_iload_n hk 3 (dtX3_column_0 58 (134, .iload_n 2, 1) rfl) rfl ?_
                refine r_callI hF (fun v14 h H locs ls hH hS hl => run_V (y := yX1_sumOf) hk (in_st q13 hq13 0 (by decide)) rfl rfl (c_X1_sumOf (kl K) hk.2.2.2.2.2.2.2.2.2.2.2 X q13 hq13 p1 p2 m0 v14 h) lk_X3_187 me_X1_sumOf yf_X1_sumOf (by decide) (by decide) rfl (Nat.le_of_ble_eq_true rfl) rfl (dtX3_column_0 59 (135, .invokevirtual 187, 3) rfl) hH hS hl) (fun v14 hF => ?_)
                refine r_ldc hk cn_X3_190 (dtX3_column_0 60 (138, .ldc 190, 2) rfl) ?_
                refine r_iadd hk hF (dtX3_column_0 61 (140, .iadd, 1) rfl) (fun v15 hF => ?_)
                cases Option.some.inj hF
                exact hR v15 rfl _ _ (dtX3_column_0 62 (141, .ireturn, 1) rfl)
              · rw [if_neg hs59_4] at hF
                refine r_tabOut hk 142 (dtX3_column_0 32 (59, .tableswitch 83 0 4 #[33, 41, 49, 60, 70], 33) rfl) (by have q0 := lv_neT hs59_0 (a := 0) rfl; have q1 := lv_neT hs59_1 (a := 1) rfl; have q2 := lv_neT hs59_2 (a := 2) rfl; have q3 := lv_neT hs59_3 (a := 3) rfl; have q4 := lv_neT hs59_4 (a := 4) rfl; omega) (by decide) ?_
                refine r_aload_n hk 1 (dtX3_column_0 63 (142, .aload_n 0, 1) rfl) rfl ?_
                refine r_getS hk fl_X3_30 hF (dtX3_column_1 0 (143, .getfield 30, 3) rfl) (fun q16 hq16 hF => ?_)
                refine r_iload_n hk 2 (dtX3_column_1 1 (146, .iload_n 1, 1) rfl) rfl ?_
                refine r_iload_n hk 3 (dtX3_column_1 2 (147, .iload_n 2, 1) rfl) rfl ?_
                refine r_callI hF (fun v17 h H locs ls hH hS hl => run_V (y := yX1_unlikeValues) hk (in_st q16 hq16 0 (by decide)) rfl rfl (c_X1_unlikeValues (kl K) hk.2.2.2.2.2.2.2.2.2.2.2 X q16 hq16 p1 p2 m0 v17 h) lk_X3_191 me_X1_unlikeValues yf_X1_unlikeValues (by decide) (by decide) rfl (Nat.le_of_ble_eq_true rfl) rfl (dtX3_column_1 3 (148, .invokevirtual 191, 3) rfl) hH hS hl) (fun v17 hF => ?_)
                cases Option.some.inj hF
                exact hR v17 rfl _ _ (dtX3_column_1 4 (151, .ireturn, 1) rfl)
    · refine r_iconst (v := (-1)) hk (dtX3_column_0 29 (56, .iconst (-1), 1) rfl) (by decide) ?_
      cases Option.some.inj hF
      exact hR (-1) rfl _ _ (dtX3_column_0 30 (57, .ireturn, 1) rfl)
  have j30_18 : (J_X3_column_30 p1 p2 p3 m0) = some rv → G X K 30 [(0, .ref (xad X (0, 0, 0, 0))), (1, .int p1), (2, .int p2), (3, .int p3)] [] m0 := by
    intro hF
    unfold J_X3_column_30 at hF
    refine r_iconst (v := 0) hk (dtX3_column_0 15 (30, .iconst 0, 1) rfl) (by decide) ?_
    exact r_sub hk [0, 1, 2, 3] rfl (j31_3 0 hF)
  refine r_if_eq hk 30 hF (dtX3_column_0 2 (4, .ifCond .eq 26, 3) rfl) (by decide) (fun hF => ?_) (fun hF => ?_)
  · exact r_sub hk [0, 1, 2, 3] rfl (j30_18 hF)
  · refine r_iload_n hk 2 (dtX3_column_0 3 (7, .iload_n 2, 1) rfl) rfl ?_
    refine r_if_lt hk 30 hF (dtX3_column_0 4 (8, .ifCond .lt 22, 3) rfl) (by decide) (fun hF => ?_) (fun hF => ?_)
    · exact r_sub hk [0, 1, 2, 3] rfl (j30_18 hF)
    · refine r_iload_n hk 2 (dtX3_column_0 5 (11, .iload_n 2, 1) rfl) rfl ?_
      refine r_bipush (v := 8) hk (dtX3_column_0 6 (12, .bipush 8, 2) rfl) (by decide) ?_
      refine r_icmp_ge hk 30 hF (dtX3_column_0 7 (14, .if_icmp .ge 16, 3) rfl) (by decide) (fun hF => ?_) (fun hF => ?_)
      · exact r_sub hk [0, 1, 2, 3] rfl (j30_18 hF)
      · refine r_iload_n hk 3 (dtX3_column_0 8 (17, .iload_n 3, 1) rfl) rfl ?_
        refine r_if_lt hk 30 hF (dtX3_column_0 9 (18, .ifCond .lt 12, 3) rfl) (by decide) (fun hF => ?_) (fun hF => ?_)
        · exact r_sub hk [0, 1, 2, 3] rfl (j30_18 hF)
        · refine r_iload_n hk 3 (dtX3_column_0 10 (21, .iload_n 3, 1) rfl) rfl ?_
          refine r_iconst (v := 5) hk (dtX3_column_0 11 (22, .iconst 5, 1) rfl) (by decide) ?_
          refine r_icmp_gt hk 30 hF (dtX3_column_0 12 (23, .if_icmp .gt 7, 3) rfl) (by decide) (fun hF => ?_) (fun hF => ?_)
          · exact r_sub hk [0, 1, 2, 3] rfl (j30_18 hF)
          · refine r_iconst (v := 1) hk (dtX3_column_0 13 (26, .iconst 1, 1) rfl) (by decide) ?_
            refine r_goto hk 31 (dtX3_column_0 14 (27, .goto 4, 3) rfl) (by decide) ?_
            exact r_sub hk [0, 1, 2, 3] rfl (j31_3 1 hF)
