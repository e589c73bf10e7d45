/-! the walks (written by dec.py) -/
set_option maxHeartbeats 4000000 in
set_option maxRecDepth 100000 in
theorem c_X4_ofRow (l : Launch) (hlf : l.stackTraces = false) (X : XW)  (p1 : Int32) (p2 : Int32) (m0 : Mem) (rv : Int32) (hF : F_X4_ofRow p1 p2 m0 = some rv) : MX X l yX4_ofRow cX4_ofRow 4 (some .int) 2 [.ref (xad X (3, 0, 0, 0)), .int p1, .int p2] m0 (QI X rv m0) := by
  refine startI hlf (by decide +kernel) rfl [(0, .ref (xad X (3, 0, 0, 0))), (1, .int p1), (2, .int p2)] rfl (Nat.le_of_ble_eq_true rfl) (fun K hk hR => ?_)
  unfold F_X4_ofRow at hF
  refine r_iload_n hk 2 (dtX4_ofRow_0 0 (0, .iload_n 2, 1) rfl) rfl ?_
  have j10_1 : (J_X4_ofRow_10 p1 p2 m0) = some rv → G X K 10 [(0, .ref (xad X (3, 0, 0, 0))), (1, .int p1), (2, .int p2)] [] m0 := by
    intro hF
    unfold J_X4_ofRow_10 at hF
    refine r_iload_n hk 2 (dtX4_ofRow_0 5 (10, .iload_n 2, 1) rfl) rfl ?_
    have j27_3 : ∀ (v2 : Int32), J_X4_ofRow_27 v2 = some rv → G X K 27 [] [.int v2] m0 := by
      intro v2 hF
      unfold J_X4_ofRow_27 at hF
      cases Option.some.inj hF
      exact hR _ _ (dtX4_ofRow_0 14 (27, .ireturn, 1) rfl)
    refine r_if_ne hk 22 hF (dtX4_ofRow_0 6 (11, .ifCond .ne 11, 3) rfl) (by decide) (fun hF => ?_) (fun hF => ?_)
    · refine r_aload_n hk 0 (dtX4_ofRow_0 11 (22, .aload_n 0, 1) rfl) rfl ?_
      refine r_iload_n hk 1 (dtX4_ofRow_0 12 (23, .iload_n 1, 1) rfl) rfl ?_
      refine r_callI hF (fun v4 h H locs ls hH hS hl => run_V (y := yX4_values) hk (in_mo 0 (by decide)) rfl rfl (c_X4_values (kl K) hk.2.2.2.2.2.2.2.2.2.2.2 X  p1 m0 v4 h) lk_X4_134 me_X4_values yf_X4_values (by decide) (by decide) rfl (Nat.le_of_ble_eq_true rfl) rfl (dtX4_ofRow_0 13 (24, .invokevirtual 134, 3) rfl) hH hS hl) (fun v4 hF => ?_)
      exact r_sub hk [] rfl (j27_3 v4 hF)
    · refine r_aload_n hk 0 (dtX4_ofRow_0 7 (14, .aload_n 0, 1) rfl) rfl ?_
      refine r_iload_n hk 1 (dtX4_ofRow_0 8 (15, .iload_n 1, 1) rfl) rfl ?_
      refine r_callI hF (fun v5 h H locs ls hH hS hl => run_V (y := yX4_tenantOf) hk (in_mo 0 (by decide)) rfl rfl (c_X4_tenantOf (kl K) hk.2.2.2.2.2.2.2.2.2.2.2 X  p1 m0 v5 h) lk_X4_41 me_X4_tenantOf yf_X4_tenantOf (by decide) (by decide) rfl (Nat.le_of_ble_eq_true rfl) rfl (dtX4_ofRow_0 9 (16, .invokevirtual 41, 3) rfl) hH hS hl) (fun v5 hF => ?_)
      refine r_goto hk 27 (dtX4_ofRow_0 10 (19, .goto 8, 3) rfl) (by decide) ?_
      exact r_sub hk [] rfl (j27_3 v5 hF)
  refine r_if_eq hk 10 hF (dtX4_ofRow_0 1 (1, .ifCond .eq 9, 3) rfl) (by decide) (fun hF => ?_) (fun hF => ?_)
  · exact r_sub hk [0, 1, 2] rfl (j10_1 hF)
  · refine r_iload_n hk 2 (dtX4_ofRow_0 2 (4, .iload_n 2, 1) rfl) rfl ?_
    refine r_bipush (v := 9) hk (dtX4_ofRow_0 3 (5, .bipush 9, 2) rfl) (by decide) ?_
    refine r_icmp_ne hk 28 hF (dtX4_ofRow_0 4 (7, .if_icmp .ne 21, 3) rfl) (by decide) (fun hF => ?_) (fun hF => ?_)
    · refine r_aload_n hk 0 (dtX4_ofRow_0 15 (28, .aload_n 0, 1) rfl) rfl ?_
      refine r_iload_n hk 1 (dtX4_ofRow_0 16 (29, .iload_n 1, 1) rfl) rfl ?_
      refine r_iload_n hk 2 (dtX4_ofRow_0 17 (30, .iload_n 2, 1) rfl) rfl ?_
      refine r_iconst (v := 1) hk (dtX4_ofRow_0 18 (31, .iconst 1, 1) rfl) (by decide) ?_
      refine r_isub hk hF (dtX4_ofRow_0 19 (32, .isub, 1) rfl) (fun v6 hF => ?_)
      refine r_callI hF (fun v7 h H locs ls hH hS hl => run_V (y := yX4_valueOf) hk (in_mo 0 (by decide)) rfl rfl (c_X4_valueOf (kl K) hk.2.2.2.2.2.2.2.2.2.2.2 X  p1 v6 m0 v7 h) lk_X4_118 me_X4_valueOf yf_X4_valueOf (by decide) (by decide) rfl (Nat.le_of_ble_eq_true rfl) rfl (dtX4_ofRow_0 20 (33, .invokevirtual 118, 3) rfl) hH hS hl) (fun v7 hF => ?_)
      refine r_istore_n hk [(3, .int v7), (0, .ref (xad X (3, 0, 0, 0))), (1, .int p1), (2, .int p2)] (dtX4_ofRow_0 21 (36, .istore_n 3, 1) rfl) (by decide) rfl ?_
      refine r_iload_n hk 0 (dtX4_ofRow_0 22 (37, .iload_n 3, 1) rfl) rfl ?_
      refine r_ldc hk cn_X4_33 (dtX4_ofRow_0 23 (38, .ldc 33, 2) rfl) ?_
      have j52_9 : ∀ (v8 : Int32), J_X4_ofRow_52 v8 = some rv → G X K 52 [] [.int v8] m0 := by
        intro v8 hF
        unfold J_X4_ofRow_52 at hF
        cases Option.some.inj hF
        exact hR _ _ (dtX4_ofRow_0 30 (52, .ireturn, 1) rfl)
      refine r_icmp_ne hk 47 hF (dtX4_ofRow_0 24 (40, .if_icmp .ne 7, 3) rfl) (by decide) (fun hF => ?_) (fun hF => ?_)
      · refine r_iload_n hk 0 (dtX4_ofRow_0 27 (47, .iload_n 3, 1) rfl) rfl ?_
        refine r_sipush (v := 10000) hk (dtX4_ofRow_0 28 (48, .sipush 10000, 3) rfl) (by decide) ?_
        refine r_iadd hk hF (dtX4_ofRow_0 29 (51, .iadd, 1) rfl) (fun v10 hF => ?_)
        exact r_sub hk [] rfl (j52_9 v10 hF)
      · refine r_iconst (v := (-1)) hk (dtX4_ofRow_0 25 (43, .iconst (-1), 1) rfl) (by decide) ?_
        refine r_goto hk 52 (dtX4_ofRow_0 26 (44, .goto 8, 3) rfl) (by decide) ?_
        exact r_sub hk [] rfl (j52_9 (-1) hF)
    · exact r_sub hk [0, 1, 2] rfl (j10_1 hF)
set_option maxHeartbeats 4000000 in
set_option maxRecDepth 100000 in
theorem c_X4_rowOf (l : Launch) (hlf : l.stackTraces = false) (X : XW)  (p1 : Int32) (p2 : Int32) (m0 : Mem) (rv : Int32) (mE : Mem) (hF : F_X4_rowOf p1 p2 m0 = some (rv, mE)) : MX X l yX4_rowOf cX4_rowOf 3 (some .int) 3 [.ref (xad X (3, 0, 0, 0)), .int p1, .int p2] m0 (QI X rv mE) := by
  refine startI hlf (by decide +kernel) rfl [(0, .ref (xad X (3, 0, 0, 0))), (1, .int p1), (2, .int p2)] rfl (Nat.le_of_ble_eq_true rfl) (fun K hk hR => ?_)
  unfold F_X4_rowOf at hF
  refine r_aload_n hk 0 (dtX4_rowOf_0 0 (0, .aload_n 0, 1) rfl) rfl ?_
  refine r_iconst (v := 0) hk (dtX4_rowOf_0 1 (1, .iconst 0, 1) rfl) (by decide) ?_
  refine r_putI hk (k := 6) (fsX4 X) cbX4 (by decide) fl_X4_25 (in_mo 0 (by decide)) (fun _ => rfl) rfl rfl (fun _ _ _ => rfl) (fun _ _ => (by decide : 6 < 11)) hF (dtX4_rowOf_0 2 (2, .putfield 25, 3) rfl) (fun m1 hF => ?_)
  refine r_aload_n hk 0 (dtX4_rowOf_0 3 (5, .aload_n 0, 1) rfl) rfl ?_
  refine r_iload_n hk 1 (dtX4_rowOf_0 4 (6, .iload_n 1, 1) rfl) rfl ?_
  refine r_callI hF (fun v2 h H locs ls hH hS hl => run_V (y := yX4_isRow) hk (in_mo 0 (by decide)) rfl rfl (c_X4_isRow (kl K) hk.2.2.2.2.2.2.2.2.2.2.2 X  p1 m1 v2 h) lk_X4_81 me_X4_isRow yf_X4_isRow (by decide) (by decide) rfl (Nat.le_of_ble_eq_true rfl) rfl (dtX4_rowOf_0 5 (7, .invokevirtual 81, 3) rfl) hH hS hl) (fun v2 hF => ?_)
  refine r_if_ne hk 19 hF (dtX4_rowOf_0 6 (10, .ifCond .ne 9, 3) rfl) (by decide) (fun hF => ?_) (fun hF => ?_)
  · refine r_iload_n hk 2 (dtX4_rowOf_0 11 (19, .iload_n 2, 1) rfl) rfl ?_
    refine r_iconst (v := 0) hk (dtX4_rowOf_0 12 (20, .iconst 0, 1) rfl) (by decide) ?_
    refine r_bipush (v := 9) hk (dtX4_rowOf_0 13 (21, .bipush 9, 2) rfl) (by decide) ?_
    refine r_callI hF (fun v3 h H locs ls hH hS hl => run_S hk (c_X4_in (kl K) hk.2.2.2.2.2.2.2.2.2.2.2 X  p2 0 9 m1 v3 h) lk_X4_29 me_X4_in yf_X4_in (by decide) (by decide) rfl (Nat.le_of_ble_eq_true rfl) rfl (dtX4_rowOf_0 14 (23, .invokestatic 29, 3) rfl) hH hS hl) (fun v3 hF => ?_)
    have j43_6 : ∀ (v4 : Int32) (m5 : Mem), J_X4_rowOf_43 v4 m5 = some (rv, mE) → G X K 43 [] [.int v4] m5 := by
      intro v4 m5 hF
      unfold J_X4_rowOf_43 at hF
      cases Option.some.inj hF
      exact hR _ _ (dtX4_rowOf_0 24 (43, .ireturn, 1) rfl)
    refine r_if_eq hk 38 hF (dtX4_rowOf_0 15 (26, .ifCond .eq 12, 3) rfl) (by decide) (fun hF => ?_) (fun hF => ?_)
    · refine r_aload_n hk 0 (dtX4_rowOf_0 21 (38, .aload_n 0, 1) rfl) rfl ?_
      refine r_iconst (v := 2) hk (dtX4_rowOf_0 22 (39, .iconst 2, 1) rfl) (by decide) ?_
      refine r_callIm hF (fun v7 m8 h H locs ls hH hS hl => run_V (y := yX4_fails) hk (in_mo 0 (by decide)) rfl rfl (c_X4_fails (kl K) hk.2.2.2.2.2.2.2.2.2.2.2 X  2 m1 v7 m8 h) lk_X4_37 me_X4_fails yf_X4_fails (by decide) (by decide) rfl (Nat.le_of_ble_eq_true rfl) rfl (dtX4_rowOf_0 23 (40, .invokevirtual 37, 3) rfl) hH hS hl) (fun v7 m8 hF => ?_)
      exact r_sub hk [] rfl (j43_6 v7 m8 hF)
    · refine r_aload_n hk 0 (dtX4_rowOf_0 16 (29, .aload_n 0, 1) rfl) rfl ?_
      refine r_iload_n hk 1 (dtX4_rowOf_0 17 (30, .iload_n 1, 1) rfl) rfl ?_
      refine r_iload_n hk 2 (dtX4_rowOf_0 18 (31, .iload_n 2, 1) rfl) rfl ?_
      refine r_callI hF (fun v9 h H locs ls hH hS hl => run_V (y := yX4_ofRow) hk (in_mo 0 (by decide)) rfl rfl (c_X4_ofRow (kl K) hk.2.2.2.2.2.2.2.2.2.2.2 X  p1 p2 m1 v9 h) lk_X4_137 me_X4_ofRow yf_X4_ofRow (by decide) (by decide) rfl (Nat.le_of_ble_eq_true rfl) rfl (dtX4_rowOf_0 19 (32, .invokevirtual 137, 3) rfl) hH hS hl) (fun v9 hF => ?_)
      refine r_goto hk 43 (dtX4_rowOf_0 20 (35, .goto 8, 3) rfl) (by decide) ?_
      exact r_sub hk [] rfl (j43_6 v9 m1 hF)
  · refine r_aload_n hk 0 (dtX4_rowOf_0 7 (13, .aload_n 0, 1) rfl) rfl ?_
    refine r_iconst (v := 1) hk (dtX4_rowOf_0 8 (14, .iconst 1, 1) rfl) (by decide) ?_
    refine r_callIm hF (fun v10 m11 h H locs ls hH hS hl => run_V (y := yX4_fails) hk (in_mo 0 (by decide)) rfl rfl (c_X4_fails (kl K) hk.2.2.2.2.2.2.2.2.2.2.2 X  1 m1 v10 m11 h) lk_X4_37 me_X4_fails yf_X4_fails (by decide) (by decide) rfl (Nat.le_of_ble_eq_true rfl) rfl (dtX4_rowOf_0 9 (15, .invokevirtual 37, 3) rfl) hH hS hl) (fun v10 m11 hF => ?_)
    cases Option.some.inj hF
    exact hR _ _ (dtX4_rowOf_0 10 (18, .ireturn, 1) rfl)
set_option maxHeartbeats 4000000 in
set_option maxRecDepth 100000 in
theorem c_X4_isFirst (l : Launch) (hlf : l.stackTraces = false) (X : XW)  (p1 : Int32) (p2 : Int32) (m0 : Mem) (rv : Int32) (hF : F_X4_isFirst p1 p2 m0 = some rv) : MX X l yX4_isFirst cX4_isFirst 5 (some .boolean) 1 [.ref (xad X (3, 0, 0, 0)), .int p1, .int p2] m0 (QI X rv m0) := by
  refine startZ hlf (by decide +kernel) rfl [(0, .ref (xad X (3, 0, 0, 0))), (1, .int p1), (2, .int p2)] rfl (Nat.le_of_ble_eq_true rfl) (fun K hk hR => ?_)
  unfold F_X4_isFirst at hF
  refine r_aload_n hk 0 (dtX4_isFirst_0 0 (0, .aload_n 0, 1) rfl) rfl ?_
  refine r_iload_n hk 1 (dtX4_isFirst_0 1 (1, .iload_n 1, 1) rfl) rfl ?_
  refine r_iload_n hk 2 (dtX4_isFirst_0 2 (2, .iload_n 2, 1) rfl) rfl ?_
  refine r_callI hF (fun v1 h H locs ls hH hS hl => run_V (y := yX4_valueOf) hk (in_mo 0 (by decide)) rfl rfl (c_X4_valueOf (kl K) hk.2.2.2.2.2.2.2.2.2.2.2 X  p1 p2 m0 v1 h) lk_X4_118 me_X4_valueOf yf_X4_valueOf (by decide) (by decide) rfl (Nat.le_of_ble_eq_true rfl) rfl (dtX4_isFirst_0 3 (3, .invokevirtual 118, 3) rfl) hH hS hl) (fun v1 hF => ?_)
  refine r_ldc hk cn_X4_33 (dtX4_isFirst_0 4 (6, .ldc 33, 2) rfl) ?_
  have j16_3 : ∀ (v2 : Int32), (J_X4_isFirst_16 p1 p2 m0) v2 = some rv → G X K 16 [(0, .ref (xad X (3, 0, 0, 0))), (1, .int p1), (2, .int p2)] [.int v2] m0 := by
    intro v2 hF
    unfold J_X4_isFirst_16 at hF
    refine r_istore_n hk [(3, .int v2), (0, .ref (xad X (3, 0, 0, 0))), (1, .int p1), (2, .int p2)] (dtX4_isFirst_0 9 (16, .istore_n 3, 1) rfl) (by decide) rfl ?_
    refine r_iconst (v := 0) hk (dtX4_isFirst_0 10 (17, .iconst 0, 1) rfl) (by decide) ?_
    refine r_istore hk [(4, .int 0), (3, .int v2), (0, .ref (xad X (3, 0, 0, 0))), (1, .int p1), (2, .int p2)] (dtX4_isFirst_0 11 (18, .istore 4, 2) rfl) (by decide) rfl ?_
    have e72_5 : ∀ (v4 : Int32), C_X4_isFirst_72 v4 = some rv → G X K 72 [(3, .int v4)] [] m0 := by
      intro v4 hF
      unfold C_X4_isFirst_72 at hF
      refine r_iload_n hk 0 (dtX4_isFirst_0 39 (72, .iload_n 3, 1) rfl) rfl ?_
      obtain ⟨hz, hF⟩ := ck_some hF
      cases Option.some.inj hF
      exact hR _ _ hz (dtX4_isFirst_0 40 (73, .ireturn, 1) rfl)
    have l9 : ∀ (n9 : Nat) (v6 : Int32) (v7 : Int32), L_X4_isFirst_20 p1 p2 m0 n9 v6 v7 = some rv → G X K 20 [(0, .ref (xad X (3, 0, 0, 0))), (1, .int p1), (2, .int p2), (3, .int v6), (4, .int v7)] [] m0 := by
      intro n9
      induction n9 with
      | zero => intro v6 v7 hF; exact nomatch (show (none : Option Int32) = some rv from hF)
      | succ n9 ih9 =>
        intro v6 v7 hF
        rw [L_X4_isFirst_20] at hF
        refine r_iload hk 4 (dtX4_isFirst_0 12 (20, .iload 4, 2) rfl) rfl ?_
        refine r_iload_n hk 1 (dtX4_isFirst_0 13 (22, .iload_n 1, 1) rfl) rfl ?_
        refine r_icmp_ge hk 72 hF (dtX4_isFirst_0 14 (23, .if_icmp .ge 49, 3) rfl) (by decide) (fun hF => ?_) (fun hF => ?_)
        · exact r_sub hk [3] rfl (e72_5 v6 hF)
        · refine r_iload_n hk 3 (dtX4_isFirst_0 15 (26, .iload_n 3, 1) rfl) rfl ?_
          refine r_if_eq hk 72 hF (dtX4_isFirst_0 16 (27, .ifCond .eq 45, 3) rfl) (by decide) (fun hF => ?_) (fun hF => ?_)
          · exact r_sub hk [3] rfl (e72_5 v6 hF)
          · refine r_aload_n hk 0 (dtX4_isFirst_0 17 (30, .aload_n 0, 1) rfl) rfl ?_
            refine r_iload hk 4 (dtX4_isFirst_0 18 (31, .iload 4, 2) rfl) rfl ?_
            refine r_callI hF (fun v10 h H locs ls hH hS hl => run_V (y := yX4_tenantOf) hk (in_mo 0 (by decide)) rfl rfl (c_X4_tenantOf (kl K) hk.2.2.2.2.2.2.2.2.2.2.2 X  v7 m0 v10 h) lk_X4_41 me_X4_tenantOf yf_X4_tenantOf (by decide) (by decide) rfl (Nat.le_of_ble_eq_true rfl) rfl (dtX4_isFirst_0 19 (33, .invokevirtual 41, 3) rfl) hH hS hl) (fun v10 hF => ?_)
            refine r_aload_n hk 0 (dtX4_isFirst_0 20 (36, .aload_n 0, 1) rfl) rfl ?_
            refine r_iload_n hk 1 (dtX4_isFirst_0 21 (37, .iload_n 1, 1) rfl) rfl ?_
            refine r_callI hF (fun v11 h H locs ls hH hS hl => run_V (y := yX4_tenantOf) hk (in_mo 0 (by decide)) rfl rfl (c_X4_tenantOf (kl K) hk.2.2.2.2.2.2.2.2.2.2.2 X  p1 m0 v11 h) lk_X4_41 me_X4_tenantOf yf_X4_tenantOf (by decide) (by decide) rfl (Nat.le_of_ble_eq_true rfl) rfl (dtX4_isFirst_0 22 (38, .invokevirtual 41, 3) rfl) hH hS hl) (fun v11 hF => ?_)
            have j65_13 : ∀ (v12 : Int32), (J_X4_isFirst_65 v7 (fun w0 w1 => L_X4_isFirst_20 p1 p2 m0 n9 w0 w1)) v12 = some rv → G X K 65 [(0, .ref (xad X (3, 0, 0, 0))), (1, .int p1), (2, .int p2), (4, .int v7)] [.int v12] m0 := by
              intro v12 hF
              unfold J_X4_isFirst_65 at hF
              refine r_istore_n hk [(3, .int v12), (0, .ref (xad X (3, 0, 0, 0))), (1, .int p1), (2, .int p2), (4, .int v7)] (dtX4_isFirst_0 36 (65, .istore_n 3, 1) rfl) (by decide) rfl ?_
              refine r_iinc hk 1 4 (fun v14 => [(4, .int v14), (3, .int v12), (0, .ref (xad X (3, 0, 0, 0))), (1, .int p1), (2, .int p2)]) hF (dtX4_isFirst_0 37 (66, .iinc 4 1, 3) rfl) rfl (by decide) (by decide) (fun _ => rfl) (fun v14 hF => ?_)
              refine r_goto hk 20 (dtX4_isFirst_0 38 (69, .goto (-49), 3) rfl) (by decide) ?_
              exact r_sub hk [2, 3, 4, 1, 0] rfl (ih9 v12 v14 hF)
            have j60_15 : (J_X4_isFirst_60 v7 (fun w0 w1 => L_X4_isFirst_20 p1 p2 m0 n9 w0 w1)) = some rv → G X K 60 [(0, .ref (xad X (3, 0, 0, 0))), (1, .int p1), (2, .int p2), (4, .int v7)] [] m0 := by
              intro hF
              unfold J_X4_isFirst_60 at hF
              refine r_iconst (v := 1) hk (dtX4_isFirst_0 33 (60, .iconst 1, 1) rfl) (by decide) ?_
              refine r_goto hk 65 (dtX4_isFirst_0 34 (61, .goto 4, 3) rfl) (by decide) ?_
              exact r_sub hk [0, 1, 2, 3] rfl (j65_13 1 hF)
            refine r_icmp_ne hk 60 hF (dtX4_isFirst_0 23 (41, .if_icmp .ne 19, 3) rfl) (by decide) (fun hF => ?_) (fun hF => ?_)
            · exact r_sub hk [0, 1, 2, 4] rfl (j60_15 hF)
            · refine r_aload_n hk 0 (dtX4_isFirst_0 24 (44, .aload_n 0, 1) rfl) rfl ?_
              refine r_iload hk 4 (dtX4_isFirst_0 25 (45, .iload 4, 2) rfl) rfl ?_
              refine r_iload_n hk 2 (dtX4_isFirst_0 26 (47, .iload_n 2, 1) rfl) rfl ?_
              refine r_callI hF (fun v16 h H locs ls hH hS hl => run_V (y := yX4_valueOf) hk (in_mo 0 (by decide)) rfl rfl (c_X4_valueOf (kl K) hk.2.2.2.2.2.2.2.2.2.2.2 X  v7 p2 m0 v16 h) lk_X4_118 me_X4_valueOf yf_X4_valueOf (by decide) (by decide) rfl (Nat.le_of_ble_eq_true rfl) rfl (dtX4_isFirst_0 27 (48, .invokevirtual 118, 3) rfl) hH hS hl) (fun v16 hF => ?_)
              refine r_aload_n hk 0 (dtX4_isFirst_0 28 (51, .aload_n 0, 1) rfl) rfl ?_
              refine r_iload_n hk 1 (dtX4_isFirst_0 29 (52, .iload_n 1, 1) rfl) rfl ?_
              refine r_iload_n hk 2 (dtX4_isFirst_0 30 (53, .iload_n 2, 1) rfl) rfl ?_
              refine r_callI hF (fun v17 h H locs ls hH hS hl => run_V (y := yX4_valueOf) hk (in_mo 0 (by decide)) rfl rfl (c_X4_valueOf (kl K) hk.2.2.2.2.2.2.2.2.2.2.2 X  p1 p2 m0 v17 h) lk_X4_118 me_X4_valueOf yf_X4_valueOf (by decide) (by decide) rfl (Nat.le_of_ble_eq_true rfl) rfl (dtX4_isFirst_0 31 (54, .invokevirtual 118, 3) rfl) hH hS hl) (fun v17 hF => ?_)
              refine r_icmp_eq hk 64 hF (dtX4_isFirst_0 32 (57, .if_icmp .eq 7, 3) rfl) (by decide) (fun hF => ?_) (fun hF => ?_)
              · refine r_iconst (v := 0) hk (dtX4_isFirst_0 35 (64, .iconst 0, 1) rfl) (by decide) ?_
                exact r_sub hk [0, 1, 2, 4] rfl (j65_13 0 hF)
              · exact r_sub hk [0, 1, 2, 4] rfl (j60_15 hF)
    exact r_sub hk [2, 3, 4, 1, 0] rfl (l9 fu v2 0 hF)
  refine r_icmp_eq hk 15 hF (dtX4_isFirst_0 5 (8, .if_icmp .eq 7, 3) rfl) (by decide) (fun hF => ?_) (fun hF => ?_)
  · refine r_iconst (v := 0) hk (dtX4_isFirst_0 8 (15, .iconst 0, 1) rfl) (by decide) ?_
    exact r_sub hk [0, 1, 2] rfl (j16_3 0 hF)
  · refine r_iconst (v := 1) hk (dtX4_isFirst_0 6 (11, .iconst 1, 1) rfl) (by decide) ?_
    refine r_goto hk 16 (dtX4_isFirst_0 7 (12, .goto 4, 3) rfl) (by decide) ?_
    exact r_sub hk [0, 1, 2] rfl (j16_3 1 hF)
set_option maxHeartbeats 4000000 in
set_option maxRecDepth 100000 in
theorem c_X4_ofColumn (l : Launch) (hlf : l.stackTraces = false) (X : XW)  (p1 : Int32) (p2 : Int32) (p3 : Int32) (m0 : Mem) (rv : Int32) (hF : F_X4_ofColumn p1 p2 p3 m0 = some rv) : MX X l yX4_ofColumn cX4_ofColumn 8 (some .int) 2 [.ref (xad X (3, 0, 0, 0)), .int p1, .int p2, .int p3] m0 (QI X rv m0) := by
  refine startI hlf (by decide +kernel) rfl [(0, .ref (xad X (3, 0, 0, 0))), (1, .int p1), (2, .int p2), (3, .int p3)] rfl (Nat.le_of_ble_eq_true rfl) (fun K hk hR => ?_)
  unfold F_X4_ofColumn at hF
  refine r_bipush (v := 8) hk (dtX4_ofColumn_0 0 (0, .bipush 8, 2) rfl) (by decide) ?_
  refine r_iload_n hk 1 (dtX4_ofColumn_0 1 (2, .iload_n 1, 1) rfl) rfl ?_
  refine r_imul hk hF (dtX4_ofColumn_0 2 (3, .imul, 1) rfl) (fun v1 hF => ?_)
  refine r_iload_n hk 2 (dtX4_ofColumn_0 3 (4, .iload_n 2, 1) rfl) rfl ?_
  refine r_iadd hk hF (dtX4_ofColumn_0 4 (5, .iadd, 1) rfl) (fun v2 hF => ?_)
  refine r_istore hk [(4, .int v2), (0, .ref (xad X (3, 0, 0, 0))), (1, .int p1), (2, .int p2), (3, .int p3)] (dtX4_ofColumn_0 5 (6, .istore 4, 2) rfl) (by decide) rfl ?_
  refine r_aload_n hk 1 (dtX4_ofColumn_0 6 (8, .aload_n 0, 1) rfl) rfl ?_
  refine r_getR hk (k := 0) (fsX4 X) cbX4 (by decide) fl_X4_7 (in_mo 0 (by decide)) (fun _ => rfl) (fun _ _ => rfl) (dtX4_ofColumn_0 7 (9, .getfield 7, 3) rfl) ?_
  refine r_sipush (v := 1081) hk (dtX4_ofColumn_0 8 (12, .sipush 1081, 3) rfl) (by decide) ?_
  refine r_iload hk 0 (dtX4_ofColumn_0 9 (15, .iload 4, 2) rfl) rfl ?_
  refine r_iadd hk hF (dtX4_ofColumn_0 10 (17, .iadd, 1) rfl) (fun v3 hF => ?_)
  refine r_iald hk (in_mo 1 (by decide)) (fun _ => rfl) hF (dtX4_ofColumn_0 11 (18, .iaload, 1) rfl) (fun v4 hF => ?_)
  refine r_iconst (v := (-1)) hk (dtX4_ofColumn_0 12 (19, .iconst (-1), 1) rfl) (by decide) ?_
  refine r_icmp_ne hk 25 hF (dtX4_ofColumn_0 13 (20, .if_icmp .ne 5, 3) rfl) (by decide) (fun hF => ?_) (fun hF => ?_)
  · refine r_iload_n hk 4 (dtX4_ofColumn_0 16 (25, .iload_n 3, 1) rfl) rfl ?_
    refine r_iconst (v := 3) hk (dtX4_ofColumn_0 17 (26, .iconst 3, 1) rfl) (by decide) ?_
    refine r_icmp_ge hk 63 hF (dtX4_ofColumn_0 18 (27, .if_icmp .ge 36, 3) rfl) (by decide) (fun hF => ?_) (fun hF => ?_)
    · refine r_iload_n hk 4 (dtX4_ofColumn_0 35 (63, .iload_n 3, 1) rfl) rfl ?_
      refine r_iconst (v := 4) hk (dtX4_ofColumn_0 36 (64, .iconst 4, 1) rfl) (by decide) ?_
      have j74_6 : ∀ (v5 : Int32), (J_X4_ofColumn_74 p1 p2 p3 m0) v5 = some rv → G X K 74 [(0, .ref (xad X (3, 0, 0, 0))), (1, .int p1), (2, .int p2), (3, .int p3)] [.int v5] m0 := by
        intro v5 hF
        unfold J_X4_ofColumn_74 at hF
        refine r_istore hk [(5, .int v5), (0, .ref (xad X (3, 0, 0, 0))), (1, .int p1), (2, .int p2), (3, .int p3)] (dtX4_ofColumn_0 41 (74, .istore 5, 2) rfl) (by decide) rfl ?_
        refine r_iconst (v := 0) hk (dtX4_ofColumn_0 42 (76, .iconst 0, 1) rfl) (by decide) ?_
        refine r_istore hk [(6, .int 0), (5, .int v5), (0, .ref (xad X (3, 0, 0, 0))), (1, .int p1), (2, .int p2), (3, .int p3)] (dtX4_ofColumn_0 43 (77, .istore 6, 2) rfl) (by decide) rfl ?_
        have e180_8 : ∀ (v7 : Int32), C_X4_ofColumn_180 v7 = some rv → G X K 180 [(5, .int v7)] [] m0 := by
          intro v7 hF
          unfold C_X4_ofColumn_180 at hF
          refine r_iload hk 0 (dtX4_ofColumn_1 31 (180, .iload 5, 2) rfl) rfl ?_
          cases Option.some.inj hF
          exact hR _ _ (dtX4_ofColumn_1 32 (182, .ireturn, 1) rfl)
        have l12 : ∀ (n12 : Nat) (v9 : Int32) (v10 : Int32), L_X4_ofColumn_79 p1 p2 p3 m0 n12 v9 v10 = some rv → G X K 79 [(0, .ref (xad X (3, 0, 0, 0))), (1, .int p1), (2, .int p2), (3, .int p3), (5, .int v9), (6, .int v10)] [] m0 := by
          intro n12
          induction n12 with
          | zero => intro v9 v10 hF; exact nomatch (show (none : Option Int32) = some rv from hF)
          | succ n12 ih12 =>
            intro v9 v10 hF
            rw [L_X4_ofColumn_79] at hF
            refine r_iload hk 5 (dtX4_ofColumn_0 44 (79, .iload 6, 2) rfl) rfl ?_
            refine r_aload_n hk 0 (dtX4_ofColumn_0 45 (81, .aload_n 0, 1) rfl) rfl ?_
            refine r_getR hk (k := 0) (fsX4 X) cbX4 (by decide) fl_X4_7 (in_mo 0 (by decide)) (fun _ => rfl) (fun _ _ => rfl) (dtX4_ofColumn_0 46 (82, .getfield 7, 3) rfl) ?_
            refine r_sipush (v := 1080) hk (dtX4_ofColumn_0 47 (85, .sipush 1080, 3) rfl) (by decide) ?_
            refine r_iald hk (in_mo 1 (by decide)) (fun _ => rfl) hF (dtX4_ofColumn_0 48 (88, .iaload, 1) rfl) (fun v13 hF => ?_)
            refine r_icmp_ge hk 180 hF (dtX4_ofColumn_0 49 (89, .if_icmp .ge 91, 3) rfl) (by decide) (fun hF => ?_) (fun hF => ?_)
            · exact r_sub hk [4] rfl (e180_8 v9 hF)
            · refine r_aload_n hk 0 (dtX4_ofColumn_0 50 (92, .aload_n 0, 1) rfl) rfl ?_
              refine r_iload hk 5 (dtX4_ofColumn_0 51 (93, .iload 6, 2) rfl) rfl ?_
              refine r_callI hF (fun v14 h H locs ls hH hS hl => run_V (y := yX4_tenantOf) hk (in_mo 0 (by decide)) rfl rfl (c_X4_tenantOf (kl K) hk.2.2.2.2.2.2.2.2.2.2.2 X  v10 m0 v14 h) lk_X4_41 me_X4_tenantOf yf_X4_tenantOf (by decide) (by decide) rfl (Nat.le_of_ble_eq_true rfl) rfl (dtX4_ofColumn_0 52 (95, .invokevirtual 41, 3) rfl) hH hS hl) (fun v14 hF => ?_)
              refine r_iload_n hk 1 (dtX4_ofColumn_0 53 (98, .iload_n 1, 1) rfl) rfl ?_
              have j119_16 : ∀ (v15 : Int32), (J_X4_ofColumn_119 p2 p3 m0 v9 v10 (fun w0 w1 => L_X4_ofColumn_79 p1 p2 p3 m0 n12 w0 w1)) v15 = some rv → G X K 119 [(0, .ref (xad X (3, 0, 0, 0))), (1, .int p1), (2, .int p2), (3, .int p3), (5, .int v9), (6, .int v10)] [.int v15] m0 := by
                intro v15 hF
                unfold J_X4_ofColumn_119 at hF
                refine r_istore hk [(7, .int v15), (0, .ref (xad X (3, 0, 0, 0))), (1, .int p1), (2, .int p2), (3, .int p3), (5, .int v9), (6, .int v10)] (dtX4_ofColumn_1 0 (119, .istore 7, 2) rfl) (by decide) rfl ?_
                refine r_iload hk 5 (dtX4_ofColumn_1 1 (121, .iload 5, 2) rfl) rfl ?_
                refine r_iload hk 0 (dtX4_ofColumn_1 2 (123, .iload 7, 2) rfl) rfl ?_
                have j171_18 : ∀ (v17 : Int32), (J_X4_ofColumn_171 v9 v10 (fun w0 w1 => L_X4_ofColumn_79 p1 p2 p3 m0 n12 w0 w1)) v17 = some rv → G X K 171 [(0, .ref (xad X (3, 0, 0, 0))), (1, .int p1), (2, .int p2), (3, .int p3), (6, .int v10)] [.int v17, .int v9] m0 := by
                  intro v17 hF
                  unfold J_X4_ofColumn_171 at hF
                  refine r_iadd hk hF (dtX4_ofColumn_1 27 (171, .iadd, 1) rfl) (fun v19 hF => ?_)
                  refine r_istore hk [(5, .int v19), (0, .ref (xad X (3, 0, 0, 0))), (1, .int p1), (2, .int p2), (3, .int p3), (6, .int v10)] (dtX4_ofColumn_1 28 (172, .istore 5, 2) rfl) (by decide) rfl ?_
                  refine r_iinc hk 1 5 (fun v20 => [(6, .int v20), (5, .int v19), (0, .ref (xad X (3, 0, 0, 0))), (1, .int p1), (2, .int p2), (3, .int p3)]) hF (dtX4_ofColumn_1 29 (174, .iinc 6 1, 3) rfl) rfl (by decide) (by decide) (fun _ => rfl) (fun v20 hF => ?_)
                  refine r_goto hk 79 (dtX4_ofColumn_1 30 (177, .goto (-98), 3) rfl) (by decide) ?_
                  exact r_sub hk [2, 3, 4, 5, 1, 0] rfl (ih12 v19 v20 hF)
                refine r_if_ne hk 132 hF (dtX4_ofColumn_1 3 (125, .ifCond .ne 7, 3) rfl) (by decide) (fun hF => ?_) (fun hF => ?_)
                · refine r_iload_n hk 4 (dtX4_ofColumn_1 6 (132, .iload_n 3, 1) rfl) rfl ?_
                  refine r_iconst (v := 3) hk (dtX4_ofColumn_1 7 (133, .iconst 3, 1) rfl) (by decide) ?_
                  refine r_icmp_ne hk 141 hF (dtX4_ofColumn_1 8 (134, .if_icmp .ne 7, 3) rfl) (by decide) (fun hF => ?_) (fun hF => ?_)
                  · refine r_iload_n hk 4 (dtX4_ofColumn_1 11 (141, .iload_n 3, 1) rfl) rfl ?_
                    refine r_iconst (v := 4) hk (dtX4_ofColumn_1 12 (142, .iconst 4, 1) rfl) (by decide) ?_
                    refine r_icmp_ne hk 156 hF (dtX4_ofColumn_1 13 (143, .if_icmp .ne 13, 3) rfl) (by decide) (fun hF => ?_) (fun hF => ?_)
                    · refine r_aload_n hk 1 (dtX4_ofColumn_1 19 (156, .aload_n 0, 1) rfl) rfl ?_
                      refine r_iload hk 6 (dtX4_ofColumn_1 20 (157, .iload 6, 2) rfl) rfl ?_
                      refine r_iload_n hk 3 (dtX4_ofColumn_1 21 (159, .iload_n 2, 1) rfl) rfl ?_
                      refine r_callI hF (fun v21 h H locs ls hH hS hl => run_V (y := yX4_isFirst) hk (in_mo 0 (by decide)) rfl rfl (c_X4_isFirst (kl K) hk.2.2.2.2.2.2.2.2.2.2.2 X  v10 p2 m0 v21 h) lk_X4_141 me_X4_isFirst yf_X4_isFirst (by decide) (by decide) rfl (Nat.le_of_ble_eq_true rfl) rfl (dtX4_ofColumn_1 22 (160, .invokevirtual 141, 3) rfl) hH hS hl) (fun v21 hF => ?_)
                      refine r_if_eq hk 170 hF (dtX4_ofColumn_1 23 (163, .ifCond .eq 7, 3) rfl) (by decide) (fun hF => ?_) (fun hF => ?_)
                      · refine r_iconst (v := 0) hk (dtX4_ofColumn_1 26 (170, .iconst 0, 1) rfl) (by decide) ?_
                        exact r_sub hk [1, 2, 3, 4, 6] rfl (j171_18 0 hF)
                      · refine r_iconst (v := 1) hk (dtX4_ofColumn_1 24 (166, .iconst 1, 1) rfl) (by decide) ?_
                        refine r_goto hk 171 (dtX4_ofColumn_1 25 (167, .goto 4, 3) rfl) (by decide) ?_
                        exact r_sub hk [1, 2, 3, 4, 6] rfl (j171_18 1 hF)
                    · refine r_aload_n hk 1 (dtX4_ofColumn_1 14 (146, .aload_n 0, 1) rfl) rfl ?_
                      refine r_iload hk 6 (dtX4_ofColumn_1 15 (147, .iload 6, 2) rfl) rfl ?_
                      refine r_iload_n hk 3 (dtX4_ofColumn_1 16 (149, .iload_n 2, 1) rfl) rfl ?_
                      refine r_callI hF (fun v22 h H locs ls hH hS hl => run_V (y := yX4_valueOf) hk (in_mo 0 (by decide)) rfl rfl (c_X4_valueOf (kl K) hk.2.2.2.2.2.2.2.2.2.2.2 X  v10 p2 m0 v22 h) lk_X4_118 me_X4_valueOf yf_X4_valueOf (by decide) (by decide) rfl (Nat.le_of_ble_eq_true rfl) rfl (dtX4_ofColumn_1 17 (150, .invokevirtual 118, 3) rfl) hH hS hl) (fun v22 hF => ?_)
                      refine r_goto hk 171 (dtX4_ofColumn_1 18 (153, .goto 18, 3) rfl) (by decide) ?_
                      exact r_sub hk [1, 2, 3, 4, 6] rfl (j171_18 v22 hF)
                  · refine r_iconst (v := 1) hk (dtX4_ofColumn_1 9 (137, .iconst 1, 1) rfl) (by decide) ?_
                    refine r_goto hk 171 (dtX4_ofColumn_1 10 (138, .goto 33, 3) rfl) (by decide) ?_
                    exact r_sub hk [1, 2, 3, 4, 6] rfl (j171_18 1 hF)
                · refine r_iconst (v := 0) hk (dtX4_ofColumn_1 4 (128, .iconst 0, 1) rfl) (by decide) ?_
                  refine r_goto hk 171 (dtX4_ofColumn_1 5 (129, .goto 42, 3) rfl) (by decide) ?_
                  exact r_sub hk [1, 2, 3, 4, 6] rfl (j171_18 0 hF)
              have j118_23 : (J_X4_ofColumn_118 p2 p3 m0 v9 v10 (fun w0 w1 => L_X4_ofColumn_79 p1 p2 p3 m0 n12 w0 w1)) = some rv → G X K 118 [(0, .ref (xad X (3, 0, 0, 0))), (1, .int p1), (2, .int p2), (3, .int p3), (5, .int v9), (6, .int v10)] [] m0 := by
                intro hF
                unfold J_X4_ofColumn_118 at hF
                refine r_iconst (v := 0) hk (dtX4_ofColumn_0 63 (118, .iconst 0, 1) rfl) (by decide) ?_
                exact r_sub hk [0, 1, 2, 3, 4, 5] rfl (j119_16 0 hF)
              refine r_icmp_ne hk 118 hF (dtX4_ofColumn_0 54 (99, .if_icmp .ne 19, 3) rfl) (by decide) (fun hF => ?_) (fun hF => ?_)
              · exact r_sub hk [0, 1, 2, 3, 4, 5] rfl (j118_23 hF)
              · refine r_aload_n hk 0 (dtX4_ofColumn_0 55 (102, .aload_n 0, 1) rfl) rfl ?_
                refine r_iload hk 5 (dtX4_ofColumn_0 56 (103, .iload 6, 2) rfl) rfl ?_
                refine r_iload_n hk 2 (dtX4_ofColumn_0 57 (105, .iload_n 2, 1) rfl) rfl ?_
                refine r_callI hF (fun v24 h H locs ls hH hS hl => run_V (y := yX4_valueOf) hk (in_mo 0 (by decide)) rfl rfl (c_X4_valueOf (kl K) hk.2.2.2.2.2.2.2.2.2.2.2 X  v10 p2 m0 v24 h) lk_X4_118 me_X4_valueOf yf_X4_valueOf (by decide) (by decide) rfl (Nat.le_of_ble_eq_true rfl) rfl (dtX4_ofColumn_0 58 (106, .invokevirtual 118, 3) rfl) hH hS hl) (fun v24 hF => ?_)
                refine r_ldc hk cn_X4_33 (dtX4_ofColumn_0 59 (109, .ldc 33, 2) rfl) ?_
                refine r_icmp_eq hk 118 hF (dtX4_ofColumn_0 60 (111, .if_icmp .eq 7, 3) rfl) (by decide) (fun hF => ?_) (fun hF => ?_)
                · exact r_sub hk [0, 1, 2, 3, 4, 5] rfl (j118_23 hF)
                · refine r_iconst (v := 1) hk (dtX4_ofColumn_0 61 (114, .iconst 1, 1) rfl) (by decide) ?_
                  refine r_goto hk 119 (dtX4_ofColumn_0 62 (115, .goto 4, 3) rfl) (by decide) ?_
                  exact r_sub hk [0, 1, 2, 3, 4, 5] rfl (j119_16 1 hF)
        exact r_sub hk [2, 3, 4, 5, 1, 0] rfl (l12 fu v5 0 hF)
      refine r_icmp_ne hk 73 hF (dtX4_ofColumn_0 37 (65, .if_icmp .ne 8, 3) rfl) (by decide) (fun hF => ?_) (fun hF => ?_)
      · refine r_iconst (v := 0) hk (dtX4_ofColumn_0 40 (73, .iconst 0, 1) rfl) (by decide) ?_
        exact r_sub hk [1, 2, 3, 4] rfl (j74_6 0 hF)
      · refine r_ldc hk cn_X4_140 (dtX4_ofColumn_0 38 (68, .ldc 140, 2) rfl) ?_
        refine r_goto hk 74 (dtX4_ofColumn_0 39 (70, .goto 4, 3) rfl) (by decide) ?_
        exact r_sub hk [1, 2, 3, 4] rfl (j74_6 1000000 hF)
    · refine r_aload_n hk 1 (dtX4_ofColumn_0 19 (30, .aload_n 0, 1) rfl) rfl ?_
      refine r_getR hk (k := 0) (fsX4 X) cbX4 (by decide) fl_X4_7 (in_mo 0 (by decide)) (fun _ => rfl) (fun _ _ => rfl) (dtX4_ofColumn_0 20 (31, .getfield 7, 3) rfl) ?_
      refine r_iload_n hk 4 (dtX4_ofColumn_0 21 (34, .iload_n 3, 1) rfl) rfl ?_
      have j58_26 : ∀ (v25 : Int32), (J_X4_ofColumn_58 m0 v2) v25 = some rv → G X K 58 [(4, .int v2)] [.int v25, .ref (xad X (3, 0, 0, 1))] m0 := by
        intro v25 hF
        unfold J_X4_ofColumn_58 at hF
        refine r_iload hk 0 (dtX4_ofColumn_0 31 (58, .iload 4, 2) rfl) rfl ?_
        refine r_iadd hk hF (dtX4_ofColumn_0 32 (60, .iadd, 1) rfl) (fun v27 hF => ?_)
        refine r_iald hk (in_mo 1 (by decide)) (fun _ => rfl) hF (dtX4_ofColumn_0 33 (61, .iaload, 1) rfl) (fun v28 hF => ?_)
        cases Option.some.inj hF
        exact hR _ _ (dtX4_ofColumn_0 34 (62, .ireturn, 1) rfl)
      refine r_if_ne hk 44 hF (dtX4_ofColumn_0 22 (35, .ifCond .ne 9, 3) rfl) (by decide) (fun hF => ?_) (fun hF => ?_)
      · refine r_iload_n hk 4 (dtX4_ofColumn_0 25 (44, .iload_n 3, 1) rfl) rfl ?_
        refine r_iconst (v := 1) hk (dtX4_ofColumn_0 26 (45, .iconst 1, 1) rfl) (by decide) ?_
        refine r_icmp_ne hk 55 hF (dtX4_ofColumn_0 27 (46, .if_icmp .ne 9, 3) rfl) (by decide) (fun hF => ?_) (fun hF => ?_)
        · refine r_sipush (v := 1129) hk (dtX4_ofColumn_0 30 (55, .sipush 1129, 3) rfl) (by decide) ?_
          exact r_sub hk [0] rfl (j58_26 1129 hF)
        · refine r_sipush (v := 1105) hk (dtX4_ofColumn_0 28 (49, .sipush 1105, 3) rfl) (by decide) ?_
          refine r_goto hk 58 (dtX4_ofColumn_0 29 (52, .goto 6, 3) rfl) (by decide) ?_
          exact r_sub hk [0] rfl (j58_26 1105 hF)
      · refine r_sipush (v := 1081) hk (dtX4_ofColumn_0 23 (38, .sipush 1081, 3) rfl) (by decide) ?_
        refine r_goto hk 58 (dtX4_ofColumn_0 24 (41, .goto 17, 3) rfl) (by decide) ?_
        exact r_sub hk [0] rfl (j58_26 1081 hF)
  · refine r_iconst (v := (-1)) hk (dtX4_ofColumn_0 14 (23, .iconst (-1), 1) rfl) (by decide) ?_
    cases Option.some.inj hF
    exact hR _ _ (dtX4_ofColumn_0 15 (24, .ireturn, 1) rfl)
set_option maxHeartbeats 4000000 in
set_option maxRecDepth 100000 in
theorem c_X4_column (l : Launch) (hlf : l.stackTraces = false) (X : XW)  (p1 : Int32) (p2 : Int32) (p3 : Int32) (m0 : Mem) (rv : Int32) (mE : Mem) (hF : F_X4_column p1 p2 p3 m0 = some (rv, mE)) : MX X l yX4_column cX4_column 4 (some .int) 3 [.ref (xad X (3, 0, 0, 0)), .int p1, .int p2, .int p3] m0 (QI X rv mE) := by
  refine startI hlf (by decide +kernel) rfl [(0, .ref (xad X (3, 0, 0, 0))), (1, .int p1), (2, .int p2), (3, .int p3)] rfl (Nat.le_of_ble_eq_true rfl) (fun K hk hR => ?_)
  unfold F_X4_column at hF
  refine r_aload_n hk 0 (dtX4_column_0 0 (0, .aload_n 0, 1) rfl) rfl ?_
  refine r_iconst (v := 0) hk (dtX4_column_0 1 (1, .iconst 0, 1) rfl) (by decide) ?_
  refine r_putI hk (k := 6) (fsX4 X) cbX4 (by decide) fl_X4_25 (in_mo 0 (by decide)) (fun _ => rfl) rfl rfl (fun _ _ _ => rfl) (fun _ _ => (by decide : 6 < 11)) hF (dtX4_column_0 2 (2, .putfield 25, 3) rfl) (fun m1 hF => ?_)
  refine r_iload_n hk 1 (dtX4_column_0 3 (5, .iload_n 1, 1) rfl) rfl ?_
  refine r_callI hF (fun v2 h H locs ls hH hS hl => run_S hk (c_X4_isTenant (kl K) hk.2.2.2.2.2.2.2.2.2.2.2 X  p1 m1 v2 h) lk_X4_47 me_X4_isTenant yf_X4_isTenant (by decide) (by decide) rfl (Nat.le_of_ble_eq_true rfl) rfl (dtX4_column_0 4 (6, .invokestatic 47, 3) rfl) hH hS hl) (fun v2 hF => ?_)
  have j43_5 : ∀ (v3 : Int32) (m4 : Mem), J_X4_column_43 v3 m4 = some (rv, mE) → G X K 43 [] [.int v3] m4 := by
    intro v3 m4 hF
    unfold J_X4_column_43 at hF
    cases Option.some.inj hF
    exact hR _ _ (dtX4_column_0 23 (43, .ireturn, 1) rfl)
  have j38_6 : (J_X4_column_38 m1) = some (rv, mE) → G X K 38 [(0, .ref (xad X (3, 0, 0, 0)))] [] m1 := by
    intro hF
    unfold J_X4_column_38 at hF
    refine r_aload_n hk 0 (dtX4_column_0 20 (38, .aload_n 0, 1) rfl) rfl ?_
    refine r_iconst (v := 1) hk (dtX4_column_0 21 (39, .iconst 1, 1) rfl) (by decide) ?_
    refine r_callIm hF (fun v7 m8 h H locs ls hH hS hl => run_V (y := yX4_fails) hk (in_mo 0 (by decide)) rfl rfl (c_X4_fails (kl K) hk.2.2.2.2.2.2.2.2.2.2.2 X  1 m1 v7 m8 h) lk_X4_37 me_X4_fails yf_X4_fails (by decide) (by decide) rfl (Nat.le_of_ble_eq_true rfl) rfl (dtX4_column_0 22 (40, .invokevirtual 37, 3) rfl) hH hS hl) (fun v7 m8 hF => ?_)
    exact r_sub hk [] rfl (j43_5 v7 m8 hF)
  refine r_if_eq hk 38 hF (dtX4_column_0 5 (9, .ifCond .eq 29, 3) rfl) (by decide) (fun hF => ?_) (fun hF => ?_)
  · exact r_sub hk [0] rfl (j38_6 hF)
  · refine r_iload_n hk 2 (dtX4_column_0 6 (12, .iload_n 2, 1) rfl) rfl ?_
    refine r_callI hF (fun v9 h H locs ls hH hS hl => run_S hk (c_X4_isLetter (kl K) hk.2.2.2.2.2.2.2.2.2.2.2 X  p2 m1 v9 h) lk_X4_51 me_X4_isLetter yf_X4_isLetter (by decide) (by decide) rfl (Nat.le_of_ble_eq_true rfl) rfl (dtX4_column_0 7 (13, .invokestatic 51, 3) rfl) hH hS hl) (fun v9 hF => ?_)
    refine r_if_eq hk 38 hF (dtX4_column_0 8 (16, .ifCond .eq 22, 3) rfl) (by decide) (fun hF => ?_) (fun hF => ?_)
    · exact r_sub hk [0] rfl (j38_6 hF)
    · refine r_iload_n hk 3 (dtX4_column_0 9 (19, .iload_n 3, 1) rfl) rfl ?_
      refine r_iconst (v := 0) hk (dtX4_column_0 10 (20, .iconst 0, 1) rfl) (by decide) ?_
      refine r_iconst (v := 5) hk (dtX4_column_0 11 (21, .iconst 5, 1) rfl) (by decide) ?_
      refine r_callI hF (fun v10 h H locs ls hH hS hl => run_S hk (c_X4_in (kl K) hk.2.2.2.2.2.2.2.2.2.2.2 X  p3 0 5 m1 v10 h) lk_X4_29 me_X4_in yf_X4_in (by decide) (by decide) rfl (Nat.le_of_ble_eq_true rfl) rfl (dtX4_column_0 12 (22, .invokestatic 29, 3) rfl) hH hS hl) (fun v10 hF => ?_)
      refine r_if_eq hk 38 hF (dtX4_column_0 13 (25, .ifCond .eq 13, 3) rfl) (by decide) (fun hF => ?_) (fun hF => ?_)
      · exact r_sub hk [0] rfl (j38_6 hF)
      · refine r_aload_n hk 0 (dtX4_column_0 14 (28, .aload_n 0, 1) rfl) rfl ?_
        refine r_iload_n hk 1 (dtX4_column_0 15 (29, .iload_n 1, 1) rfl) rfl ?_
        refine r_iload_n hk 2 (dtX4_column_0 16 (30, .iload_n 2, 1) rfl) rfl ?_
        refine r_iload_n hk 3 (dtX4_column_0 17 (31, .iload_n 3, 1) rfl) rfl ?_
        refine r_callI hF (fun v11 h H locs ls hH hS hl => run_V (y := yX4_ofColumn) hk (in_mo 0 (by decide)) rfl rfl (c_X4_ofColumn (kl K) hk.2.2.2.2.2.2.2.2.2.2.2 X  p1 p2 p3 m1 v11 h) lk_X4_144 me_X4_ofColumn yf_X4_ofColumn (by decide) (by decide) rfl (Nat.le_of_ble_eq_true rfl) rfl (dtX4_column_0 18 (32, .invokevirtual 144, 3) rfl) hH hS hl) (fun v11 hF => ?_)
        refine r_goto hk 43 (dtX4_column_0 19 (35, .goto 8, 3) rfl) (by decide) ?_
        exact r_sub hk [] rfl (j43_5 v11 m1 hF)
set_option maxHeartbeats 4000000 in
set_option maxRecDepth 100000 in
theorem c_X4_ofTenant (l : Launch) (hlf : l.stackTraces = false) (X : XW)  (p1 : Int32) (p2 : Int32) (m0 : Mem) (rv : Int32) (hF : F_X4_ofTenant p1 p2 m0 = some rv) : MX X l yX4_ofTenant cX4_ofTenant 3 (some .int) 2 [.ref (xad X (3, 0, 0, 0)), .int p1, .int p2] m0 (QI X rv m0) := by
  refine startI hlf (by decide +kernel) rfl [(0, .ref (xad X (3, 0, 0, 0))), (1, .int p1), (2, .int p2)] rfl (Nat.le_of_ble_eq_true rfl) (fun K hk hR => ?_)
  unfold F_X4_ofTenant at hF
  refine r_iload_n hk 2 (dtX4_ofTenant_0 0 (0, .iload_n 2, 1) rfl) rfl ?_
  have j41_2 : ∀ (v1 : Int32), J_X4_ofTenant_41 v1 = some rv → G X K 41 [] [.int v1] m0 := by
    intro v1 hF
    unfold J_X4_ofTenant_41 at hF
    cases Option.some.inj hF
    exact hR _ _ (dtX4_ofTenant_0 25 (41, .ireturn, 1) rfl)
  refine r_if_ne hk 12 hF (dtX4_ofTenant_0 1 (1, .ifCond .ne 11, 3) rfl) (by decide) (fun hF => ?_) (fun hF => ?_)
  · refine r_iload_n hk 2 (dtX4_ofTenant_0 6 (12, .iload_n 2, 1) rfl) rfl ?_
    refine r_iconst (v := 1) hk (dtX4_ofTenant_0 7 (13, .iconst 1, 1) rfl) (by decide) ?_
    refine r_icmp_ne hk 25 hF (dtX4_ofTenant_0 8 (14, .if_icmp .ne 11, 3) rfl) (by decide) (fun hF => ?_) (fun hF => ?_)
    · refine r_aload_n hk 0 (dtX4_ofTenant_0 13 (25, .aload_n 0, 1) rfl) rfl ?_
      refine r_getR hk (k := 0) (fsX4 X) cbX4 (by decide) fl_X4_7 (in_mo 0 (by decide)) (fun _ => rfl) (fun _ _ => rfl) (dtX4_ofTenant_0 14 (26, .getfield 7, 3) rfl) ?_
      refine r_sipush (v := 1153) hk (dtX4_ofTenant_0 15 (29, .sipush 1153, 3) rfl) (by decide) ?_
      refine r_iconst (v := 3) hk (dtX4_ofTenant_0 16 (32, .iconst 3, 1) rfl) (by decide) ?_
      refine r_iload_n hk 2 (dtX4_ofTenant_0 17 (33, .iload_n 2, 1) rfl) rfl ?_
      refine r_iconst (v := 2) hk (dtX4_ofTenant_0 18 (34, .iconst 2, 1) rfl) (by decide) ?_
      refine r_isub hk hF (dtX4_ofTenant_0 19 (35, .isub, 1) rfl) (fun v3 hF => ?_)
      refine r_imul hk hF (dtX4_ofTenant_0 20 (36, .imul, 1) rfl) (fun v4 hF => ?_)
      refine r_iadd hk hF (dtX4_ofTenant_0 21 (37, .iadd, 1) rfl) (fun v5 hF => ?_)
      refine r_iload_n hk 1 (dtX4_ofTenant_0 22 (38, .iload_n 1, 1) rfl) rfl ?_
      refine r_iadd hk hF (dtX4_ofTenant_0 23 (39, .iadd, 1) rfl) (fun v6 hF => ?_)
      refine r_iald hk (in_mo 1 (by decide)) (fun _ => rfl) hF (dtX4_ofTenant_0 24 (40, .iaload, 1) rfl) (fun v7 hF => ?_)
      exact r_sub hk [] rfl (j41_2 v7 hF)
    · refine r_aload_n hk 0 (dtX4_ofTenant_0 9 (17, .aload_n 0, 1) rfl) rfl ?_
      refine r_iload_n hk 1 (dtX4_ofTenant_0 10 (18, .iload_n 1, 1) rfl) rfl ?_
      refine r_callI hF (fun v8 h H locs ls hH hS hl => run_V (y := yX4_meanings) hk (in_mo 0 (by decide)) rfl rfl (c_X4_meanings (kl K) hk.2.2.2.2.2.2.2.2.2.2.2 X  p1 m0 v8 h) lk_X4_57 me_X4_meanings yf_X4_meanings (by decide) (by decide) rfl (Nat.le_of_ble_eq_true rfl) rfl (dtX4_ofTenant_0 11 (19, .invokevirtual 57, 3) rfl) hH hS hl) (fun v8 hF => ?_)
      refine r_goto hk 41 (dtX4_ofTenant_0 12 (22, .goto 19, 3) rfl) (by decide) ?_
      exact r_sub hk [] rfl (j41_2 v8 hF)
  · refine r_aload_n hk 0 (dtX4_ofTenant_0 2 (4, .aload_n 0, 1) rfl) rfl ?_
    refine r_iload_n hk 1 (dtX4_ofTenant_0 3 (5, .iload_n 1, 1) rfl) rfl ?_
    refine r_callI hF (fun v9 h H locs ls hH hS hl => run_V (y := yX4_rowsOf) hk (in_mo 0 (by decide)) rfl rfl (c_X4_rowsOf (kl K) hk.2.2.2.2.2.2.2.2.2.2.2 X  p1 m0 v9 h) lk_X4_44 me_X4_rowsOf yf_X4_rowsOf (by decide) (by decide) rfl (Nat.le_of_ble_eq_true rfl) rfl (dtX4_ofTenant_0 4 (6, .invokevirtual 44, 3) rfl) hH hS hl) (fun v9 hF => ?_)
    refine r_goto hk 41 (dtX4_ofTenant_0 5 (9, .goto 32, 3) rfl) (by decide) ?_
    exact r_sub hk [] rfl (j41_2 v9 hF)
set_option maxHeartbeats 4000000 in
set_option maxRecDepth 100000 in
theorem c_X4_tenant (l : Launch) (hlf : l.stackTraces = false) (X : XW)  (p1 : Int32) (p2 : Int32) (m0 : Mem) (rv : Int32) (mE : Mem) (hF : F_X4_tenant p1 p2 m0 = some (rv, mE)) : MX X l yX4_tenant cX4_tenant 3 (some .int) 3 [.ref (xad X (3, 0, 0, 0)), .int p1, .int p2] m0 (QI X rv mE) := by
  refine startI hlf (by decide +kernel) rfl [(0, .ref (xad X (3, 0, 0, 0))), (1, .int p1), (2, .int p2)] rfl (Nat.le_of_ble_eq_true rfl) (fun K hk hR => ?_)
  unfold F_X4_tenant at hF
  refine r_aload_n hk 0 (dtX4_tenant_0 0 (0, .aload_n 0, 1) rfl) rfl ?_
  refine r_iconst (v := 0) hk (dtX4_tenant_0 1 (1, .iconst 0, 1) rfl) (by decide) ?_
  refine r_putI hk (k := 6) (fsX4 X) cbX4 (by decide) fl_X4_25 (in_mo 0 (by decide)) (fun _ => rfl) rfl rfl (fun _ _ _ => rfl) (fun _ _ => (by decide : 6 < 11)) hF (dtX4_tenant_0 2 (2, .putfield 25, 3) rfl) (fun m1 hF => ?_)
  refine r_iload_n hk 1 (dtX4_tenant_0 3 (5, .iload_n 1, 1) rfl) rfl ?_
  refine r_callI hF (fun v2 h H locs ls hH hS hl => run_S hk (c_X4_isTenant (kl K) hk.2.2.2.2.2.2.2.2.2.2.2 X  p1 m1 v2 h) lk_X4_47 me_X4_isTenant yf_X4_isTenant (by decide) (by decide) rfl (Nat.le_of_ble_eq_true rfl) rfl (dtX4_tenant_0 4 (6, .invokestatic 47, 3) rfl) hH hS hl) (fun v2 hF => ?_)
  have j36_5 : ∀ (v3 : Int32) (m4 : Mem), J_X4_tenant_36 v3 m4 = some (rv, mE) → G X K 36 [] [.int v3] m4 := by
    intro v3 m4 hF
    unfold J_X4_tenant_36 at hF
    cases Option.some.inj hF
    exact hR _ _ (dtX4_tenant_0 19 (36, .ireturn, 1) rfl)
  have j31_6 : (J_X4_tenant_31 m1) = some (rv, mE) → G X K 31 [(0, .ref (xad X (3, 0, 0, 0)))] [] m1 := by
    intro hF
    unfold J_X4_tenant_31 at hF
    refine r_aload_n hk 0 (dtX4_tenant_0 16 (31, .aload_n 0, 1) rfl) rfl ?_
    refine r_iconst (v := 1) hk (dtX4_tenant_0 17 (32, .iconst 1, 1) rfl) (by decide) ?_
    refine r_callIm hF (fun v7 m8 h H locs ls hH hS hl => run_V (y := yX4_fails) hk (in_mo 0 (by decide)) rfl rfl (c_X4_fails (kl K) hk.2.2.2.2.2.2.2.2.2.2.2 X  1 m1 v7 m8 h) lk_X4_37 me_X4_fails yf_X4_fails (by decide) (by decide) rfl (Nat.le_of_ble_eq_true rfl) rfl (dtX4_tenant_0 18 (33, .invokevirtual 37, 3) rfl) hH hS hl) (fun v7 m8 hF => ?_)
    exact r_sub hk [] rfl (j36_5 v7 m8 hF)
  refine r_if_eq hk 31 hF (dtX4_tenant_0 5 (9, .ifCond .eq 22, 3) rfl) (by decide) (fun hF => ?_) (fun hF => ?_)
  · exact r_sub hk [0] rfl (j31_6 hF)
  · refine r_iload_n hk 2 (dtX4_tenant_0 6 (12, .iload_n 2, 1) rfl) rfl ?_
    refine r_iconst (v := 0) hk (dtX4_tenant_0 7 (13, .iconst 0, 1) rfl) (by decide) ?_
    refine r_bipush (v := 8) hk (dtX4_tenant_0 8 (14, .bipush 8, 2) rfl) (by decide) ?_
    refine r_callI hF (fun v9 h H locs ls hH hS hl => run_S hk (c_X4_in (kl K) hk.2.2.2.2.2.2.2.2.2.2.2 X  p2 0 8 m1 v9 h) lk_X4_29 me_X4_in yf_X4_in (by decide) (by decide) rfl (Nat.le_of_ble_eq_true rfl) rfl (dtX4_tenant_0 9 (16, .invokestatic 29, 3) rfl) hH hS hl) (fun v9 hF => ?_)
    refine r_if_eq hk 31 hF (dtX4_tenant_0 10 (19, .ifCond .eq 12, 3) rfl) (by decide) (fun hF => ?_) (fun hF => ?_)
    · exact r_sub hk [0] rfl (j31_6 hF)
    · refine r_aload_n hk 0 (dtX4_tenant_0 11 (22, .aload_n 0, 1) rfl) rfl ?_
      refine r_iload_n hk 1 (dtX4_tenant_0 12 (23, .iload_n 1, 1) rfl) rfl ?_
      refine r_iload_n hk 2 (dtX4_tenant_0 13 (24, .iload_n 2, 1) rfl) rfl ?_
      refine r_callI hF (fun v10 h H locs ls hH hS hl => run_V (y := yX4_ofTenant) hk (in_mo 0 (by decide)) rfl rfl (c_X4_ofTenant (kl K) hk.2.2.2.2.2.2.2.2.2.2.2 X  p1 p2 m1 v10 h) lk_X4_148 me_X4_ofTenant yf_X4_ofTenant (by decide) (by decide) rfl (Nat.le_of_ble_eq_true rfl) rfl (dtX4_tenant_0 14 (25, .invokevirtual 148, 3) rfl) hH hS hl) (fun v10 hF => ?_)
      refine r_goto hk 36 (dtX4_tenant_0 15 (28, .goto 8, 3) rfl) (by decide) ?_
      exact r_sub hk [] rfl (j36_5 v10 m1 hF)
set_option maxHeartbeats 4000000 in
set_option maxRecDepth 100000 in
theorem c_X4_ahead (l : Launch) (hlf : l.stackTraces = false) (X : XW)  (p1 : Int32) (p2 : Int32) (p3 : Int32) (m0 : Mem) (rv : Int32) (hF : F_X4_ahead p1 p2 p3 m0 = some rv) : MX X l yX4_ahead cX4_ahead 9 (some .int) 2 [.ref (xad X (3, 0, 0, 0)), .int p1, .int p2, .int p3] m0 (QI X rv m0) := by
  refine startI hlf (by decide +kernel) rfl [(0, .ref (xad X (3, 0, 0, 0))), (1, .int p1), (2, .int p2), (3, .int p3)] rfl (Nat.le_of_ble_eq_true rfl) (fun K hk hR => ?_)
  unfold F_X4_ahead at hF
  refine r_aload_n hk 0 (dtX4_ahead_0 0 (0, .aload_n 0, 1) rfl) rfl ?_
  refine r_iload_n hk 3 (dtX4_ahead_0 1 (1, .iload_n 3, 1) rfl) rfl ?_
  refine r_iload_n hk 2 (dtX4_ahead_0 2 (2, .iload_n 2, 1) rfl) rfl ?_
  refine r_callI hF (fun v1 h H locs ls hH hS hl => run_V (y := yX4_valueOf) hk (in_mo 0 (by decide)) rfl rfl (c_X4_valueOf (kl K) hk.2.2.2.2.2.2.2.2.2.2.2 X  p3 p2 m0 v1 h) lk_X4_118 me_X4_valueOf yf_X4_valueOf (by decide) (by decide) rfl (Nat.le_of_ble_eq_true rfl) rfl (dtX4_ahead_0 3 (3, .invokevirtual 118, 3) rfl) hH hS hl) (fun v1 hF => ?_)
  refine r_istore hk [(4, .int v1), (0, .ref (xad X (3, 0, 0, 0))), (1, .int p1), (2, .int p2), (3, .int p3)] (dtX4_ahead_0 4 (6, .istore 4, 2) rfl) (by decide) rfl ?_
  refine r_iconst (v := 0) hk (dtX4_ahead_0 5 (8, .iconst 0, 1) rfl) (by decide) ?_
  refine r_istore hk [(5, .int 0), (4, .int v1), (0, .ref (xad X (3, 0, 0, 0))), (1, .int p1), (2, .int p2), (3, .int p3)] (dtX4_ahead_0 6 (9, .istore 5, 2) rfl) (by decide) rfl ?_
  refine r_iconst (v := 0) hk (dtX4_ahead_0 7 (11, .iconst 0, 1) rfl) (by decide) ?_
  refine r_istore hk [(6, .int 0), (5, .int 0), (4, .int v1), (0, .ref (xad X (3, 0, 0, 0))), (1, .int p1), (2, .int p2), (3, .int p3)] (dtX4_ahead_0 8 (12, .istore 6, 2) rfl) (by decide) rfl ?_
  have e116_3 : ∀ (v2 : Int32), C_X4_ahead_116 v2 = some rv → G X K 116 [(5, .int v2)] [] m0 := by
    intro v2 hF
    unfold C_X4_ahead_116 at hF
    refine r_iload hk 0 (dtX4_ahead_0 58 (116, .iload 5, 2) rfl) rfl ?_
    cases Option.some.inj hF
    exact hR _ _ (dtX4_ahead_0 59 (118, .ireturn, 1) rfl)
  have l7 : ∀ (n7 : Nat) (v4 : Int32) (v5 : Int32), L_X4_ahead_14 p1 p2 p3 m0 v1 n7 v4 v5 = some rv → G X K 14 [(0, .ref (xad X (3, 0, 0, 0))), (1, .int p1), (2, .int p2), (3, .int p3), (4, .int v1), (5, .int v4), (6, .int v5)] [] m0 := by
    intro n7
    induction n7 with
    | zero => intro v4 v5 hF; exact nomatch (show (none : Option Int32) = some rv from hF)
    | succ n7 ih7 =>
      intro v4 v5 hF
      rw [L_X4_ahead_14] at hF
      refine r_iload hk 6 (dtX4_ahead_0 9 (14, .iload 6, 2) rfl) rfl ?_
      refine r_aload_n hk 0 (dtX4_ahead_0 10 (16, .aload_n 0, 1) rfl) rfl ?_
      refine r_getR hk (k := 0) (fsX4 X) cbX4 (by decide) fl_X4_7 (in_mo 0 (by decide)) (fun _ => rfl) (fun _ _ => rfl) (dtX4_ahead_0 11 (17, .getfield 7, 3) rfl) ?_
      refine r_sipush (v := 1080) hk (dtX4_ahead_0 12 (20, .sipush 1080, 3) rfl) (by decide) ?_
      refine r_iald hk (in_mo 1 (by decide)) (fun _ => rfl) hF (dtX4_ahead_0 13 (23, .iaload, 1) rfl) (fun v8 hF => ?_)
      refine r_icmp_ge hk 116 hF (dtX4_ahead_0 14 (24, .if_icmp .ge 92, 3) rfl) (by decide) (fun hF => ?_) (fun hF => ?_)
      · exact r_sub hk [5] rfl (e116_3 v4 hF)
      · refine r_aload_n hk 0 (dtX4_ahead_0 15 (27, .aload_n 0, 1) rfl) rfl ?_
        refine r_iload hk 6 (dtX4_ahead_0 16 (28, .iload 6, 2) rfl) rfl ?_
        refine r_iload_n hk 2 (dtX4_ahead_0 17 (30, .iload_n 2, 1) rfl) rfl ?_
        refine r_callI hF (fun v9 h H locs ls hH hS hl => run_V (y := yX4_valueOf) hk (in_mo 0 (by decide)) rfl rfl (c_X4_valueOf (kl K) hk.2.2.2.2.2.2.2.2.2.2.2 X  v5 p2 m0 v9 h) lk_X4_118 me_X4_valueOf yf_X4_valueOf (by decide) (by decide) rfl (Nat.le_of_ble_eq_true rfl) rfl (dtX4_ahead_0 18 (31, .invokevirtual 118, 3) rfl) hH hS hl) (fun v9 hF => ?_)
        refine r_istore hk [(7, .int v9), (0, .ref (xad X (3, 0, 0, 0))), (1, .int p1), (2, .int p2), (3, .int p3), (4, .int v1), (5, .int v4), (6, .int v5)] (dtX4_ahead_0 19 (34, .istore 7, 2) rfl) (by decide) rfl ?_
        refine r_iload hk 0 (dtX4_ahead_0 20 (36, .iload 7, 2) rfl) rfl ?_
        refine r_iload hk 5 (dtX4_ahead_0 21 (38, .iload 4, 2) rfl) rfl ?_
        have j83_11 : ∀ (v10 : Int32), (J_X4_ahead_83 p1 m0 v4 v5 (fun w0 w1 => L_X4_ahead_14 p1 p2 p3 m0 v1 n7 w0 w1)) v10 = some rv → G X K 83 [(0, .ref (xad X (3, 0, 0, 0))), (1, .int p1), (2, .int p2), (3, .int p3), (4, .int v1), (5, .int v4), (6, .int v5)] [.int v10] m0 := by
          intro v10 hF
          unfold J_X4_ahead_83 at hF
          refine r_istore hk [(8, .int v10), (0, .ref (xad X (3, 0, 0, 0))), (1, .int p1), (2, .int p2), (3, .int p3), (4, .int v1), (5, .int v4), (6, .int v5)] (dtX4_ahead_0 42 (83, .istore 8, 2) rfl) (by decide) rfl ?_
          refine r_iload hk 6 (dtX4_ahead_0 43 (85, .iload 5, 2) rfl) rfl ?_
          refine r_iload hk 0 (dtX4_ahead_0 44 (87, .iload 8, 2) rfl) rfl ?_
          have j107_13 : ∀ (v12 : Int32), (J_X4_ahead_107 v4 v5 (fun w0 w1 => L_X4_ahead_14 p1 p2 p3 m0 v1 n7 w0 w1)) v12 = some rv → G X K 107 [(0, .ref (xad X (3, 0, 0, 0))), (1, .int p1), (2, .int p2), (3, .int p3), (4, .int v1), (6, .int v5)] [.int v12, .int v4] m0 := by
            intro v12 hF
            unfold J_X4_ahead_107 at hF
            refine r_iadd hk hF (dtX4_ahead_0 54 (107, .iadd, 1) rfl) (fun v14 hF => ?_)
            refine r_istore hk [(5, .int v14), (0, .ref (xad X (3, 0, 0, 0))), (1, .int p1), (2, .int p2), (3, .int p3), (4, .int v1), (6, .int v5)] (dtX4_ahead_0 55 (108, .istore 5, 2) rfl) (by decide) rfl ?_
            refine r_iinc hk 1 6 (fun v15 => [(6, .int v15), (5, .int v14), (0, .ref (xad X (3, 0, 0, 0))), (1, .int p1), (2, .int p2), (3, .int p3), (4, .int v1)]) hF (dtX4_ahead_0 56 (110, .iinc 6 1, 3) rfl) rfl (by decide) (by decide) (fun _ => rfl) (fun v15 hF => ?_)
            refine r_goto hk 14 (dtX4_ahead_0 57 (113, .goto (-99), 3) rfl) (by decide) ?_
            exact r_sub hk [2, 3, 4, 5, 6, 1, 0] rfl (ih7 v14 v15 hF)
          have j106_16 : (J_X4_ahead_106 v4 v5 (fun w0 w1 => L_X4_ahead_14 p1 p2 p3 m0 v1 n7 w0 w1)) = some rv → G X K 106 [(0, .ref (xad X (3, 0, 0, 0))), (1, .int p1), (2, .int p2), (3, .int p3), (4, .int v1), (6, .int v5)] [.int v4] m0 := by
            intro hF
            unfold J_X4_ahead_106 at hF
            refine r_iconst (v := 0) hk (dtX4_ahead_0 53 (106, .iconst 0, 1) rfl) (by decide) ?_
            exact r_sub hk [0, 1, 2, 3, 4, 5] rfl (j107_13 0 hF)
          refine r_if_eq hk 106 hF (dtX4_ahead_0 45 (89, .ifCond .eq 17, 3) rfl) (by decide) (fun hF => ?_) (fun hF => ?_)
          · exact r_sub hk [1, 2, 3, 4, 5, 7] rfl (j106_16 hF)
          · refine r_aload_n hk 1 (dtX4_ahead_0 46 (92, .aload_n 0, 1) rfl) rfl ?_
            refine r_iload_n hk 2 (dtX4_ahead_0 47 (93, .iload_n 1, 1) rfl) rfl ?_
            refine r_iload hk 7 (dtX4_ahead_0 48 (94, .iload 6, 2) rfl) rfl ?_
            refine r_callI hF (fun v17 h H locs ls hH hS hl => run_V (y := yX4_isAnswer) hk (in_mo 0 (by decide)) rfl rfl (c_X4_isAnswer (kl K) hk.2.2.2.2.2.2.2.2.2.2.2 X  p1 v5 m0 v17 h) lk_X4_121 me_X4_isAnswer yf_X4_isAnswer (by decide) (by decide) rfl (Nat.le_of_ble_eq_true rfl) rfl (dtX4_ahead_0 49 (96, .invokevirtual 121, 3) rfl) hH hS hl) (fun v17 hF => ?_)
            refine r_if_eq hk 106 hF (dtX4_ahead_0 50 (99, .ifCond .eq 7, 3) rfl) (by decide) (fun hF => ?_) (fun hF => ?_)
            · exact r_sub hk [1, 2, 3, 4, 5, 7] rfl (j106_16 hF)
            · refine r_iconst (v := 1) hk (dtX4_ahead_0 51 (102, .iconst 1, 1) rfl) (by decide) ?_
              refine r_goto hk 107 (dtX4_ahead_0 52 (103, .goto 4, 3) rfl) (by decide) ?_
              exact r_sub hk [1, 2, 3, 4, 5, 7] rfl (j107_13 1 hF)
        refine r_icmp_ne hk 57 hF (dtX4_ahead_0 22 (40, .if_icmp .ne 17, 3) rfl) (by decide) (fun hF => ?_) (fun hF => ?_)
        · refine r_iload hk 5 (dtX4_ahead_0 30 (57, .iload 4, 2) rfl) rfl ?_
          refine r_ldc hk cn_X4_33 (dtX4_ahead_0 31 (59, .ldc 33, 2) rfl) ?_
          have j78_18 : (J_X4_ahead_78 p1 m0 v4 v5 (fun w0 w1 => L_X4_ahead_14 p1 p2 p3 m0 v1 n7 w0 w1)) = some rv → G X K 78 [(0, .ref (xad X (3, 0, 0, 0))), (1, .int p1), (2, .int p2), (3, .int p3), (4, .int v1), (5, .int v4), (6, .int v5)] [] m0 := by
            intro hF
            unfold J_X4_ahead_78 at hF
            refine r_iconst (v := 1) hk (dtX4_ahead_0 39 (78, .iconst 1, 1) rfl) (by decide) ?_
            refine r_goto hk 83 (dtX4_ahead_0 40 (79, .goto 4, 3) rfl) (by decide) ?_
            exact r_sub hk [0, 1, 2, 3, 4, 5, 6] rfl (j83_11 1 hF)
          refine r_icmp_eq hk 78 hF (dtX4_ahead_0 32 (61, .if_icmp .eq 17, 3) rfl) (by decide) (fun hF => ?_) (fun hF => ?_)
          · exact r_sub hk [1, 2, 3, 4, 5, 6, 7] rfl (j78_18 hF)
          · refine r_iload hk 0 (dtX4_ahead_0 33 (64, .iload 7, 2) rfl) rfl ?_
            refine r_ldc hk cn_X4_33 (dtX4_ahead_0 34 (66, .ldc 33, 2) rfl) ?_
            have j82_19 : (J_X4_ahead_82 p1 m0 v4 v5 (fun w0 w1 => L_X4_ahead_14 p1 p2 p3 m0 v1 n7 w0 w1)) = some rv → G X K 82 [(0, .ref (xad X (3, 0, 0, 0))), (1, .int p1), (2, .int p2), (3, .int p3), (4, .int v1), (5, .int v4), (6, .int v5)] [] m0 := by
              intro hF
              unfold J_X4_ahead_82 at hF
              refine r_iconst (v := 0) hk (dtX4_ahead_0 41 (82, .iconst 0, 1) rfl) (by decide) ?_
              exact r_sub hk [0, 1, 2, 3, 4, 5, 6] rfl (j83_11 0 hF)
            refine r_icmp_eq hk 82 hF (dtX4_ahead_0 35 (68, .if_icmp .eq 14, 3) rfl) (by decide) (fun hF => ?_) (fun hF => ?_)
            · exact r_sub hk [1, 2, 3, 4, 5, 6, 7] rfl (j82_19 hF)
            · refine r_iload hk 0 (dtX4_ahead_0 36 (71, .iload 7, 2) rfl) rfl ?_
              refine r_iload hk 5 (dtX4_ahead_0 37 (73, .iload 4, 2) rfl) rfl ?_
              refine r_icmp_ge hk 82 hF (dtX4_ahead_0 38 (75, .if_icmp .ge 7, 3) rfl) (by decide) (fun hF => ?_) (fun hF => ?_)
              · exact r_sub hk [1, 2, 3, 4, 5, 6, 7] rfl (j82_19 hF)
              · exact r_sub hk [1, 2, 3, 4, 5, 6, 7] rfl (j78_18 hF)
        · refine r_iload hk 7 (dtX4_ahead_0 23 (43, .iload 6, 2) rfl) rfl ?_
          refine r_iload_n hk 4 (dtX4_ahead_0 24 (45, .iload_n 3, 1) rfl) rfl ?_
          refine r_icmp_ge hk 53 hF (dtX4_ahead_0 25 (46, .if_icmp .ge 7, 3) rfl) (by decide) (fun hF => ?_) (fun hF => ?_)
          · refine r_iconst (v := 0) hk (dtX4_ahead_0 28 (53, .iconst 0, 1) rfl) (by decide) ?_
            refine r_goto hk 83 (dtX4_ahead_0 29 (54, .goto 29, 3) rfl) (by decide) ?_
            exact r_sub hk [1, 2, 3, 4, 5, 6, 7] rfl (j83_11 0 hF)
          · refine r_iconst (v := 1) hk (dtX4_ahead_0 26 (49, .iconst 1, 1) rfl) (by decide) ?_
            refine r_goto hk 83 (dtX4_ahead_0 27 (50, .goto 33, 3) rfl) (by decide) ?_
            exact r_sub hk [1, 2, 3, 4, 5, 6, 7] rfl (j83_11 1 hF)
  exact r_sub hk [3, 4, 5, 6, 2, 1, 0] rfl (l7 fu 0 0 hF)
set_option maxHeartbeats 4000000 in
set_option maxRecDepth 100000 in
theorem c_X4_answered (l : Launch) (hlf : l.stackTraces = false) (X : XW)  (p1 : Int32) (p2 : Int32) (p3 : Int32) (m0 : Mem) (rv : Int32) (hF : F_X4_answered p1 p2 p3 m0 = some rv) : MX X l yX4_answered cX4_answered 6 (some .int) 3 [.ref (xad X (3, 0, 0, 0)), .int p1, .int p2, .int p3] m0 (QI X rv m0) := by
  refine startI hlf (by decide +kernel) rfl [(0, .ref (xad X (3, 0, 0, 0))), (1, .int p1), (2, .int p2), (3, .int p3)] rfl (Nat.le_of_ble_eq_true rfl) (fun K hk hR => ?_)
  unfold F_X4_answered at hF
  refine r_iload_n hk 2 (dtX4_answered_0 0 (0, .iload_n 2, 1) rfl) rfl ?_
  refine r_iconst (v := (-1)) hk (dtX4_answered_0 1 (1, .iconst (-1), 1) rfl) (by decide) ?_
  have j15_2 : ∀ (v1 : Int32), (J_X4_answered_15 p1 p3 m0) v1 = some rv → G X K 15 [(0, .ref (xad X (3, 0, 0, 0))), (1, .int p1), (3, .int p3)] [.int v1] m0 := by
    intro v1 hF
    unfold J_X4_answered_15 at hF
    refine r_istore hk [(4, .int v1), (0, .ref (xad X (3, 0, 0, 0))), (1, .int p1), (3, .int p3)] (dtX4_answered_0 9 (15, .istore 4, 2) rfl) (by decide) rfl ?_
    refine r_iconst (v := 0) hk (dtX4_answered_0 10 (17, .iconst 0, 1) rfl) (by decide) ?_
    refine r_istore hk [(5, .int 0), (4, .int v1), (0, .ref (xad X (3, 0, 0, 0))), (1, .int p1), (3, .int p3)] (dtX4_answered_0 11 (18, .istore 5, 2) rfl) (by decide) rfl ?_
    have e65_3 : C_X4_answered_65 = some rv → G X K 65 [] [] m0 := by
      intro hF
      unfold C_X4_answered_65 at hF
      refine r_iconst (v := (-1)) hk (dtX4_answered_0 34 (65, .iconst (-1), 1) rfl) (by decide) ?_
      cases Option.some.inj hF
      exact hR _ _ (dtX4_answered_0 35 (66, .ireturn, 1) rfl)
    have l6 : ∀ (n6 : Nat) (v4 : Int32), L_X4_answered_20 p1 p3 m0 v1 n6 v4 = some rv → G X K 20 [(0, .ref (xad X (3, 0, 0, 0))), (1, .int p1), (3, .int p3), (4, .int v1), (5, .int v4)] [] m0 := by
      intro n6
      induction n6 with
      | zero => intro v4 hF; exact nomatch (show (none : Option Int32) = some rv from hF)
      | succ n6 ih6 =>
        intro v4 hF
        rw [L_X4_answered_20] at hF
        refine r_iload hk 4 (dtX4_answered_0 12 (20, .iload 5, 2) rfl) rfl ?_
        refine r_aload_n hk 0 (dtX4_answered_0 13 (22, .aload_n 0, 1) rfl) rfl ?_
        refine r_getR hk (k := 0) (fsX4 X) cbX4 (by decide) fl_X4_7 (in_mo 0 (by decide)) (fun _ => rfl) (fun _ _ => rfl) (dtX4_answered_0 14 (23, .getfield 7, 3) rfl) ?_
        refine r_sipush (v := 1080) hk (dtX4_answered_0 15 (26, .sipush 1080, 3) rfl) (by decide) ?_
        refine r_iald hk (in_mo 1 (by decide)) (fun _ => rfl) hF (dtX4_answered_0 16 (29, .iaload, 1) rfl) (fun v7 hF => ?_)
        refine r_icmp_ge hk 65 hF (dtX4_answered_0 17 (30, .if_icmp .ge 35, 3) rfl) (by decide) (fun hF => ?_) (fun hF => ?_)
        · exact r_sub hk [] rfl (e65_3 hF)
        · refine r_aload_n hk 0 (dtX4_answered_0 18 (33, .aload_n 0, 1) rfl) rfl ?_
          refine r_iload_n hk 1 (dtX4_answered_0 19 (34, .iload_n 1, 1) rfl) rfl ?_
          refine r_iload hk 4 (dtX4_answered_0 20 (35, .iload 5, 2) rfl) rfl ?_
          refine r_callI hF (fun v8 h H locs ls hH hS hl => run_V (y := yX4_isAnswer) hk (in_mo 0 (by decide)) rfl rfl (c_X4_isAnswer (kl K) hk.2.2.2.2.2.2.2.2.2.2.2 X  p1 v4 m0 v8 h) lk_X4_121 me_X4_isAnswer yf_X4_isAnswer (by decide) (by decide) rfl (Nat.le_of_ble_eq_true rfl) rfl (dtX4_answered_0 21 (37, .invokevirtual 121, 3) rfl) hH hS hl) (fun v8 hF => ?_)
          have j59_9 : (J_X4_answered_59 v4 (fun w0 => L_X4_answered_20 p1 p3 m0 v1 n6 w0)) = some rv → G X K 59 [(0, .ref (xad X (3, 0, 0, 0))), (1, .int p1), (3, .int p3), (4, .int v1), (5, .int v4)] [] m0 := by
            intro hF
            unfold J_X4_answered_59 at hF
            refine r_iinc hk 1 4 (fun v10 => [(5, .int v10), (0, .ref (xad X (3, 0, 0, 0))), (1, .int p1), (3, .int p3), (4, .int v1)]) hF (dtX4_answered_0 32 (59, .iinc 5 1, 3) rfl) rfl (by decide) (by decide) (fun _ => rfl) (fun v10 hF => ?_)
            refine r_goto hk 20 (dtX4_answered_0 33 (62, .goto (-42), 3) rfl) (by decide) ?_
            exact r_sub hk [1, 2, 3, 4, 0] rfl (ih6 v10 hF)
          refine r_if_eq hk 59 hF (dtX4_answered_0 22 (40, .ifCond .eq 19, 3) rfl) (by decide) (fun hF => ?_) (fun hF => ?_)
          · exact r_sub hk [0, 1, 2, 3, 4] rfl (j59_9 hF)
          · refine r_aload_n hk 0 (dtX4_answered_0 23 (43, .aload_n 0, 1) rfl) rfl ?_
            refine r_iload_n hk 1 (dtX4_answered_0 24 (44, .iload_n 1, 1) rfl) rfl ?_
            refine r_iload hk 3 (dtX4_answered_0 25 (45, .iload 4, 2) rfl) rfl ?_
            refine r_iload hk 4 (dtX4_answered_0 26 (47, .iload 5, 2) rfl) rfl ?_
            refine r_callI hF (fun v11 h H locs ls hH hS hl => run_V (y := yX4_ahead) hk (in_mo 0 (by decide)) rfl rfl (c_X4_ahead (kl K) hk.2.2.2.2.2.2.2.2.2.2.2 X  p1 v1 v4 m0 v11 h) lk_X4_151 me_X4_ahead yf_X4_ahead (by decide) (by decide) rfl (Nat.le_of_ble_eq_true rfl) rfl (dtX4_answered_0 27 (49, .invokevirtual 151, 3) rfl) hH hS hl) (fun v11 hF => ?_)
            refine r_iload_n hk 2 (dtX4_answered_0 28 (52, .iload_n 3, 1) rfl) rfl ?_
            refine r_icmp_ne hk 59 hF (dtX4_answered_0 29 (53, .if_icmp .ne 6, 3) rfl) (by decide) (fun hF => ?_) (fun hF => ?_)
            · exact r_sub hk [0, 1, 2, 3, 4] rfl (j59_9 hF)
            · refine r_iload hk 4 (dtX4_answered_0 30 (56, .iload 5, 2) rfl) rfl ?_
              cases Option.some.inj hF
              exact hR _ _ (dtX4_answered_0 31 (58, .ireturn, 1) rfl)
    exact r_sub hk [2, 3, 4, 1, 0] rfl (l6 fu 0 hF)
  refine r_icmp_ne hk 9 hF (dtX4_answered_0 2 (2, .if_icmp .ne 7, 3) rfl) (by decide) (fun hF => ?_) (fun hF => ?_)
  · refine r_aload_n hk 0 (dtX4_answered_0 5 (9, .aload_n 0, 1) rfl) rfl ?_
    refine r_iload_n hk 1 (dtX4_answered_0 6 (10, .iload_n 1, 1) rfl) rfl ?_
    refine r_iload_n hk 2 (dtX4_answered_0 7 (11, .iload_n 2, 1) rfl) rfl ?_
    refine r_callI hF (fun v12 h H locs ls hH hS hl => run_V (y := yX4_columnOf) hk (in_mo 0 (by decide)) rfl rfl (c_X4_columnOf (kl K) hk.2.2.2.2.2.2.2.2.2.2.2 X  p1 p2 m0 v12 h) lk_X4_64 me_X4_columnOf yf_X4_columnOf (by decide) (by decide) rfl (Nat.le_of_ble_eq_true rfl) rfl (dtX4_answered_0 8 (12, .invokevirtual 64, 3) rfl) hH hS hl) (fun v12 hF => ?_)
    exact r_sub hk [0, 1, 3] rfl (j15_2 v12 hF)
  · refine r_iconst (v := (-1)) hk (dtX4_answered_0 3 (5, .iconst (-1), 1) rfl) (by decide) ?_
    refine r_goto hk 15 (dtX4_answered_0 4 (6, .goto 9, 3) rfl) (by decide) ?_
    exact r_sub hk [0, 1, 3] rfl (j15_2 (-1) hF)
set_option maxHeartbeats 4000000 in
set_option maxRecDepth 100000 in
theorem c_X4_answer (l : Launch) (hlf : l.stackTraces = false) (X : XW)  (p1 : Int32) (p2 : Int32) (p3 : Int32) (m0 : Mem) (rv : Int32) (mE : Mem) (hF : F_X4_answer p1 p2 p3 m0 = some (rv, mE)) : MX X l yX4_answer cX4_answer 4 (some .int) 4 [.ref (xad X (3, 0, 0, 0)), .int p1, .int p2, .int p3] m0 (QI X rv mE) := by
  refine startI hlf (by decide +kernel) rfl [(0, .ref (xad X (3, 0, 0, 0))), (1, .int p1), (2, .int p2), (3, .int p3)] rfl (Nat.le_of_ble_eq_true rfl) (fun K hk hR => ?_)
  unfold F_X4_answer at hF
  refine r_aload_n hk 0 (dtX4_answer_0 0 (0, .aload_n 0, 1) rfl) rfl ?_
  refine r_iconst (v := 0) hk (dtX4_answer_0 1 (1, .iconst 0, 1) rfl) (by decide) ?_
  refine r_putI hk (k := 6) (fsX4 X) cbX4 (by decide) fl_X4_25 (in_mo 0 (by decide)) (fun _ => rfl) rfl rfl (fun _ _ _ => rfl) (fun _ _ => (by decide : 6 < 11)) hF (dtX4_answer_0 2 (2, .putfield 25, 3) rfl) (fun m1 hF => ?_)
  refine r_iload_n hk 1 (dtX4_answer_0 3 (5, .iload_n 1, 1) rfl) rfl ?_
  refine r_callI hF (fun v2 h H locs ls hH hS hl => run_S hk (c_X4_isTenant (kl K) hk.2.2.2.2.2.2.2.2.2.2.2 X  p1 m1 v2 h) lk_X4_47 me_X4_isTenant yf_X4_isTenant (by decide) (by decide) rfl (Nat.le_of_ble_eq_true rfl) rfl (dtX4_answer_0 4 (6, .invokestatic 47, 3) rfl) hH hS hl) (fun v2 hF => ?_)
  have j26_3 : (J_X4_answer_26 m1) = some (rv, mE) → G X K 26 [(0, .ref (xad X (3, 0, 0, 0)))] [] m1 := by
    intro hF
    unfold J_X4_answer_26 at hF
    refine r_aload_n hk 0 (dtX4_answer_0 13 (26, .aload_n 0, 1) rfl) rfl ?_
    refine r_iconst (v := 1) hk (dtX4_answer_0 14 (27, .iconst 1, 1) rfl) (by decide) ?_
    refine r_callIm hF (fun v4 m5 h H locs ls hH hS hl => run_V (y := yX4_fails) hk (in_mo 0 (by decide)) rfl rfl (c_X4_fails (kl K) hk.2.2.2.2.2.2.2.2.2.2.2 X  1 m1 v4 m5 h) lk_X4_37 me_X4_fails yf_X4_fails (by decide) (by decide) rfl (Nat.le_of_ble_eq_true rfl) rfl (dtX4_answer_0 15 (28, .invokevirtual 37, 3) rfl) hH hS hl) (fun v4 m5 hF => ?_)
    cases Option.some.inj hF
    exact hR _ _ (dtX4_answer_0 16 (31, .ireturn, 1) rfl)
  refine r_if_eq hk 26 hF (dtX4_answer_0 5 (9, .ifCond .eq 17, 3) rfl) (by decide) (fun hF => ?_) (fun hF => ?_)
  · exact r_sub hk [0] rfl (j26_3 hF)
  · refine r_iload_n hk 2 (dtX4_answer_0 6 (12, .iload_n 2, 1) rfl) rfl ?_
    refine r_iconst (v := (-1)) hk (dtX4_answer_0 7 (13, .iconst (-1), 1) rfl) (by decide) ?_
    refine r_bipush (v := 7) hk (dtX4_answer_0 8 (14, .bipush 7, 2) rfl) (by decide) ?_
    refine r_callI hF (fun v6 h H locs ls hH hS hl => run_S hk (c_X4_in (kl K) hk.2.2.2.2.2.2.2.2.2.2.2 X  p2 (-1) 7 m1 v6 h) lk_X4_29 me_X4_in yf_X4_in (by decide) (by decide) rfl (Nat.le_of_ble_eq_true rfl) rfl (dtX4_answer_0 9 (16, .invokestatic 29, 3) rfl) hH hS hl) (fun v6 hF => ?_)
    refine r_if_eq hk 26 hF (dtX4_answer_0 10 (19, .ifCond .eq 7, 3) rfl) (by decide) (fun hF => ?_) (fun hF => ?_)
    · exact r_sub hk [0] rfl (j26_3 hF)
    · refine r_iload_n hk 3 (dtX4_answer_0 11 (22, .iload_n 3, 1) rfl) rfl ?_
      refine r_if_ge hk 32 hF (dtX4_answer_0 12 (23, .ifCond .ge 9, 3) rfl) (by decide) (fun hF => ?_) (fun hF => ?_)
      · refine r_aload_n hk 0 (dtX4_answer_0 17 (32, .aload_n 0, 1) rfl) rfl ?_
        refine r_callIm hF (fun v7 m8 h H locs ls hH hS hl => run_V (y := yX4_isText) hk (in_mo 0 (by decide)) rfl rfl (c_X4_isText (kl K) hk.2.2.2.2.2.2.2.2.2.2.2 X   m1 v7 m8 h) lk_X4_115 me_X4_isText yf_X4_isText (by decide) (by decide) rfl (Nat.le_of_ble_eq_true rfl) rfl (dtX4_answer_0 18 (33, .invokevirtual 115, 3) rfl) hH hS hl) (fun v7 m8 hF => ?_)
        have j50_10 : ∀ (v9 : Int32), (J_X4_answer_50 m8) v9 = some (rv, mE) → G X K 50 [] [.int v9] m8 := by
          intro v9 hF
          unfold J_X4_answer_50 at hF
          cases Option.some.inj hF
          exact hR _ _ (dtX4_answer_0 27 (50, .ireturn, 1) rfl)
        refine r_if_eq hk 49 hF (dtX4_answer_0 19 (36, .ifCond .eq 13, 3) rfl) (by decide) (fun hF => ?_) (fun hF => ?_)
        · refine r_iconst (v := (-1)) hk (dtX4_answer_0 26 (49, .iconst (-1), 1) rfl) (by decide) ?_
          exact r_sub hk [] rfl (j50_10 (-1) hF)
        · refine r_aload_n hk 0 (dtX4_answer_0 20 (39, .aload_n 0, 1) rfl) rfl ?_
          refine r_iload_n hk 1 (dtX4_answer_0 21 (40, .iload_n 1, 1) rfl) rfl ?_
          refine r_iload_n hk 2 (dtX4_answer_0 22 (41, .iload_n 2, 1) rfl) rfl ?_
          refine r_iload_n hk 3 (dtX4_answer_0 23 (42, .iload_n 3, 1) rfl) rfl ?_
          refine r_callI hF (fun v11 h H locs ls hH hS hl => run_V (y := yX4_answered) hk (in_mo 0 (by decide)) rfl rfl (c_X4_answered (kl K) hk.2.2.2.2.2.2.2.2.2.2.2 X  p1 p2 p3 m8 v11 h) lk_X4_154 me_X4_answered yf_X4_answered (by decide) (by decide) rfl (Nat.le_of_ble_eq_true rfl) rfl (dtX4_answer_0 24 (43, .invokevirtual 154, 3) rfl) hH hS hl) (fun v11 hF => ?_)
          refine r_goto hk 50 (dtX4_answer_0 25 (46, .goto 4, 3) rfl) (by decide) ?_
          exact r_sub hk [] rfl (j50_10 v11 hF)
      · exact r_sub hk [0] rfl (j26_3 hF)
set_option maxHeartbeats 4000000 in
set_option maxRecDepth 100000 in
theorem c_X4_tableValues (l : Launch) (hlf : l.stackTraces = false) (X : XW)   (m0 : Mem) (rv : Int32) (hF : F_X4_tableValues m0 = some rv) : MX X l yX4_tableValues cX4_tableValues 3 (some .int) 3 [.ref (xad X (3, 0, 0, 0))] m0 (QI X rv m0) := by
  refine startI hlf (by decide +kernel) rfl [(0, .ref (xad X (3, 0, 0, 0)))] rfl (Nat.le_of_ble_eq_true rfl) (fun K hk hR => ?_)
  unfold F_X4_tableValues at hF
  refine r_iconst (v := 0) hk (dtX4_tableValues_0 0 (0, .iconst 0, 1) rfl) (by decide) ?_
  refine r_istore_n hk [(1, .int 0), (0, .ref (xad X (3, 0, 0, 0)))] (dtX4_tableValues_0 1 (1, .istore_n 1, 1) rfl) (by decide) rfl ?_
  refine r_iconst (v := 0) hk (dtX4_tableValues_0 2 (2, .iconst 0, 1) rfl) (by decide) ?_
  refine r_istore_n hk [(2, .int 0), (1, .int 0), (0, .ref (xad X (3, 0, 0, 0)))] (dtX4_tableValues_0 3 (3, .istore_n 2, 1) rfl) (by decide) rfl ?_
  have e26_2 : ∀ (v1 : Int32), C_X4_tableValues_26 v1 = some rv → G X K 26 [(1, .int v1)] [] m0 := by
    intro v1 hF
    unfold C_X4_tableValues_26 at hF
    refine r_iload_n hk 0 (dtX4_tableValues_0 16 (26, .iload_n 1, 1) rfl) rfl ?_
    cases Option.some.inj hF
    exact hR _ _ (dtX4_tableValues_0 17 (27, .ireturn, 1) rfl)
  have l6 : ∀ (n6 : Nat) (v3 : Int32) (v4 : Int32), L_X4_tableValues_4 m0 n6 v3 v4 = some rv → G X K 4 [(0, .ref (xad X (3, 0, 0, 0))), (1, .int v3), (2, .int v4)] [] m0 := by
    intro n6
    induction n6 with
    | zero => intro v3 v4 hF; exact nomatch (show (none : Option Int32) = some rv from hF)
    | succ n6 ih6 =>
      intro v3 v4 hF
      rw [L_X4_tableValues_4] at hF
      refine r_iload_n hk 2 (dtX4_tableValues_0 4 (4, .iload_n 2, 1) rfl) rfl ?_
      refine r_aload_n hk 0 (dtX4_tableValues_0 5 (5, .aload_n 0, 1) rfl) rfl ?_
      refine r_callI hF (fun v7 h H locs ls hH hS hl => run_V (y := yX4_inTable) hk (in_mo 0 (by decide)) rfl rfl (c_X4_inTable (kl K) hk.2.2.2.2.2.2.2.2.2.2.2 X   m0 v7 h) lk_X4_74 me_X4_inTable yf_X4_inTable (by decide) (by decide) rfl (Nat.le_of_ble_eq_true rfl) rfl (dtX4_tableValues_0 6 (6, .invokevirtual 74, 3) rfl) hH hS hl) (fun v7 hF => ?_)
      refine r_icmp_ge hk 26 hF (dtX4_tableValues_0 7 (9, .if_icmp .ge 17, 3) rfl) (by decide) (fun hF => ?_) (fun hF => ?_)
      · exact r_sub hk [1] rfl (e26_2 v3 hF)
      · refine r_iload_n hk 1 (dtX4_tableValues_0 8 (12, .iload_n 1, 1) rfl) rfl ?_
        refine r_aload_n hk 0 (dtX4_tableValues_0 9 (13, .aload_n 0, 1) rfl) rfl ?_
        refine r_iload_n hk 2 (dtX4_tableValues_0 10 (14, .iload_n 2, 1) rfl) rfl ?_
        refine r_callI hF (fun v8 h H locs ls hH hS hl => run_V (y := yX4_values) hk (in_mo 0 (by decide)) rfl rfl (c_X4_values (kl K) hk.2.2.2.2.2.2.2.2.2.2.2 X  v4 m0 v8 h) lk_X4_134 me_X4_values yf_X4_values (by decide) (by decide) rfl (Nat.le_of_ble_eq_true rfl) rfl (dtX4_tableValues_0 11 (15, .invokevirtual 134, 3) rfl) hH hS hl) (fun v8 hF => ?_)
        refine r_iadd hk hF (dtX4_tableValues_0 12 (18, .iadd, 1) rfl) (fun v9 hF => ?_)
        refine r_istore_n hk [(1, .int v9), (0, .ref (xad X (3, 0, 0, 0))), (2, .int v4)] (dtX4_tableValues_0 13 (19, .istore_n 1, 1) rfl) (by decide) rfl ?_
        refine r_iinc hk 1 2 (fun v10 => [(2, .int v10), (1, .int v9), (0, .ref (xad X (3, 0, 0, 0)))]) hF (dtX4_tableValues_0 14 (20, .iinc 2 1, 3) rfl) rfl (by decide) (by decide) (fun _ => rfl) (fun v10 hF => ?_)
        refine r_goto hk 4 (dtX4_tableValues_0 15 (23, .goto (-19), 3) rfl) (by decide) ?_
        exact r_sub hk [2, 1, 0] rfl (ih6 v9 v10 hF)
  exact r_sub hk [2, 1, 0] rfl (l6 fu 0 0 hF)
set_option maxHeartbeats 4000000 in
set_option maxRecDepth 100000 in
theorem c_X4_shared (l : Launch) (hlf : l.stackTraces = false) (X : XW)  (p1 : Int32) (m0 : Mem) (rv : Int32) (hF : F_X4_shared p1 m0 = some rv) : MX X l yX4_shared cX4_shared 6 (some .int) 0 [.ref (xad X (3, 0, 0, 0)), .int p1] m0 (QI X rv m0) := by
  refine startI hlf (by decide +kernel) rfl [(0, .ref (xad X (3, 0, 0, 0))), (1, .int p1)] rfl (Nat.le_of_ble_eq_true rfl) (fun K hk hR => ?_)
  unfold F_X4_shared at hF
  refine r_iconst (v := 0) hk (dtX4_shared_0 0 (0, .iconst 0, 1) rfl) (by decide) ?_
  refine r_istore_n hk [(2, .int 0), (0, .ref (xad X (3, 0, 0, 0))), (1, .int p1)] (dtX4_shared_0 1 (1, .istore_n 2, 1) rfl) (by decide) rfl ?_
  refine r_iconst (v := 0) hk (dtX4_shared_0 2 (2, .iconst 0, 1) rfl) (by decide) ?_
  refine r_istore_n hk [(3, .int 0), (2, .int 0), (0, .ref (xad X (3, 0, 0, 0))), (1, .int p1)] (dtX4_shared_0 3 (3, .istore_n 3, 1) rfl) (by decide) rfl ?_
  have e78_2 : ∀ (v1 : Int32), C_X4_shared_78 v1 = some rv → G X K 78 [(2, .int v1)] [] m0 := by
    intro v1 hF
    unfold C_X4_shared_78 at hF
    refine r_iload_n hk 0 (dtX4_shared_0 45 (78, .iload_n 2, 1) rfl) rfl ?_
    cases Option.some.inj hF
    exact hR _ _ (dtX4_shared_0 46 (79, .ireturn, 1) rfl)
  have l6 : ∀ (n6 : Nat) (v3 : Int32) (v4 : Int32), L_X4_shared_4 p1 m0 n6 v3 v4 = some rv → G X K 4 [(0, .ref (xad X (3, 0, 0, 0))), (1, .int p1), (2, .int v3), (3, .int v4)] [] m0 := by
    intro n6
    induction n6 with
    | zero => intro v3 v4 hF; exact nomatch (show (none : Option Int32) = some rv from hF)
    | succ n6 ih6 =>
      intro v3 v4 hF
      rw [L_X4_shared_4] at hF
      refine r_iload_n hk 3 (dtX4_shared_0 4 (4, .iload_n 3, 1) rfl) rfl ?_
      refine r_bipush (v := 8) hk (dtX4_shared_0 5 (5, .bipush 8, 2) rfl) (by decide) ?_
      refine r_icmp_ge hk 78 hF (dtX4_shared_0 6 (7, .if_icmp .ge 71, 3) rfl) (by decide) (fun hF => ?_) (fun hF => ?_)
      · exact r_sub hk [2] rfl (e78_2 v3 hF)
      · refine r_iconst (v := 0) hk (dtX4_shared_0 7 (10, .iconst 0, 1) rfl) (by decide) ?_
        refine r_istore hk [(4, .int 0), (0, .ref (xad X (3, 0, 0, 0))), (1, .int p1), (2, .int v3), (3, .int v4)] (dtX4_shared_0 8 (11, .istore 4, 2) rfl) (by decide) rfl ?_
        refine r_iconst (v := 0) hk (dtX4_shared_0 9 (13, .iconst 0, 1) rfl) (by decide) ?_
        refine r_istore hk [(5, .int 0), (4, .int 0), (0, .ref (xad X (3, 0, 0, 0))), (1, .int p1), (2, .int v3), (3, .int v4)] (dtX4_shared_0 10 (14, .istore 5, 2) rfl) (by decide) rfl ?_
        have e58_8 : ∀ (v7 : Int32), (C_X4_shared_58 p1 v3 v4 (fun w0 w1 => L_X4_shared_4 p1 m0 n6 w0 w1)) v7 = some rv → G X K 58 [(0, .ref (xad X (3, 0, 0, 0))), (1, .int p1), (2, .int v3), (3, .int v4), (4, .int v7)] [] m0 := by
          intro v7 hF
          unfold C_X4_shared_58 at hF
          refine r_iload_n hk 2 (dtX4_shared_0 34 (58, .iload_n 2, 1) rfl) rfl ?_
          refine r_iload hk 4 (dtX4_shared_0 35 (59, .iload 4, 2) rfl) rfl ?_
          refine r_iload_n hk 1 (dtX4_shared_0 36 (61, .iload_n 1, 1) rfl) rfl ?_
          have j70_10 : ∀ (v9 : Int32), (J_X4_shared_70 v3 v4 (fun w0 w1 => L_X4_shared_4 p1 m0 n6 w0 w1)) v9 = some rv → G X K 70 [(0, .ref (xad X (3, 0, 0, 0))), (1, .int p1), (3, .int v4)] [.int v9, .int v3] m0 := by
            intro v9 hF
            unfold J_X4_shared_70 at hF
            refine r_iadd hk hF (dtX4_shared_0 41 (70, .iadd, 1) rfl) (fun v11 hF => ?_)
            refine r_istore_n hk [(2, .int v11), (0, .ref (xad X (3, 0, 0, 0))), (1, .int p1), (3, .int v4)] (dtX4_shared_0 42 (71, .istore_n 2, 1) rfl) (by decide) rfl ?_
            refine r_iinc hk 1 3 (fun v12 => [(3, .int v12), (2, .int v11), (0, .ref (xad X (3, 0, 0, 0))), (1, .int p1)]) hF (dtX4_shared_0 43 (72, .iinc 3 1, 3) rfl) rfl (by decide) (by decide) (fun _ => rfl) (fun v12 hF => ?_)
            refine r_goto hk 4 (dtX4_shared_0 44 (75, .goto (-71), 3) rfl) (by decide) ?_
            exact r_sub hk [2, 3, 1, 0] rfl (ih6 v11 v12 hF)
          refine r_icmp_lt hk 69 hF (dtX4_shared_0 37 (62, .if_icmp .lt 7, 3) rfl) (by decide) (fun hF => ?_) (fun hF => ?_)
          · refine r_iconst (v := 0) hk (dtX4_shared_0 40 (69, .iconst 0, 1) rfl) (by decide) ?_
            exact r_sub hk [0, 1, 3] rfl (j70_10 0 hF)
          · refine r_iconst (v := 1) hk (dtX4_shared_0 38 (65, .iconst 1, 1) rfl) (by decide) ?_
            refine r_goto hk 70 (dtX4_shared_0 39 (66, .goto 4, 3) rfl) (by decide) ?_
            exact r_sub hk [0, 1, 3] rfl (j70_10 1 hF)
        have l16 : ∀ (n16 : Nat) (v13 : Int32) (v14 : Int32), L_X4_shared_16 p1 m0 v3 v4 (fun w0 w1 => L_X4_shared_4 p1 m0 n6 w0 w1) n16 v13 v14 = some rv → G X K 16 [(0, .ref (xad X (3, 0, 0, 0))), (1, .int p1), (2, .int v3), (3, .int v4), (4, .int v13), (5, .int v14)] [] m0 := by
          intro n16
          induction n16 with
          | zero => intro v13 v14 hF; exact nomatch (show (none : Option Int32) = some rv from hF)
          | succ n16 ih16 =>
            intro v13 v14 hF
            rw [L_X4_shared_16] at hF
            refine r_iload hk 5 (dtX4_shared_0 11 (16, .iload 5, 2) rfl) rfl ?_
            refine r_iconst (v := 3) hk (dtX4_shared_0 12 (18, .iconst 3, 1) rfl) (by decide) ?_
            refine r_icmp_ge hk 58 hF (dtX4_shared_0 13 (19, .if_icmp .ge 39, 3) rfl) (by decide) (fun hF => ?_) (fun hF => ?_)
            · exact r_sub hk [0, 1, 2, 3, 4] rfl (e58_8 v13 hF)
            · refine r_iload hk 4 (dtX4_shared_0 14 (22, .iload 4, 2) rfl) rfl ?_
              refine r_aload_n hk 0 (dtX4_shared_0 15 (24, .aload_n 0, 1) rfl) rfl ?_
              refine r_getR hk (k := 0) (fsX4 X) cbX4 (by decide) fl_X4_7 (in_mo 0 (by decide)) (fun _ => rfl) (fun _ _ => rfl) (dtX4_shared_0 16 (25, .getfield 7, 3) rfl) ?_
              refine r_sipush (v := 1081) hk (dtX4_shared_0 17 (28, .sipush 1081, 3) rfl) (by decide) ?_
              refine r_bipush (v := 8) hk (dtX4_shared_0 18 (31, .bipush 8, 2) rfl) (by decide) ?_
              refine r_iload hk 5 (dtX4_shared_0 19 (33, .iload 5, 2) rfl) rfl ?_
              refine r_imul hk hF (dtX4_shared_0 20 (35, .imul, 1) rfl) (fun v17 hF => ?_)
              refine r_iadd hk hF (dtX4_shared_0 21 (36, .iadd, 1) rfl) (fun v18 hF => ?_)
              refine r_iload_n hk 3 (dtX4_shared_0 22 (37, .iload_n 3, 1) rfl) rfl ?_
              refine r_iadd hk hF (dtX4_shared_0 23 (38, .iadd, 1) rfl) (fun v19 hF => ?_)
              refine r_iald hk (in_mo 1 (by decide)) (fun _ => rfl) hF (dtX4_shared_0 24 (39, .iaload, 1) rfl) (fun v20 hF => ?_)
              refine r_iconst (v := (-1)) hk (dtX4_shared_0 25 (40, .iconst (-1), 1) rfl) (by decide) ?_
              have j49_22 : ∀ (v21 : Int32), (J_X4_shared_49 v13 v14 (fun w0 w1 => L_X4_shared_16 p1 m0 v3 v4 (fun w0 w1 => L_X4_shared_4 p1 m0 n6 w0 w1) n16 w0 w1)) v21 = some rv → G X K 49 [(0, .ref (xad X (3, 0, 0, 0))), (1, .int p1), (2, .int v3), (3, .int v4), (5, .int v14)] [.int v21, .int v13] m0 := by
                intro v21 hF
                unfold J_X4_shared_49 at hF
                refine r_iadd hk hF (dtX4_shared_0 30 (49, .iadd, 1) rfl) (fun v23 hF => ?_)
                refine r_istore hk [(4, .int v23), (0, .ref (xad X (3, 0, 0, 0))), (1, .int p1), (2, .int v3), (3, .int v4), (5, .int v14)] (dtX4_shared_0 31 (50, .istore 4, 2) rfl) (by decide) rfl ?_
                refine r_iinc hk 1 5 (fun v24 => [(5, .int v24), (4, .int v23), (0, .ref (xad X (3, 0, 0, 0))), (1, .int p1), (2, .int v3), (3, .int v4)]) hF (dtX4_shared_0 32 (52, .iinc 5 1, 3) rfl) rfl (by decide) (by decide) (fun _ => rfl) (fun v24 hF => ?_)
                refine r_goto hk 16 (dtX4_shared_0 33 (55, .goto (-39), 3) rfl) (by decide) ?_
                exact r_sub hk [2, 3, 4, 5, 1, 0] rfl (ih16 v23 v24 hF)
              refine r_icmp_ne hk 48 hF (dtX4_shared_0 26 (41, .if_icmp .ne 7, 3) rfl) (by decide) (fun hF => ?_) (fun hF => ?_)
              · refine r_iconst (v := 1) hk (dtX4_shared_0 29 (48, .iconst 1, 1) rfl) (by decide) ?_
                exact r_sub hk [0, 1, 2, 3, 5] rfl (j49_22 1 hF)
              · refine r_iconst (v := 0) hk (dtX4_shared_0 27 (44, .iconst 0, 1) rfl) (by decide) ?_
                refine r_goto hk 49 (dtX4_shared_0 28 (45, .goto 4, 3) rfl) (by decide) ?_
                exact r_sub hk [0, 1, 2, 3, 5] rfl (j49_22 0 hF)
        exact r_sub hk [2, 3, 4, 5, 1, 0] rfl (l16 fu 0 0 hF)
  exact r_sub hk [2, 3, 1, 0] rfl (l6 fu 0 0 hF)
set_option maxHeartbeats 4000000 in
set_option maxRecDepth 100000 in
theorem c_X4_sum (l : Launch) (hlf : l.stackTraces = false) (X : XW)  (p1 : Int32) (p2 : Int32) (m0 : Mem) (rv : Int32) (hF : F_X4_sum p1 p2 m0 = some rv) : MX X l yX4_sum cX4_sum 5 (some .int) 0 [.ref (xad X (3, 0, 0, 0)), .int p1, .int p2] m0 (QI X rv m0) := by
  refine startI hlf (by decide +kernel) rfl [(0, .ref (xad X (3, 0, 0, 0))), (1, .int p1), (2, .int p2)] rfl (Nat.le_of_ble_eq_true rfl) (fun K hk hR => ?_)
  unfold F_X4_sum at hF
  refine r_iconst (v := 0) hk (dtX4_sum_0 0 (0, .iconst 0, 1) rfl) (by decide) ?_
  refine r_istore_n hk [(3, .int 0), (0, .ref (xad X (3, 0, 0, 0))), (1, .int p1), (2, .int p2)] (dtX4_sum_0 1 (1, .istore_n 3, 1) rfl) (by decide) rfl ?_
  refine r_iconst (v := 0) hk (dtX4_sum_0 2 (2, .iconst 0, 1) rfl) (by decide) ?_
  refine r_istore hk [(4, .int 0), (3, .int 0), (0, .ref (xad X (3, 0, 0, 0))), (1, .int p1), (2, .int p2)] (dtX4_sum_0 3 (3, .istore 4, 2) rfl) (by decide) rfl ?_
  have e29_2 : ∀ (v1 : Int32), C_X4_sum_29 v1 = some rv → G X K 29 [(3, .int v1)] [] m0 := by
    intro v1 hF
    unfold C_X4_sum_29 at hF
    refine r_iload_n hk 0 (dtX4_sum_0 18 (29, .iload_n 3, 1) rfl) rfl ?_
    cases Option.some.inj hF
    exact hR _ _ (dtX4_sum_0 19 (30, .ireturn, 1) rfl)
  have l6 : ∀ (n6 : Nat) (v3 : Int32) (v4 : Int32), L_X4_sum_5 p1 p2 m0 n6 v3 v4 = some rv → G X K 5 [(0, .ref (xad X (3, 0, 0, 0))), (1, .int p1), (2, .int p2), (3, .int v3), (4, .int v4)] [] m0 := by
    intro n6
    induction n6 with
    | zero => intro v3 v4 hF; exact nomatch (show (none : Option Int32) = some rv from hF)
    | succ n6 ih6 =>
      intro v3 v4 hF
      rw [L_X4_sum_5] at hF
      refine r_iload hk 4 (dtX4_sum_0 4 (5, .iload 4, 2) rfl) rfl ?_
      refine r_iload_n hk 2 (dtX4_sum_0 5 (7, .iload_n 2, 1) rfl) rfl ?_
      refine r_icmp_ge hk 29 hF (dtX4_sum_0 6 (8, .if_icmp .ge 21, 3) rfl) (by decide) (fun hF => ?_) (fun hF => ?_)
      · exact r_sub hk [3] rfl (e29_2 v3 hF)
      · refine r_iload_n hk 3 (dtX4_sum_0 7 (11, .iload_n 3, 1) rfl) rfl ?_
        refine r_aload_n hk 0 (dtX4_sum_0 8 (12, .aload_n 0, 1) rfl) rfl ?_
        refine r_getR hk (k := 0) (fsX4 X) cbX4 (by decide) fl_X4_7 (in_mo 0 (by decide)) (fun _ => rfl) (fun _ _ => rfl) (dtX4_sum_0 9 (13, .getfield 7, 3) rfl) ?_
        refine r_iload_n hk 1 (dtX4_sum_0 10 (16, .iload_n 1, 1) rfl) rfl ?_
        refine r_iload hk 4 (dtX4_sum_0 11 (17, .iload 4, 2) rfl) rfl ?_
        refine r_iadd hk hF (dtX4_sum_0 12 (19, .iadd, 1) rfl) (fun v7 hF => ?_)
        refine r_iald hk (in_mo 1 (by decide)) (fun _ => rfl) hF (dtX4_sum_0 13 (20, .iaload, 1) rfl) (fun v8 hF => ?_)
        refine r_iadd hk hF (dtX4_sum_0 14 (21, .iadd, 1) rfl) (fun v9 hF => ?_)
        refine r_istore_n hk [(3, .int v9), (0, .ref (xad X (3, 0, 0, 0))), (1, .int p1), (2, .int p2), (4, .int v4)] (dtX4_sum_0 15 (22, .istore_n 3, 1) rfl) (by decide) rfl ?_
        refine r_iinc hk 1 4 (fun v10 => [(4, .int v10), (3, .int v9), (0, .ref (xad X (3, 0, 0, 0))), (1, .int p1), (2, .int p2)]) hF (dtX4_sum_0 16 (23, .iinc 4 1, 3) rfl) rfl (by decide) (by decide) (fun _ => rfl) (fun v10 hF => ?_)
        refine r_goto hk 5 (dtX4_sum_0 17 (26, .goto (-21), 3) rfl) (by decide) ?_
        exact r_sub hk [2, 3, 4, 1, 0] rfl (ih6 v9 v10 hF)
  exact r_sub hk [2, 3, 4, 1, 0] rfl (l6 fu 0 0 hF)
set_option maxHeartbeats 4000000 in
set_option maxRecDepth 100000 in
theorem c_X4_counted (l : Launch) (hlf : l.stackTraces = false) (X : XW)  (p1 : Int32) (m0 : Mem) (rv : Int32) (hF : F_X4_counted p1 m0 = some rv) : MX X l yX4_counted cX4_counted 2 (some .int) 4 [.ref (xad X (3, 0, 0, 0)), .int p1] m0 (QI X rv m0) := by
  refine startI hlf (by decide +kernel) rfl [(0, .ref (xad X (3, 0, 0, 0))), (1, .int p1)] rfl (Nat.le_of_ble_eq_true rfl) (fun K hk hR => ?_)
  unfold F_X4_counted at hF
  refine r_iload_n hk 1 (dtX4_counted_0 0 (0, .iload_n 1, 1) rfl) rfl ?_
  by_cases hs1_0 : p1 = 0
  · rw [if_pos hs1_0] at hF
    refine r_tabIn hk 44 (dtX4_counted_0 1 (1, .tableswitch 96 0 6 #[43, 48, 57, 62, 68, 77, 87], 43) rfl) (by rw [hs1_0]; decide) (by rw [hs1_0]; decide) (by rw [hs1_0]; rfl) (by decide) ?_
    refine r_aload_n hk 0 (dtX4_counted_0 2 (44, .aload_n 0, 1) rfl) rfl ?_
    refine r_callI hF (fun v1 h H locs ls hH hS hl => run_V (y := yX4_inTable) hk (in_mo 0 (by decide)) rfl rfl (c_X4_inTable (kl K) hk.2.2.2.2.2.2.2.2.2.2.2 X   m0 v1 h) lk_X4_74 me_X4_inTable yf_X4_inTable (by decide) (by decide) rfl (Nat.le_of_ble_eq_true rfl) rfl (dtX4_counted_0 3 (45, .invokevirtual 74, 3) rfl) hH hS hl) (fun v1 hF => ?_)
    cases Option.some.inj hF
    exact hR _ _ (dtX4_counted_0 4 (48, .ireturn, 1) rfl)
  · rw [if_neg hs1_0] at hF
    by_cases hs1_1 : p1 = 1
    · rw [if_pos hs1_1] at hF
      refine r_tabIn hk 49 (dtX4_counted_0 1 (1, .tableswitch 96 0 6 #[43, 48, 57, 62, 68, 77, 87], 43) rfl) (by rw [hs1_1]; decide) (by rw [hs1_1]; decide) (by rw [hs1_1]; rfl) (by decide) ?_
      refine r_aload_n hk 0 (dtX4_counted_0 5 (49, .aload_n 0, 1) rfl) rfl ?_
      refine r_getR hk (k := 0) (fsX4 X) cbX4 (by decide) fl_X4_7 (in_mo 0 (by decide)) (fun _ => rfl) (fun _ _ => rfl) (dtX4_counted_0 6 (50, .getfield 7, 3) rfl) ?_
      refine r_sipush (v := 1080) hk (dtX4_counted_0 7 (53, .sipush 1080, 3) rfl) (by decide) ?_
      refine r_iald hk (in_mo 1 (by decide)) (fun _ => rfl) hF (dtX4_counted_0 8 (56, .iaload, 1) rfl) (fun v2 hF => ?_)
      cases Option.some.inj hF
      exact hR _ _ (dtX4_counted_0 9 (57, .ireturn, 1) rfl)
    · rw [if_neg hs1_1] at hF
      by_cases hs1_2 : p1 = 2
      · rw [if_pos hs1_2] at hF
        refine r_tabIn hk 58 (dtX4_counted_0 1 (1, .tableswitch 96 0 6 #[43, 48, 57, 62, 68, 77, 87], 43) rfl) (by rw [hs1_2]; decide) (by rw [hs1_2]; decide) (by rw [hs1_2]; rfl) (by decide) ?_
        refine r_aload_n hk 0 (dtX4_counted_0 10 (58, .aload_n 0, 1) rfl) rfl ?_
        refine r_callI hF (fun v3 h H locs ls hH hS hl => run_V (y := yX4_tableValues) hk (in_mo 0 (by decide)) rfl rfl (c_X4_tableValues (kl K) hk.2.2.2.2.2.2.2.2.2.2.2 X   m0 v3 h) lk_X4_157 me_X4_tableValues yf_X4_tableValues (by decide) (by decide) rfl (Nat.le_of_ble_eq_true rfl) rfl (dtX4_counted_0 11 (59, .invokevirtual 157, 3) rfl) hH hS hl) (fun v3 hF => ?_)
        cases Option.some.inj hF
        exact hR _ _ (dtX4_counted_0 12 (62, .ireturn, 1) rfl)
      · rw [if_neg hs1_2] at hF
        by_cases hs1_3 : p1 = 3
        · rw [if_pos hs1_3] at hF
          refine r_tabIn hk 63 (dtX4_counted_0 1 (1, .tableswitch 96 0 6 #[43, 48, 57, 62, 68, 77, 87], 43) rfl) (by rw [hs1_3]; decide) (by rw [hs1_3]; decide) (by rw [hs1_3]; rfl) (by decide) ?_
          refine r_aload_n hk 0 (dtX4_counted_0 13 (63, .aload_n 0, 1) rfl) rfl ?_
          refine r_iconst (v := 2) hk (dtX4_counted_0 14 (64, .iconst 2, 1) rfl) (by decide) ?_
          refine r_callI hF (fun v4 h H locs ls hH hS hl => run_V (y := yX4_shared) hk (in_mo 0 (by decide)) rfl rfl (c_X4_shared (kl K) hk.2.2.2.2.2.2.2.2.2.2.2 X  2 m0 v4 h) lk_X4_160 me_X4_shared yf_X4_shared (by decide) (by decide) rfl (Nat.le_of_ble_eq_true rfl) rfl (dtX4_counted_0 15 (65, .invokevirtual 160, 3) rfl) hH hS hl) (fun v4 hF => ?_)
          cases Option.some.inj hF
          exact hR _ _ (dtX4_counted_0 16 (68, .ireturn, 1) rfl)
        · rw [if_neg hs1_3] at hF
          by_cases hs1_4 : p1 = 4
          · rw [if_pos hs1_4] at hF
            refine r_tabIn hk 69 (dtX4_counted_0 1 (1, .tableswitch 96 0 6 #[43, 48, 57, 62, 68, 77, 87], 43) rfl) (by rw [hs1_4]; decide) (by rw [hs1_4]; decide) (by rw [hs1_4]; rfl) (by decide) ?_
            refine r_bipush (v := 8) hk (dtX4_counted_0 17 (69, .bipush 8, 2) rfl) (by decide) ?_
            refine r_aload_n hk 0 (dtX4_counted_0 18 (71, .aload_n 0, 1) rfl) rfl ?_
            refine r_iconst (v := 1) hk (dtX4_counted_0 19 (72, .iconst 1, 1) rfl) (by decide) ?_
            refine r_callI hF (fun v5 h H locs ls hH hS hl => run_V (y := yX4_shared) hk (in_mo 0 (by decide)) rfl rfl (c_X4_shared (kl K) hk.2.2.2.2.2.2.2.2.2.2.2 X  1 m0 v5 h) lk_X4_160 me_X4_shared yf_X4_shared (by decide) (by decide) rfl (Nat.le_of_ble_eq_true rfl) rfl (dtX4_counted_0 20 (73, .invokevirtual 160, 3) rfl) hH hS hl) (fun v5 hF => ?_)
            refine r_isub hk hF (dtX4_counted_0 21 (76, .isub, 1) rfl) (fun v6 hF => ?_)
            cases Option.some.inj hF
            exact hR _ _ (dtX4_counted_0 22 (77, .ireturn, 1) rfl)
          · rw [if_neg hs1_4] at hF
            by_cases hs1_5 : p1 = 5
            · rw [if_pos hs1_5] at hF
              refine r_tabIn hk 78 (dtX4_counted_0 1 (1, .tableswitch 96 0 6 #[43, 48, 57, 62, 68, 77, 87], 43) rfl) (by rw [hs1_5]; decide) (by rw [hs1_5]; decide) (by rw [hs1_5]; rfl) (by decide) ?_
              refine r_aload_n hk 0 (dtX4_counted_0 23 (78, .aload_n 0, 1) rfl) rfl ?_
              refine r_sipush (v := 1129) hk (dtX4_counted_0 24 (79, .sipush 1129, 3) rfl) (by decide) ?_
              refine r_bipush (v := 24) hk (dtX4_counted_0 25 (82, .bipush 24, 2) rfl) (by decide) ?_
              refine r_callI hF (fun v7 h H locs ls hH hS hl => run_V (y := yX4_sum) hk (in_mo 0 (by decide)) rfl rfl (c_X4_sum (kl K) hk.2.2.2.2.2.2.2.2.2.2.2 X  1129 24 m0 v7 h) lk_X4_163 me_X4_sum yf_X4_sum (by decide) (by decide) rfl (Nat.le_of_ble_eq_true rfl) rfl (dtX4_counted_0 26 (84, .invokevirtual 163, 3) rfl) hH hS hl) (fun v7 hF => ?_)
              cases Option.some.inj hF
              exact hR _ _ (dtX4_counted_0 27 (87, .ireturn, 1) rfl)
            · rw [if_neg hs1_5] at hF
              by_cases hs1_6 : p1 = 6
              · rw [if_pos hs1_6] at hF
                refine r_tabIn hk 88 (dtX4_counted_0 1 (1, .tableswitch 96 0 6 #[43, 48, 57, 62, 68, 77, 87], 43) rfl) (by rw [hs1_6]; decide) (by rw [hs1_6]; decide) (by rw [hs1_6]; rfl) (by decide) ?_
                refine r_aload_n hk 0 (dtX4_counted_0 28 (88, .aload_n 0, 1) rfl) rfl ?_
                refine r_sipush (v := 1159) hk (dtX4_counted_0 29 (89, .sipush 1159, 3) rfl) (by decide) ?_
                refine r_iconst (v := 3) hk (dtX4_counted_0 30 (92, .iconst 3, 1) rfl) (by decide) ?_
                refine r_callI hF (fun v8 h H locs ls hH hS hl => run_V (y := yX4_sum) hk (in_mo 0 (by decide)) rfl rfl (c_X4_sum (kl K) hk.2.2.2.2.2.2.2.2.2.2.2 X  1159 3 m0 v8 h) lk_X4_163 me_X4_sum yf_X4_sum (by decide) (by decide) rfl (Nat.le_of_ble_eq_true rfl) rfl (dtX4_counted_0 31 (93, .invokevirtual 163, 3) rfl) hH hS hl) (fun v8 hF => ?_)
                cases Option.some.inj hF
                exact hR _ _ (dtX4_counted_0 32 (96, .ireturn, 1) rfl)
              · rw [if_neg hs1_6] at hF
                refine r_tabOut hk 97 (dtX4_counted_0 1 (1, .tableswitch 96 0 6 #[43, 48, 57, 62, 68, 77, 87], 43) rfl) (by have q0 := lv_neT hs1_0 (a := 0) rfl; have q1 := lv_neT hs1_1 (a := 1) rfl; have q2 := lv_neT hs1_2 (a := 2) rfl; have q3 := lv_neT hs1_3 (a := 3) rfl; have q4 := lv_neT hs1_4 (a := 4) rfl; have q5 := lv_neT hs1_5 (a := 5) rfl; have q6 := lv_neT hs1_6 (a := 6) rfl; omega) (by decide) ?_
                refine r_aload_n hk 0 (dtX4_counted_0 33 (97, .aload_n 0, 1) rfl) rfl ?_
                refine r_getI hk (k := 3) (fsX4 X) cbX4 (by decide) fl_X4_34 (in_mo 0 (by decide)) (fun _ => rfl) (fun _ _ => rfl) hF (dtX4_counted_0 34 (98, .getfield 34, 3) rfl) (fun v9 hF => ?_)
                cases Option.some.inj hF
                exact hR _ _ (dtX4_counted_0 35 (101, .ireturn, 1) rfl)
set_option maxHeartbeats 4000000 in
set_option maxRecDepth 100000 in
theorem c_X4_count (l : Launch) (hlf : l.stackTraces = false) (X : XW)  (p1 : Int32) (m0 : Mem) (rv : Int32) (mE : Mem) (hF : F_X4_count p1 m0 = some (rv, mE)) : MX X l yX4_count cX4_count 2 (some .int) 5 [.ref (xad X (3, 0, 0, 0)), .int p1] m0 (QI X rv mE) := by
  refine startI hlf (by decide +kernel) rfl [(0, .ref (xad X (3, 0, 0, 0))), (1, .int p1)] rfl (Nat.le_of_ble_eq_true rfl) (fun K hk hR => ?_)
  unfold F_X4_count at hF
  refine r_aload_n hk 0 (dtX4_count_0 0 (0, .aload_n 0, 1) rfl) rfl ?_
  refine r_iconst (v := 0) hk (dtX4_count_0 1 (1, .iconst 0, 1) rfl) (by decide) ?_
  refine r_putI hk (k := 6) (fsX4 X) cbX4 (by decide) fl_X4_25 (in_mo 0 (by decide)) (fun _ => rfl) rfl rfl (fun _ _ _ => rfl) (fun _ _ => (by decide : 6 < 11)) hF (dtX4_count_0 2 (2, .putfield 25, 3) rfl) (fun m1 hF => ?_)
  refine r_iload_n hk 1 (dtX4_count_0 3 (5, .iload_n 1, 1) rfl) rfl ?_
  refine r_iconst (v := 0) hk (dtX4_count_0 4 (6, .iconst 0, 1) rfl) (by decide) ?_
  refine r_bipush (v := 7) hk (dtX4_count_0 5 (7, .bipush 7, 2) rfl) (by decide) ?_
  refine r_callI hF (fun v2 h H locs ls hH hS hl => run_S hk (c_X4_in (kl K) hk.2.2.2.2.2.2.2.2.2.2.2 X  p1 0 7 m1 v2 h) lk_X4_29 me_X4_in yf_X4_in (by decide) (by decide) rfl (Nat.le_of_ble_eq_true rfl) rfl (dtX4_count_0 6 (9, .invokestatic 29, 3) rfl) hH hS hl) (fun v2 hF => ?_)
  have j28_5 : ∀ (v3 : Int32) (m4 : Mem), J_X4_count_28 v3 m4 = some (rv, mE) → G X K 28 [] [.int v3] m4 := by
    intro v3 m4 hF
    unfold J_X4_count_28 at hF
    cases Option.some.inj hF
    exact hR _ _ (dtX4_count_0 15 (28, .ireturn, 1) rfl)
  refine r_if_eq hk 23 hF (dtX4_count_0 7 (12, .ifCond .eq 11, 3) rfl) (by decide) (fun hF => ?_) (fun hF => ?_)
  · refine r_aload_n hk 0 (dtX4_count_0 12 (23, .aload_n 0, 1) rfl) rfl ?_
    refine r_iconst (v := 1) hk (dtX4_count_0 13 (24, .iconst 1, 1) rfl) (by decide) ?_
    refine r_callIm hF (fun v6 m7 h H locs ls hH hS hl => run_V (y := yX4_fails) hk (in_mo 0 (by decide)) rfl rfl (c_X4_fails (kl K) hk.2.2.2.2.2.2.2.2.2.2.2 X  1 m1 v6 m7 h) lk_X4_37 me_X4_fails yf_X4_fails (by decide) (by decide) rfl (Nat.le_of_ble_eq_true rfl) rfl (dtX4_count_0 14 (25, .invokevirtual 37, 3) rfl) hH hS hl) (fun v6 m7 hF => ?_)
    exact r_sub hk [] rfl (j28_5 v6 m7 hF)
  · refine r_aload_n hk 0 (dtX4_count_0 8 (15, .aload_n 0, 1) rfl) rfl ?_
    refine r_iload_n hk 1 (dtX4_count_0 9 (16, .iload_n 1, 1) rfl) rfl ?_
    refine r_callI hF (fun v8 h H locs ls hH hS hl => run_V (y := yX4_counted) hk (in_mo 0 (by decide)) rfl rfl (c_X4_counted (kl K) hk.2.2.2.2.2.2.2.2.2.2.2 X  p1 m1 v8 h) lk_X4_166 me_X4_counted yf_X4_counted (by decide) (by decide) rfl (Nat.le_of_ble_eq_true rfl) rfl (dtX4_count_0 10 (17, .invokevirtual 166, 3) rfl) hH hS hl) (fun v8 hF => ?_)
    refine r_goto hk 28 (dtX4_count_0 11 (20, .goto 8, 3) rfl) (by decide) ?_
    exact r_sub hk [] rfl (j28_5 v8 m1 hF)
set_option maxHeartbeats 4000000 in
set_option maxRecDepth 100000 in
theorem c_X4_looked (l : Launch) (hlf : l.stackTraces = false) (X : XW)  (p1 : Int32) (p2 : Int32) (m0 : Mem) (rv : Int32) (mE : Mem) (hF : F_X4_looked p1 p2 m0 = some (rv, mE)) : MX X l yX4_looked cX4_looked 3 (some .int) 4 [.ref (xad X (3, 0, 0, 0)), .int p1, .int p2] m0 (QI X rv mE) := by
  refine startI hlf (by decide +kernel) rfl [(0, .ref (xad X (3, 0, 0, 0))), (1, .int p1), (2, .int p2)] rfl (Nat.le_of_ble_eq_true rfl) (fun K hk hR => ?_)
  unfold F_X4_looked at hF
  refine r_aload_n hk 0 (dtX4_looked_0 0 (0, .aload_n 0, 1) rfl) rfl ?_
  refine r_iconst (v := 0) hk (dtX4_looked_0 1 (1, .iconst 0, 1) rfl) (by decide) ?_
  refine r_putI hk (k := 6) (fsX4 X) cbX4 (by decide) fl_X4_25 (in_mo 0 (by decide)) (fun _ => rfl) rfl rfl (fun _ _ _ => rfl) (fun _ _ => (by decide : 6 < 11)) hF (dtX4_looked_0 2 (2, .putfield 25, 3) rfl) (fun m1 hF => ?_)
  refine r_iload_n hk 1 (dtX4_looked_0 3 (5, .iload_n 1, 1) rfl) rfl ?_
  refine r_callI hF (fun v2 h H locs ls hH hS hl => run_S hk (c_X4_isTenant (kl K) hk.2.2.2.2.2.2.2.2.2.2.2 X  p1 m1 v2 h) lk_X4_47 me_X4_isTenant yf_X4_isTenant (by decide) (by decide) rfl (Nat.le_of_ble_eq_true rfl) rfl (dtX4_looked_0 4 (6, .invokestatic 47, 3) rfl) hH hS hl) (fun v2 hF => ?_)
  refine r_if_ne hk 18 hF (dtX4_looked_0 5 (9, .ifCond .ne 9, 3) rfl) (by decide) (fun hF => ?_) (fun hF => ?_)
  · refine r_aload_n hk 0 (dtX4_looked_0 10 (18, .aload_n 0, 1) rfl) rfl ?_
    refine r_callIm hF (fun v3 m4 h H locs ls hH hS hl => run_V (y := yX4_isText) hk (in_mo 0 (by decide)) rfl rfl (c_X4_isText (kl K) hk.2.2.2.2.2.2.2.2.2.2.2 X   m1 v3 m4 h) lk_X4_115 me_X4_isText yf_X4_isText (by decide) (by decide) rfl (Nat.le_of_ble_eq_true rfl) rfl (dtX4_looked_0 11 (19, .invokevirtual 115, 3) rfl) hH hS hl) (fun v3 m4 hF => ?_)
    have j35_6 : ∀ (v5 : Int32), (J_X4_looked_35 m4) v5 = some (rv, mE) → G X K 35 [] [.int v5] m4 := by
      intro v5 hF
      unfold J_X4_looked_35 at hF
      cases Option.some.inj hF
      exact hR _ _ (dtX4_looked_0 19 (35, .ireturn, 1) rfl)
    refine r_if_eq hk 34 hF (dtX4_looked_0 12 (22, .ifCond .eq 12, 3) rfl) (by decide) (fun hF => ?_) (fun hF => ?_)
    · refine r_iconst (v := (-1)) hk (dtX4_looked_0 18 (34, .iconst (-1), 1) rfl) (by decide) ?_
      exact r_sub hk [] rfl (j35_6 (-1) hF)
    · refine r_aload_n hk 0 (dtX4_looked_0 13 (25, .aload_n 0, 1) rfl) rfl ?_
      refine r_iload_n hk 1 (dtX4_looked_0 14 (26, .iload_n 1, 1) rfl) rfl ?_
      refine r_iload_n hk 2 (dtX4_looked_0 15 (27, .iload_n 2, 1) rfl) rfl ?_
      refine r_callI hF (fun v7 h H locs ls hH hS hl => run_V (y := yX4_looks) hk (in_mo 0 (by decide)) rfl rfl (c_X4_looks (kl K) hk.2.2.2.2.2.2.2.2.2.2.2 X  p1 p2 m4 v7 h) lk_X4_130 me_X4_looks yf_X4_looks (by decide) (by decide) rfl (Nat.le_of_ble_eq_true rfl) rfl (dtX4_looked_0 16 (28, .invokevirtual 130, 3) rfl) hH hS hl) (fun v7 hF => ?_)
      refine r_goto hk 35 (dtX4_looked_0 17 (31, .goto 4, 3) rfl) (by decide) ?_
      exact r_sub hk [] rfl (j35_6 v7 hF)
  · refine r_aload_n hk 0 (dtX4_looked_0 6 (12, .aload_n 0, 1) rfl) rfl ?_
    refine r_iconst (v := 1) hk (dtX4_looked_0 7 (13, .iconst 1, 1) rfl) (by decide) ?_
    refine r_callIm hF (fun v8 m9 h H locs ls hH hS hl => run_V (y := yX4_fails) hk (in_mo 0 (by decide)) rfl rfl (c_X4_fails (kl K) hk.2.2.2.2.2.2.2.2.2.2.2 X  1 m1 v8 m9 h) lk_X4_37 me_X4_fails yf_X4_fails (by decide) (by decide) rfl (Nat.le_of_ble_eq_true rfl) rfl (dtX4_looked_0 8 (14, .invokevirtual 37, 3) rfl) hH hS hl) (fun v8 m9 hF => ?_)
    cases Option.some.inj hF
    exact hR _ _ (dtX4_looked_0 9 (17, .ireturn, 1) rfl)
set_option maxHeartbeats 4000000 in
set_option maxRecDepth 100000 in
theorem c_X4_best (l : Launch) (hlf : l.stackTraces = false) (X : XW)  (p1 : Int32) (m0 : Mem) (rv : Int32) (mE : Mem) (hF : F_X4_best p1 m0 = some (rv, mE)) : MX X l yX4_best cX4_best 8 (some .int) 4 [.ref (xad X (3, 0, 0, 0)), .int p1] m0 (QI X rv mE) := by
  refine startI hlf (by decide +kernel) rfl [(0, .ref (xad X (3, 0, 0, 0))), (1, .int p1)] rfl (Nat.le_of_ble_eq_true rfl) (fun K hk hR => ?_)
  unfold F_X4_best at hF
  refine r_iconst (v := (-1)) hk (dtX4_best_0 0 (0, .iconst (-1), 1) rfl) (by decide) ?_
  refine r_istore_n hk [(2, .int (-1)), (0, .ref (xad X (3, 0, 0, 0))), (1, .int p1)] (dtX4_best_0 1 (1, .istore_n 2, 1) rfl) (by decide) rfl ?_
  refine r_aload_n hk 1 (dtX4_best_0 2 (2, .aload_n 0, 1) rfl) rfl ?_
  refine r_iload_n hk 2 (dtX4_best_0 3 (3, .iload_n 1, 1) rfl) rfl ?_
  refine r_iconst (v := 0) hk (dtX4_best_0 4 (4, .iconst 0, 1) rfl) (by decide) ?_
  refine r_callI hF (fun v1 h H locs ls hH hS hl => run_V (y := yX4_looks) hk (in_mo 0 (by decide)) rfl rfl (c_X4_looks (kl K) hk.2.2.2.2.2.2.2.2.2.2.2 X  p1 0 m0 v1 h) lk_X4_130 me_X4_looks yf_X4_looks (by decide) (by decide) rfl (Nat.le_of_ble_eq_true rfl) rfl (dtX4_best_0 5 (5, .invokevirtual 130, 3) rfl) hH hS hl) (fun v1 hF => ?_)
  refine r_istore_n hk [(3, .int v1), (2, .int (-1)), (0, .ref (xad X (3, 0, 0, 0))), (1, .int p1)] (dtX4_best_0 6 (8, .istore_n 3, 1) rfl) (by decide) rfl ?_
  refine r_iconst (v := 0) hk (dtX4_best_0 7 (9, .iconst 0, 1) rfl) (by decide) ?_
  refine r_istore hk [(4, .int 0), (3, .int v1), (2, .int (-1)), (0, .ref (xad X (3, 0, 0, 0))), (1, .int p1)] (dtX4_best_0 8 (10, .istore 4, 2) rfl) (by decide) rfl ?_
  have e145_4 : ∀ (v2 : Int32) (m3 : Mem), C_X4_best_145 v2 m3 = some (rv, mE) → G X K 145 [(2, .int v2)] [] m3 := by
    intro v2 m3 hF
    unfold C_X4_best_145 at hF
    refine r_iload_n hk 0 (dtX4_best_1 21 (145, .iload_n 2, 1) rfl) rfl ?_
    cases Option.some.inj hF
    exact hR _ _ (dtX4_best_1 22 (146, .ireturn, 1) rfl)
  have l10 : ∀ (n10 : Nat) (v5 : Int32) (v6 : Int32) (v7 : Int32) (m8 : Mem), L_X4_best_12 p1 n10 v5 v6 v7 m8 = some (rv, mE) → G X K 12 [(0, .ref (xad X (3, 0, 0, 0))), (1, .int p1), (2, .int v5), (3, .int v6), (4, .int v7)] [] m8 := by
    intro n10
    induction n10 with
    | zero => intro v5 v6 v7 m8 hF; exact nomatch (show (none : Option (Int32 × Mem)) = some (rv, mE) from hF)
    | succ n10 ih10 =>
      intro v5 v6 v7 m8 hF
      rw [L_X4_best_12] at hF
      refine r_iload hk 4 (dtX4_best_0 9 (12, .iload 4, 2) rfl) rfl ?_
      refine r_aload_n hk 0 (dtX4_best_0 10 (14, .aload_n 0, 1) rfl) rfl ?_
      refine r_getI hk (k := 10) (fsX4 X) cbX4 (by decide) fl_X4_109 (in_mo 0 (by decide)) (fun _ => rfl) (fun _ _ => rfl) hF (dtX4_best_0 11 (15, .getfield 109, 3) rfl) (fun v11 hF => ?_)
      refine r_icmp_ge hk 145 hF (dtX4_best_0 12 (18, .if_icmp .ge 127, 3) rfl) (by decide) (fun hF => ?_) (fun hF => ?_)
      · exact r_sub hk [2] rfl (e145_4 v5 m8 hF)
      · refine r_aload_n hk 0 (dtX4_best_0 13 (21, .aload_n 0, 1) rfl) rfl ?_
        refine r_iload_n hk 1 (dtX4_best_0 14 (22, .iload_n 1, 1) rfl) rfl ?_
        refine r_aload_n hk 0 (dtX4_best_0 15 (23, .aload_n 0, 1) rfl) rfl ?_
        refine r_getR hk (k := 9) (fsX4 X) cbX4 (by decide) fl_X4_22 (in_mo 0 (by decide)) (fun _ => rfl) (fun _ _ => rfl) (dtX4_best_0 16 (24, .getfield 22, 3) rfl) ?_
        refine r_iconst (v := 3) hk (dtX4_best_0 17 (27, .iconst 3, 1) rfl) (by decide) ?_
        refine r_iload hk 4 (dtX4_best_0 18 (28, .iload 4, 2) rfl) rfl ?_
        refine r_imul hk hF (dtX4_best_0 19 (30, .imul, 1) rfl) (fun v12 hF => ?_)
        refine r_iald hk (in_mo 5 (by decide)) (fun _ => rfl) hF (dtX4_best_0 20 (31, .iaload, 1) rfl) (fun v13 hF => ?_)
        refine r_callI hF (fun v14 h H locs ls hH hS hl => run_V (y := yX4_columnOf) hk (in_mo 0 (by decide)) rfl rfl (c_X4_columnOf (kl K) hk.2.2.2.2.2.2.2.2.2.2.2 X  p1 v13 m8 v14 h) lk_X4_64 me_X4_columnOf yf_X4_columnOf (by decide) (by decide) rfl (Nat.le_of_ble_eq_true rfl) rfl (dtX4_best_0 21 (32, .invokevirtual 64, 3) rfl) hH hS hl) (fun v14 hF => ?_)
        refine r_istore hk [(5, .int v14), (0, .ref (xad X (3, 0, 0, 0))), (1, .int p1), (2, .int v5), (3, .int v6), (4, .int v7)] (dtX4_best_0 22 (35, .istore 5, 2) rfl) (by decide) rfl ?_
        refine r_sipush (v := 1129) hk (dtX4_best_0 23 (37, .sipush 1129, 3) rfl) (by decide) ?_
        refine r_bipush (v := 8) hk (dtX4_best_0 24 (40, .bipush 8, 2) rfl) (by decide) ?_
        refine r_iload_n hk 2 (dtX4_best_0 25 (42, .iload_n 1, 1) rfl) rfl ?_
        refine r_imul hk hF (dtX4_best_0 26 (43, .imul, 1) rfl) (fun v15 hF => ?_)
        refine r_iadd hk hF (dtX4_best_0 27 (44, .iadd, 1) rfl) (fun v16 hF => ?_)
        refine r_iload hk 0 (dtX4_best_0 28 (45, .iload 5, 2) rfl) rfl ?_
        refine r_iadd hk hF (dtX4_best_0 29 (47, .iadd, 1) rfl) (fun v17 hF => ?_)
        refine r_istore hk [(6, .int v17), (5, .int v14), (0, .ref (xad X (3, 0, 0, 0))), (1, .int p1), (2, .int v5), (3, .int v6), (4, .int v7)] (dtX4_best_0 30 (48, .istore 6, 2) rfl) (by decide) rfl ?_
        refine r_aload_n hk 2 (dtX4_best_0 31 (50, .aload_n 0, 1) rfl) rfl ?_
        refine r_getR hk (k := 9) (fsX4 X) cbX4 (by decide) fl_X4_22 (in_mo 0 (by decide)) (fun _ => rfl) (fun _ _ => rfl) (dtX4_best_0 32 (51, .getfield 22, 3) rfl) ?_
        refine r_iconst (v := 3) hk (dtX4_best_0 33 (54, .iconst 3, 1) rfl) (by decide) ?_
        refine r_iload hk 6 (dtX4_best_0 34 (55, .iload 4, 2) rfl) rfl ?_
        refine r_imul hk hF (dtX4_best_0 35 (57, .imul, 1) rfl) (fun v18 hF => ?_)
        refine r_iconst (v := 1) hk (dtX4_best_0 36 (58, .iconst 1, 1) rfl) (by decide) ?_
        refine r_iadd hk hF (dtX4_best_0 37 (59, .iadd, 1) rfl) (fun v19 hF => ?_)
        refine r_iald hk (in_mo 5 (by decide)) (fun _ => rfl) hF (dtX4_best_0 38 (60, .iaload, 1) rfl) (fun v20 hF => ?_)
        refine r_bipush (v := 61) hk (dtX4_best_0 39 (61, .bipush 61, 2) rfl) (by decide) ?_
        have j139_24 : ∀ (v21 : Int32) (v22 : Int32) (m23 : Mem), (J_X4_best_139 v7 (fun w0 w1 w2 w3 => L_X4_best_12 p1 n10 w0 w1 w2 w3)) v21 v22 m23 = some (rv, mE) → G X K 139 [(0, .ref (xad X (3, 0, 0, 0))), (1, .int p1), (2, .int v21), (3, .int v22), (4, .int v7)] [] m23 := by
          intro v21 v22 m23 hF
          unfold J_X4_best_139 at hF
          refine r_iinc hk 1 4 (fun v25 => [(4, .int v25), (0, .ref (xad X (3, 0, 0, 0))), (1, .int p1), (2, .int v21), (3, .int v22)]) hF (dtX4_best_1 19 (139, .iinc 4 1, 3) rfl) rfl (by decide) (by decide) (fun _ => rfl) (fun v25 hF => ?_)
          refine r_goto hk 12 (dtX4_best_1 20 (142, .goto (-130), 3) rfl) (by decide) ?_
          exact r_sub hk [1, 2, 3, 4, 0] rfl (ih10 v21 v22 v25 m23 hF)
        refine r_icmp_ne hk 139 hF (dtX4_best_0 40 (63, .if_icmp .ne 76, 3) rfl) (by decide) (fun hF => ?_) (fun hF => ?_)
        · exact r_sub hk [2, 3, 4, 5, 6] rfl (j139_24 v5 v6 m8 hF)
        · refine r_iload hk 1 (dtX4_best_0 41 (66, .iload 5, 2) rfl) rfl ?_
          refine r_iconst (v := (-1)) hk (dtX4_best_0 42 (68, .iconst (-1), 1) rfl) (by decide) ?_
          refine r_icmp_eq hk 139 hF (dtX4_best_0 43 (69, .if_icmp .eq 70, 3) rfl) (by decide) (fun hF => ?_) (fun hF => ?_)
          · exact r_sub hk [2, 3, 4, 5, 6] rfl (j139_24 v5 v6 m8 hF)
          · refine r_aload_n hk 2 (dtX4_best_0 44 (72, .aload_n 0, 1) rfl) rfl ?_
            refine r_getR hk (k := 0) (fsX4 X) cbX4 (by decide) fl_X4_7 (in_mo 0 (by decide)) (fun _ => rfl) (fun _ _ => rfl) (dtX4_best_0 45 (73, .getfield 7, 3) rfl) ?_
            refine r_iload hk 0 (dtX4_best_0 46 (76, .iload 6, 2) rfl) rfl ?_
            refine r_iald hk (in_mo 1 (by decide)) (fun _ => rfl) hF (dtX4_best_0 47 (78, .iaload, 1) rfl) (fun v26 hF => ?_)
            refine r_if_ne hk 139 hF (dtX4_best_0 48 (79, .ifCond .ne 60, 3) rfl) (by decide) (fun hF => ?_) (fun hF => ?_)
            · exact r_sub hk [2, 3, 4, 5, 6] rfl (j139_24 v5 v6 m8 hF)
            · refine r_aload_n hk 2 (dtX4_best_0 49 (82, .aload_n 0, 1) rfl) rfl ?_
              refine r_getR hk (k := 0) (fsX4 X) cbX4 (by decide) fl_X4_7 (in_mo 0 (by decide)) (fun _ => rfl) (fun _ _ => rfl) (dtX4_best_0 50 (83, .getfield 7, 3) rfl) ?_
              refine r_iload hk 0 (dtX4_best_0 51 (86, .iload 6, 2) rfl) rfl ?_
              refine r_iconst (v := 1) hk (dtX4_best_0 52 (88, .iconst 1, 1) rfl) (by decide) ?_
              refine r_iast hk (in_mo 1 (by decide)) (fun _ => rfl) hF (dtX4_best_0 53 (89, .iastore, 1) rfl) (fun m27 hF => ?_)
              refine r_aload_n hk 2 (dtX4_best_0 54 (90, .aload_n 0, 1) rfl) rfl ?_
              refine r_iload_n hk 3 (dtX4_best_0 55 (91, .iload_n 1, 1) rfl) rfl ?_
              refine r_iconst (v := 0) hk (dtX4_best_0 56 (92, .iconst 0, 1) rfl) (by decide) ?_
              refine r_callI hF (fun v28 h H locs ls hH hS hl => run_V (y := yX4_looks) hk (in_mo 0 (by decide)) rfl rfl (c_X4_looks (kl K) hk.2.2.2.2.2.2.2.2.2.2.2 X  p1 0 m27 v28 h) lk_X4_130 me_X4_looks yf_X4_looks (by decide) (by decide) rfl (Nat.le_of_ble_eq_true rfl) rfl (dtX4_best_0 57 (93, .invokevirtual 130, 3) rfl) hH hS hl) (fun v28 hF => ?_)
              refine r_istore hk [(7, .int v28), (6, .int v17), (5, .int v14), (0, .ref (xad X (3, 0, 0, 0))), (1, .int p1), (2, .int v5), (3, .int v6), (4, .int v7)] (dtX4_best_0 58 (96, .istore 7, 2) rfl) (by decide) rfl ?_
              refine r_aload_n hk 3 (dtX4_best_0 59 (98, .aload_n 0, 1) rfl) rfl ?_
              refine r_getR hk (k := 0) (fsX4 X) cbX4 (by decide) fl_X4_7 (in_mo 0 (by decide)) (fun _ => rfl) (fun _ _ => rfl) (dtX4_best_0 60 (99, .getfield 7, 3) rfl) ?_
              refine r_iload hk 1 (dtX4_best_0 61 (102, .iload 6, 2) rfl) rfl ?_
              refine r_iconst (v := 0) hk (dtX4_best_0 62 (104, .iconst 0, 1) rfl) (by decide) ?_
              refine r_iast hk (in_mo 1 (by decide)) (fun _ => rfl) hF (dtX4_best_0 63 (105, .iastore, 1) rfl) (fun m29 hF => ?_)
              refine r_iload hk 0 (dtX4_best_1 0 (106, .iload 7, 2) rfl) rfl ?_
              refine r_iload_n hk 6 (dtX4_best_1 1 (108, .iload_n 3, 1) rfl) rfl ?_
              have j125_31 : ∀ (v30 : Int32), (J_X4_best_125 v6 v7 (fun w0 w1 w2 w3 => L_X4_best_12 p1 n10 w0 w1 w2 w3) v28 m29) v30 = some (rv, mE) → G X K 125 [(0, .ref (xad X (3, 0, 0, 0))), (1, .int p1), (3, .int v6), (4, .int v7), (7, .int v28)] [.int v30] m29 := by
                intro v30 hF
                unfold J_X4_best_125 at hF
                refine r_istore_n hk [(2, .int v30), (0, .ref (xad X (3, 0, 0, 0))), (1, .int p1), (3, .int v6), (4, .int v7), (7, .int v28)] (dtX4_best_1 11 (125, .istore_n 2, 1) rfl) (by decide) rfl ?_
                refine r_iload hk 5 (dtX4_best_1 12 (126, .iload 7, 2) rfl) rfl ?_
                refine r_iload_n hk 3 (dtX4_best_1 13 (128, .iload_n 3, 1) rfl) rfl ?_
                have j138_33 : ∀ (v32 : Int32), (J_X4_best_138 v7 (fun w0 w1 w2 w3 => L_X4_best_12 p1 n10 w0 w1 w2 w3) m29 v30) v32 = some (rv, mE) → G X K 138 [(0, .ref (xad X (3, 0, 0, 0))), (1, .int p1), (2, .int v30), (4, .int v7)] [.int v32] m29 := by
                  intro v32 hF
                  unfold J_X4_best_138 at hF
                  refine r_istore_n hk [(3, .int v32), (0, .ref (xad X (3, 0, 0, 0))), (1, .int p1), (2, .int v30), (4, .int v7)] (dtX4_best_1 18 (138, .istore_n 3, 1) rfl) (by decide) rfl ?_
                  exact r_sub hk [1, 2, 3, 0, 4] rfl (j139_24 v30 v32 m29 hF)
                refine r_icmp_ge hk 137 hF (dtX4_best_1 14 (129, .if_icmp .ge 8, 3) rfl) (by decide) (fun hF => ?_) (fun hF => ?_)
                · refine r_iload_n hk 3 (dtX4_best_1 17 (137, .iload_n 3, 1) rfl) rfl ?_
                  exact r_sub hk [1, 2, 0, 4] rfl (j138_33 v6 hF)
                · refine r_iload hk 5 (dtX4_best_1 15 (132, .iload 7, 2) rfl) rfl ?_
                  refine r_goto hk 138 (dtX4_best_1 16 (134, .goto 4, 3) rfl) (by decide) ?_
                  exact r_sub hk [1, 2, 0, 4] rfl (j138_33 v28 hF)
              refine r_icmp_ge hk 124 hF (dtX4_best_1 2 (109, .if_icmp .ge 15, 3) rfl) (by decide) (fun hF => ?_) (fun hF => ?_)
              · refine r_iload_n hk 5 (dtX4_best_1 10 (124, .iload_n 2, 1) rfl) rfl ?_
                exact r_sub hk [3, 4, 6, 7, 0] rfl (j125_31 v5 hF)
              · refine r_aload_n hk 3 (dtX4_best_1 3 (112, .aload_n 0, 1) rfl) rfl ?_
                refine r_getR hk (k := 9) (fsX4 X) cbX4 (by decide) fl_X4_22 (in_mo 0 (by decide)) (fun _ => rfl) (fun _ _ => rfl) (dtX4_best_1 4 (113, .getfield 22, 3) rfl) ?_
                refine r_iconst (v := 3) hk (dtX4_best_1 5 (116, .iconst 3, 1) rfl) (by decide) ?_
                refine r_iload hk 7 (dtX4_best_1 6 (117, .iload 4, 2) rfl) rfl ?_
                refine r_imul hk hF (dtX4_best_1 7 (119, .imul, 1) rfl) (fun v34 hF => ?_)
                refine r_iald hk (in_mo 5 (by decide)) (fun _ => rfl) hF (dtX4_best_1 8 (120, .iaload, 1) rfl) (fun v35 hF => ?_)
                refine r_goto hk 125 (dtX4_best_1 9 (121, .goto 4, 3) rfl) (by decide) ?_
                exact r_sub hk [3, 4, 6, 7, 0] rfl (j125_31 v35 hF)
  exact r_sub hk [3, 4, 2, 1, 0] rfl (l10 fu (-1) v1 0 m0 hF)
