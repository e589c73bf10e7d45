/-! the walks (written by dec.py) -/
set_option maxHeartbeats 4000000 in
set_option maxRecDepth 100000 in
theorem c_X4_bestIndex (l : Launch) (hlf : l.stackTraces = false) (X : XW)  (p1 : Int32) (m0 : Mem) (rv : Int32) (mE : Mem) (hF : F_X4_bestIndex p1 m0 = some (rv, mE)) : MX X l yX4_bestIndex cX4_bestIndex 2 (some .int) 5 [.ref (xad X (3, 0, 0, 0)), .int p1] m0 (QI X rv mE) := by
  refine startI hlf (by decide +kernel) rfl [(0, .ref (xad X (3, 0, 0, 0))), (1, .int p1)] rfl (Nat.le_of_ble_eq_true rfl) (fun K hk hR => ?_)
  unfold F_X4_bestIndex at hF
  refine r_aload_n hk 0 (dtX4_bestIndex_0 0 (0, .aload_n 0, 1) rfl) rfl ?_
  refine r_iconst (v := 0) hk (dtX4_bestIndex_0 1 (1, .iconst 0, 1) rfl) (by decide) ?_
  refine r_putI hk (k := 6) (fsX4 X) cbX4 (by decide) fl_X4_25 (in_mo 0 (by decide)) (fun _ => rfl) rfl rfl (fun _ _ _ => rfl) (fun _ _ => (by decide : 6 < 11)) hF (dtX4_bestIndex_0 2 (2, .putfield 25, 3) rfl) (fun m1 hF => ?_)
  refine r_iload_n hk 1 (dtX4_bestIndex_0 3 (5, .iload_n 1, 1) rfl) rfl ?_
  refine r_callI hF (fun v2 h H locs ls hH hS hl => run_S hk (c_X4_isTenant (kl K) hk.2.2.2.2.2.2.2.2.2.2.2 X  p1 m1 v2 h) lk_X4_47 me_X4_isTenant yf_X4_isTenant (by decide) (by decide) rfl (Nat.le_of_ble_eq_true rfl) rfl (dtX4_bestIndex_0 4 (6, .invokestatic 47, 3) rfl) hH hS hl) (fun v2 hF => ?_)
  refine r_if_ne hk 18 hF (dtX4_bestIndex_0 5 (9, .ifCond .ne 9, 3) rfl) (by decide) (fun hF => ?_) (fun hF => ?_)
  · refine r_aload_n hk 0 (dtX4_bestIndex_0 10 (18, .aload_n 0, 1) rfl) rfl ?_
    refine r_callIm hF (fun v3 m4 h H locs ls hH hS hl => run_V (y := yX4_isText) hk (in_mo 0 (by decide)) rfl rfl (c_X4_isText (kl K) hk.2.2.2.2.2.2.2.2.2.2.2 X   m1 v3 m4 h) lk_X4_115 me_X4_isText yf_X4_isText (by decide) (by decide) rfl (Nat.le_of_ble_eq_true rfl) rfl (dtX4_bestIndex_0 11 (19, .invokevirtual 115, 3) rfl) hH hS hl) (fun v3 m4 hF => ?_)
    have j34_7 : ∀ (v5 : Int32) (m6 : Mem), J_X4_bestIndex_34 v5 m6 = some (rv, mE) → G X K 34 [] [.int v5] m6 := by
      intro v5 m6 hF
      unfold J_X4_bestIndex_34 at hF
      cases Option.some.inj hF
      exact hR _ _ (dtX4_bestIndex_0 18 (34, .ireturn, 1) rfl)
    refine r_if_eq hk 33 hF (dtX4_bestIndex_0 12 (22, .ifCond .eq 11, 3) rfl) (by decide) (fun hF => ?_) (fun hF => ?_)
    · refine r_iconst (v := (-1)) hk (dtX4_bestIndex_0 17 (33, .iconst (-1), 1) rfl) (by decide) ?_
      exact r_sub hk [] rfl (j34_7 (-1) m4 hF)
    · refine r_aload_n hk 0 (dtX4_bestIndex_0 13 (25, .aload_n 0, 1) rfl) rfl ?_
      refine r_iload_n hk 1 (dtX4_bestIndex_0 14 (26, .iload_n 1, 1) rfl) rfl ?_
      refine r_callIm hF (fun v8 m9 h H locs ls hH hS hl => run_V (y := yX4_best) hk (in_mo 0 (by decide)) rfl rfl (c_X4_best (kl K) hk.2.2.2.2.2.2.2.2.2.2.2 X  p1 m4 v8 m9 h) lk_X4_169 me_X4_best yf_X4_best (by decide) (by decide) rfl (Nat.le_of_ble_eq_true rfl) rfl (dtX4_bestIndex_0 15 (27, .invokevirtual 169, 3) rfl) hH hS hl) (fun v8 m9 hF => ?_)
      refine r_goto hk 34 (dtX4_bestIndex_0 16 (30, .goto 4, 3) rfl) (by decide) ?_
      exact r_sub hk [] rfl (j34_7 v8 m9 hF)
  · refine r_aload_n hk 0 (dtX4_bestIndex_0 6 (12, .aload_n 0, 1) rfl) rfl ?_
    refine r_iconst (v := 1) hk (dtX4_bestIndex_0 7 (13, .iconst 1, 1) rfl) (by decide) ?_
    refine r_callIm hF (fun v10 m11 h H locs ls hH hS hl => run_V (y := yX4_fails) hk (in_mo 0 (by decide)) rfl rfl (c_X4_fails (kl K) hk.2.2.2.2.2.2.2.2.2.2.2 X  1 m1 v10 m11 h) lk_X4_37 me_X4_fails yf_X4_fails (by decide) (by decide) rfl (Nat.le_of_ble_eq_true rfl) rfl (dtX4_bestIndex_0 8 (14, .invokevirtual 37, 3) rfl) hH hS hl) (fun v10 m11 hF => ?_)
    cases Option.some.inj hF
    exact hR _ _ (dtX4_bestIndex_0 9 (17, .ireturn, 1) rfl)
set_option maxHeartbeats 4000000 in
set_option maxRecDepth 100000 in
theorem c_X4_share (l : Launch) (hlf : l.stackTraces = false) (X : XW)   (m0 : Mem) (rv : UInt64) (hF : F_X4_share m0 = some rv) : MX X l yX4_share cX4_share 2 (some .double) 4 [.ref (xad X (3, 0, 0, 0))] m0 (QD X rv m0) := by
  refine startD hlf (by decide +kernel) rfl [(0, .ref (xad X (3, 0, 0, 0)))] rfl (Nat.le_of_ble_eq_true rfl) (fun K hk hR => ?_)
  unfold F_X4_share at hF
  refine r_aload_n hk 0 (dtX4_share_0 0 (0, .aload_n 0, 1) rfl) rfl ?_
  refine r_callI hF (fun v1 h H locs ls hH hS hl => run_V (y := yX4_inTable) hk (in_mo 0 (by decide)) rfl rfl (c_X4_inTable (kl K) hk.2.2.2.2.2.2.2.2.2.2.2 X   m0 v1 h) lk_X4_74 me_X4_inTable yf_X4_inTable (by decide) (by decide) rfl (Nat.le_of_ble_eq_true rfl) rfl (dtX4_share_0 1 (1, .invokevirtual 74, 3) rfl) hH hS hl) (fun v1 hF => ?_)
  refine r_istore_n hk [(1, .int v1), (0, .ref (xad X (3, 0, 0, 0)))] (dtX4_share_0 2 (4, .istore_n 1, 1) rfl) (by decide) rfl ?_
  refine r_iload_n hk 0 (dtX4_share_0 3 (5, .iload_n 1, 1) rfl) rfl ?_
  have j24_3 : ∀ (v2 : UInt64), J_X4_share_24 v2 = some rv → G X K 24 [] [.double v2] m0 := by
    intro v2 hF
    unfold J_X4_share_24 at hF
    cases Option.some.inj hF
    exact hR _ _ (dtX4_share_0 15 (24, .dreturn, 1) rfl)
  refine r_if_ne hk 13 hF (dtX4_share_0 4 (6, .ifCond .ne 7, 3) rfl) (by decide) (fun hF => ?_) (fun hF => ?_)
  · refine r_aload_n hk 1 (dtX4_share_0 7 (13, .aload_n 0, 1) rfl) rfl ?_
    refine r_callI hF (fun v4 h H locs ls hH hS hl => run_V (y := yX4_tableValues) hk (in_mo 0 (by decide)) rfl rfl (c_X4_tableValues (kl K) hk.2.2.2.2.2.2.2.2.2.2.2 X   m0 v4 h) lk_X4_157 me_X4_tableValues yf_X4_tableValues (by decide) (by decide) rfl (Nat.le_of_ble_eq_true rfl) rfl (dtX4_share_0 8 (14, .invokevirtual 157, 3) rfl) hH hS hl) (fun v4 hF => ?_)
    refine r_i2d hk hF (dtX4_share_0 9 (17, .i2d, 1) rfl) (fun v5 hF => ?_)
    refine r_bipush (v := 8) hk (dtX4_share_0 10 (18, .bipush 8, 2) rfl) (by decide) ?_
    refine r_iload_n hk 0 (dtX4_share_0 11 (20, .iload_n 1, 1) rfl) rfl ?_
    refine r_imul hk hF (dtX4_share_0 12 (21, .imul, 1) rfl) (fun v6 hF => ?_)
    refine r_i2d hk hF (dtX4_share_0 13 (22, .i2d, 1) rfl) (fun v7 hF => ?_)
    refine r_ddiv hk hF (dtX4_share_0 14 (23, .ddiv, 1) rfl) (fun v8 hF => ?_)
    exact r_sub hk [] rfl (j24_3 v8 hF)
  · refine r_dconst0 hk (dtX4_share_0 5 (9, .dconst 0, 1) rfl) ?_
    refine r_goto hk 24 (dtX4_share_0 6 (10, .goto 14, 3) rfl) (by decide) ?_
    exact r_sub hk [] rfl (j24_3 0 hF)
set_option maxHeartbeats 4000000 in
set_option maxRecDepth 100000 in
theorem c_X4_fullness (l : Launch) (hlf : l.stackTraces = false) (X : XW)   (m0 : Mem) (rv : UInt64) (mE : Mem) (hF : F_X4_fullness m0 = some (rv, mE)) : MX X l yX4_fullness cX4_fullness 1 (some .double) 5 [.ref (xad X (3, 0, 0, 0))] m0 (QD X rv mE) := by
  refine startD hlf (by decide +kernel) rfl [(0, .ref (xad X (3, 0, 0, 0)))] rfl (Nat.le_of_ble_eq_true rfl) (fun K hk hR => ?_)
  unfold F_X4_fullness at hF
  refine r_aload_n hk 0 (dtX4_fullness_0 0 (0, .aload_n 0, 1) rfl) rfl ?_
  refine r_iconst (v := 0) hk (dtX4_fullness_0 1 (1, .iconst 0, 1) rfl) (by decide) ?_
  refine r_putI hk (k := 6) (fsX4 X) cbX4 (by decide) fl_X4_25 (in_mo 0 (by decide)) (fun _ => rfl) rfl rfl (fun _ _ _ => rfl) (fun _ _ => (by decide : 6 < 11)) hF (dtX4_fullness_0 2 (2, .putfield 25, 3) rfl) (fun m1 hF => ?_)
  refine r_aload_n hk 0 (dtX4_fullness_0 3 (5, .aload_n 0, 1) rfl) rfl ?_
  refine r_callD hF (fun v2 h H locs ls hH hS hl => run_V (y := yX4_share) hk (in_mo 0 (by decide)) rfl rfl (c_X4_share (kl K) hk.2.2.2.2.2.2.2.2.2.2.2 X   m1 v2 h) lk_X4_172 me_X4_share yf_X4_share (by decide) (by decide) rfl (Nat.le_of_ble_eq_true rfl) rfl (dtX4_fullness_0 4 (6, .invokevirtual 172, 3) rfl) hH hS hl) (fun v2 hF => ?_)
  cases Option.some.inj hF
  exact hR _ _ (dtX4_fullness_0 5 (9, .dreturn, 1) rfl)
set_option maxHeartbeats 4000000 in
set_option maxRecDepth 100000 in
theorem c_Jxe99ae_isNaN_b9ae7 (l : Launch) (hlf : l.stackTraces = false) (X : XW)  (p1 : UInt64) (m0 : Mem) (rv : Int32) (hF : F_Jxe99ae_isNaN_b9ae7 p1 m0 = some rv) : MX X l yJxe99ae_isNaN_b9ae7 cJxe99ae_isNaN_b9ae7 2 (some .boolean) 0 [.double p1] m0 (QI X rv m0) := by
  refine startZ hlf (by decide +kernel) rfl [(0, .double p1)] rfl (Nat.le_of_ble_eq_true rfl) (fun K hk hR => ?_)
  unfold F_Jxe99ae_isNaN_b9ae7 at hF
  refine r_dload_n hk 0 (dtJxe99ae_isNaN_b9ae7_0 0 (0, .dload_n 0, 1) rfl) rfl ?_
  refine r_dload_n hk 0 (dtJxe99ae_isNaN_b9ae7_0 1 (1, .dload_n 0, 1) rfl) rfl ?_
  refine r_dcmp hk hF (dtJxe99ae_isNaN_b9ae7_0 2 (2, .dcmp .l, 1) rfl) (fun v1 hF => ?_)
  have j11_3 : ∀ (v2 : Int32), J_Jxe99ae_isNaN_b9ae7_11 v2 = some rv → G X K 11 [] [.int v2] m0 := by
    intro v2 hF
    unfold J_Jxe99ae_isNaN_b9ae7_11 at hF
    obtain ⟨hz, hF⟩ := ck_some hF
    cases Option.some.inj hF
    exact hR _ _ hz (dtJxe99ae_isNaN_b9ae7_0 7 (11, .ireturn, 1) rfl)
  refine r_if_eq hk 10 hF (dtJxe99ae_isNaN_b9ae7_0 3 (3, .ifCond .eq 7, 3) rfl) (by decide) (fun hF => ?_) (fun hF => ?_)
  · refine r_iconst (v := 0) hk (dtJxe99ae_isNaN_b9ae7_0 6 (10, .iconst 0, 1) rfl) (by decide) ?_
    exact r_sub hk [] rfl (j11_3 0 hF)
  · refine r_iconst (v := 1) hk (dtJxe99ae_isNaN_b9ae7_0 4 (6, .iconst 1, 1) rfl) (by decide) ?_
    refine r_goto hk 11 (dtJxe99ae_isNaN_b9ae7_0 5 (7, .goto 4, 3) rfl) (by decide) ?_
    exact r_sub hk [] rfl (j11_3 1 hF)
set_option maxHeartbeats 4000000 in
set_option maxRecDepth 100000 in
theorem c_Jxe99ae_doubleToLongBits_ccdee (l : Launch) (hlf : l.stackTraces = false) (X : XW)  (p1 : UInt64) (m0 : Mem) (rv : Int64) (hF : F_Jxe99ae_doubleToLongBits_ccdee p1 m0 = some rv) : MX X l yJxe99ae_doubleToLongBits_ccdee cJxe99ae_doubleToLongBits_ccdee 2 (some .long) 1 [.double p1] m0 (QL X rv m0) := by
  refine startL hlf (by decide +kernel) rfl [(0, .double p1)] rfl (Nat.le_of_ble_eq_true rfl) (fun K hk hR => ?_)
  unfold F_Jxe99ae_doubleToLongBits_ccdee at hF
  refine r_dload_n hk 0 (dtJxe99ae_doubleToLongBits_ccdee_0 0 (0, .dload_n 0, 1) rfl) rfl ?_
  refine r_callI hF (fun v1 h H locs ls hH hS hl => run_S hk (c_Jxe99ae_isNaN_b9ae7 (kl K) hk.2.2.2.2.2.2.2.2.2.2.2 X  p1 m0 v1 h) lk_Jxe99ae_122 me_Jxe99ae_isNaN_b9ae7 yf_Jxe99ae_isNaN_b9ae7 (by decide) (by decide) rfl (Nat.le_of_ble_eq_true rfl) rfl (dtJxe99ae_doubleToLongBits_ccdee_0 1 (1, .invokestatic 122, 3) rfl) hH hS hl) (fun v1 hF => ?_)
  refine r_if_ne hk 12 hF (dtJxe99ae_doubleToLongBits_ccdee_0 2 (4, .ifCond .ne 8, 3) rfl) (by decide) (fun hF => ?_) (fun hF => ?_)
  · refine r_ldc2 hk cn_Jxe99ae_137 (dtJxe99ae_doubleToLongBits_ccdee_0 6 (12, .ldc2_w 137, 3) rfl) ?_
    cases Option.some.inj hF
    exact hR _ _ (dtJxe99ae_doubleToLongBits_ccdee_0 7 (15, .lreturn, 1) rfl)
  · refine r_dload_n hk 0 (dtJxe99ae_doubleToLongBits_ccdee_0 3 (7, .dload_n 0, 1) rfl) rfl ?_
    refine r_rawbits hk lk_raw hF (by decide) (Nat.le_of_ble_eq_true rfl) (dtJxe99ae_doubleToLongBits_ccdee_0 4 (8, .invokestatic 134, 3) rfl) (fun v2 hF => ?_)
    cases Option.some.inj hF
    exact hR _ _ (dtJxe99ae_doubleToLongBits_ccdee_0 5 (11, .lreturn, 1) rfl)
set_option maxHeartbeats 4000000 in
set_option maxRecDepth 100000 in
theorem c_X4_digest (l : Launch) (hlf : l.stackTraces = false) (X : XW)   (m0 : Mem) (rv : Int64) (mE : Mem) (hF : F_X4_digest m0 = some (rv, mE)) : MX X l yX4_digest cX4_digest 6 (some .long) 5 [.ref (xad X (3, 0, 0, 0))] m0 (QL X rv mE) := by
  refine startL hlf (by decide +kernel) rfl [(0, .ref (xad X (3, 0, 0, 0)))] rfl (Nat.le_of_ble_eq_true rfl) (fun K hk hR => ?_)
  unfold F_X4_digest at hF
  refine r_aload_n hk 0 (dtX4_digest_0 0 (0, .aload_n 0, 1) rfl) rfl ?_
  refine r_iconst (v := 0) hk (dtX4_digest_0 1 (1, .iconst 0, 1) rfl) (by decide) ?_
  refine r_putI hk (k := 6) (fsX4 X) cbX4 (by decide) fl_X4_25 (in_mo 0 (by decide)) (fun _ => rfl) rfl rfl (fun _ _ _ => rfl) (fun _ _ => (by decide : 6 < 11)) hF (dtX4_digest_0 2 (2, .putfield 25, 3) rfl) (fun m1 hF => ?_)
  refine r_aload_n hk 0 (dtX4_digest_0 3 (5, .aload_n 0, 1) rfl) rfl ?_
  refine r_callIm hF (fun v2 m3 h H locs ls hH hS hl => run_V (y := yX4_isText) hk (in_mo 0 (by decide)) rfl rfl (c_X4_isText (kl K) hk.2.2.2.2.2.2.2.2.2.2.2 X   m1 v2 m3 h) lk_X4_115 me_X4_isText yf_X4_isText (by decide) (by decide) rfl (Nat.le_of_ble_eq_true rfl) rfl (dtX4_digest_0 4 (6, .invokevirtual 115, 3) rfl) hH hS hl) (fun v2 m3 hF => ?_)
  refine r_istore_n hk [(1, .int v2), (0, .ref (xad X (3, 0, 0, 0)))] (dtX4_digest_0 5 (9, .istore_n 1, 1) rfl) (by decide) rfl ?_
  refine r_ldc2 hk cn_X4_176 (dtX4_digest_0 6 (10, .ldc2_w 176, 3) rfl) ?_
  refine r_lstore_n hk [(2, .long 3049), (1, .int v2), (0, .ref (xad X (3, 0, 0, 0)))] (dtX4_digest_0 7 (13, .lstore_n 2, 1) rfl) (by decide) rfl ?_
  refine r_iconst (v := 0) hk (dtX4_digest_0 8 (14, .iconst 0, 1) rfl) (by decide) ?_
  refine r_istore hk [(4, .int 0), (2, .long 3049), (1, .int v2), (0, .ref (xad X (3, 0, 0, 0)))] (dtX4_digest_0 9 (15, .istore 4, 2) rfl) (by decide) rfl ?_
  have e44_5 : ∀ (v4 : Int64), (C_X4_digest_44 v2 m3) v4 = some (rv, mE) → G X K 44 [(0, .ref (xad X (3, 0, 0, 0))), (1, .int v2), (2, .long v4)] [] m3 := by
    intro v4 hF
    unfold C_X4_digest_44 at hF
    refine r_iconst (v := 0) hk (dtX4_digest_0 24 (44, .iconst 0, 1) rfl) (by decide) ?_
    refine r_istore hk [(4, .int 0), (0, .ref (xad X (3, 0, 0, 0))), (1, .int v2), (2, .long v4)] (dtX4_digest_0 25 (45, .istore 4, 2) rfl) (by decide) rfl ?_
    have e98_7 : ∀ (v6 : Int64), (C_X4_digest_98 v2 m3) v6 = some (rv, mE) → G X K 98 [(0, .ref (xad X (3, 0, 0, 0))), (1, .int v2), (2, .long v6)] [] m3 := by
      intro v6 hF
      unfold C_X4_digest_98 at hF
      refine r_iconst (v := 0) hk (dtX4_digest_0 51 (98, .iconst 0, 1) rfl) (by decide) ?_
      refine r_istore hk [(4, .int 0), (0, .ref (xad X (3, 0, 0, 0))), (1, .int v2), (2, .long v6)] (dtX4_digest_0 52 (99, .istore 4, 2) rfl) (by decide) rfl ?_
      have e342_10 : ∀ (v8 : Int64) (m9 : Mem), C_X4_digest_342 v8 m9 = some (rv, mE) → G X K 342 [(0, .ref (xad X (3, 0, 0, 0))), (2, .long v8)] [] m9 := by
        intro v8 m9 hF
        unfold C_X4_digest_342 at hF
        refine r_ldc2 hk cn_X4_178 (dtX4_digest_2 56 (342, .ldc2_w 178, 3) rfl) ?_
        refine r_ldc2 hk cn_X4_178 (dtX4_digest_2 57 (345, .ldc2_w 178, 3) rfl) ?_
        refine r_lload_n hk 1 (dtX4_digest_2 58 (348, .lload_n 2, 1) rfl) rfl ?_
        refine r_lmul hk hF (dtX4_digest_2 59 (349, .lmul, 1) rfl) (fun v11 hF => ?_)
        refine r_aload_n hk 0 (dtX4_digest_2 60 (350, .aload_n 0, 1) rfl) rfl ?_
        refine r_callD hF (fun v12 h H locs ls hH hS hl => run_V (y := yX4_share) hk (in_mo 0 (by decide)) rfl rfl (c_X4_share (kl K) hk.2.2.2.2.2.2.2.2.2.2.2 X   m9 v12 h) lk_X4_172 me_X4_share yf_X4_share (by decide) (by decide) rfl (Nat.le_of_ble_eq_true rfl) rfl (dtX4_digest_2 61 (351, .invokevirtual 172, 3) rfl) hH hS hl) (fun v12 hF => ?_)
        refine r_callL hF (fun v13 h H locs ls hH hS hl => run_S hk (c_Jxe99ae_doubleToLongBits_ccdee (kl K) hk.2.2.2.2.2.2.2.2.2.2.2 X  v12 m9 v13 h) lk_X4_180 me_Jxe99ae_doubleToLongBits_ccdee yf_Jxe99ae_doubleToLongBits_ccdee (by decide) (by decide) rfl (Nat.le_of_ble_eq_true rfl) rfl (dtX4_digest_2 62 (354, .invokestatic 180, 3) rfl) hH hS hl) (fun v13 hF => ?_)
        refine r_ladd hk hF (dtX4_digest_2 63 (357, .ladd, 1) rfl) (fun v14 hF => ?_)
        refine r_lmul hk hF (dtX4_digest_3 0 (358, .lmul, 1) rfl) (fun v15 hF => ?_)
        refine r_aload_n hk 0 (dtX4_digest_3 1 (359, .aload_n 0, 1) rfl) rfl ?_
        refine r_getI hk (k := 5) (fsX4 X) cbX4 (by decide) fl_X4_92 (in_mo 0 (by decide)) (fun _ => rfl) (fun _ _ => rfl) hF (dtX4_digest_3 2 (360, .getfield 92, 3) rfl) (fun v16 hF => ?_)
        refine r_i2l hk hF (dtX4_digest_3 3 (363, .i2l, 1) rfl) (fun v17 hF => ?_)
        refine r_ladd hk hF (dtX4_digest_3 4 (364, .ladd, 1) rfl) (fun v18 hF => ?_)
        refine r_lstore_n hk [(2, .long v18), (0, .ref (xad X (3, 0, 0, 0)))] (dtX4_digest_3 5 (365, .lstore_n 2, 1) rfl) (by decide) rfl ?_
        refine r_iconst (v := 0) hk (dtX4_digest_3 6 (366, .iconst 0, 1) rfl) (by decide) ?_
        refine r_istore hk [(4, .int 0), (2, .long v18), (0, .ref (xad X (3, 0, 0, 0)))] (dtX4_digest_3 7 (367, .istore 4, 2) rfl) (by decide) rfl ?_
        have e399_20 : ∀ (v19 : Int64), (C_X4_digest_399 m9) v19 = some (rv, mE) → G X K 399 [(2, .long v19)] [] m9 := by
          intro v19 hF
          unfold C_X4_digest_399 at hF
          refine r_lload_n hk 0 (dtX4_digest_3 24 (399, .lload_n 2, 1) rfl) rfl ?_
          cases Option.some.inj hF
          exact hR _ _ (dtX4_digest_3 25 (400, .lreturn, 1) rfl)
        have l24 : ∀ (n24 : Nat) (v21 : Int64) (v22 : Int32), L_X4_digest_369 m9 n24 v21 v22 = some (rv, mE) → G X K 369 [(0, .ref (xad X (3, 0, 0, 0))), (2, .long v21), (4, .int v22)] [] m9 := by
          intro n24
          induction n24 with
          | zero => intro v21 v22 hF; exact nomatch (show (none : Option (Int64 × Mem)) = some (rv, mE) from hF)
          | succ n24 ih24 =>
            intro v21 v22 hF
            rw [L_X4_digest_369] at hF
            refine r_iload hk 2 (dtX4_digest_3 8 (369, .iload 4, 2) rfl) rfl ?_
            refine r_aload_n hk 0 (dtX4_digest_3 9 (371, .aload_n 0, 1) rfl) rfl ?_
            refine r_getI hk (k := 5) (fsX4 X) cbX4 (by decide) fl_X4_92 (in_mo 0 (by decide)) (fun _ => rfl) (fun _ _ => rfl) hF (dtX4_digest_3 10 (372, .getfield 92, 3) rfl) (fun v25 hF => ?_)
            refine r_icmp_ge hk 399 hF (dtX4_digest_3 11 (375, .if_icmp .ge 24, 3) rfl) (by decide) (fun hF => ?_) (fun hF => ?_)
            · exact r_sub hk [1] rfl (e399_20 v21 hF)
            · refine r_ldc2 hk cn_X4_178 (dtX4_digest_3 12 (378, .ldc2_w 178, 3) rfl) ?_
              refine r_lload_n hk 1 (dtX4_digest_3 13 (381, .lload_n 2, 1) rfl) rfl ?_
              refine r_lmul hk hF (dtX4_digest_3 14 (382, .lmul, 1) rfl) (fun v26 hF => ?_)
              refine r_aload_n hk 0 (dtX4_digest_3 15 (383, .aload_n 0, 1) rfl) rfl ?_
              refine r_getR hk (k := 4) (fsX4 X) cbX4 (by decide) fl_X4_19 (in_mo 0 (by decide)) (fun _ => rfl) (fun _ _ => rfl) (dtX4_digest_3 16 (384, .getfield 19, 3) rfl) ?_
              refine r_iload hk 2 (dtX4_digest_3 17 (387, .iload 4, 2) rfl) rfl ?_
              refine r_iald hk (in_mo 4 (by decide)) (fun _ => rfl) hF (dtX4_digest_3 18 (389, .iaload, 1) rfl) (fun v27 hF => ?_)
              refine r_i2l hk hF (dtX4_digest_3 19 (390, .i2l, 1) rfl) (fun v28 hF => ?_)
              refine r_ladd hk hF (dtX4_digest_3 20 (391, .ladd, 1) rfl) (fun v29 hF => ?_)
              refine r_lstore_n hk [(2, .long v29), (0, .ref (xad X (3, 0, 0, 0))), (4, .int v22)] (dtX4_digest_3 21 (392, .lstore_n 2, 1) rfl) (by decide) rfl ?_
              refine r_iinc hk 1 2 (fun v30 => [(4, .int v30), (2, .long v29), (0, .ref (xad X (3, 0, 0, 0)))]) hF (dtX4_digest_3 22 (393, .iinc 4 1, 3) rfl) rfl (by decide) (by decide) (fun _ => rfl) (fun v30 hF => ?_)
              refine r_goto hk 369 (dtX4_digest_3 23 (396, .goto (-27), 3) rfl) (by decide) ?_
              exact r_sub hk [2, 1, 0] rfl (ih24 v29 v30 hF)
        exact r_sub hk [2, 1, 0] rfl (l24 fu v18 0 hF)
      have l35 : ∀ (n35 : Nat) (v31 : Int64) (v32 : Int32) (m33 : Mem), L_X4_digest_101 v2 n35 v31 v32 m33 = some (rv, mE) → G X K 101 [(0, .ref (xad X (3, 0, 0, 0))), (1, .int v2), (2, .long v31), (4, .int v32)] [] m33 := by
        intro n35
        induction n35 with
        | zero => intro v31 v32 m33 hF; exact nomatch (show (none : Option (Int64 × Mem)) = some (rv, mE) from hF)
        | succ n35 ih35 =>
          intro v31 v32 m33 hF
          rw [L_X4_digest_101] at hF
          refine r_iload hk 3 (dtX4_digest_0 53 (101, .iload 4, 2) rfl) rfl ?_
          refine r_iconst (v := 3) hk (dtX4_digest_0 54 (103, .iconst 3, 1) rfl) (by decide) ?_
          refine r_icmp_ge hk 342 hF (dtX4_digest_0 55 (104, .if_icmp .ge 238, 3) rfl) (by decide) (fun hF => ?_) (fun hF => ?_)
          · exact r_sub hk [0, 2] rfl (e342_10 v31 m33 hF)
          · refine r_iconst (v := 0) hk (dtX4_digest_0 56 (107, .iconst 0, 1) rfl) (by decide) ?_
            refine r_istore hk [(5, .int 0), (0, .ref (xad X (3, 0, 0, 0))), (1, .int v2), (2, .long v31), (4, .int v32)] (dtX4_digest_0 57 (108, .istore 5, 2) rfl) (by decide) rfl ?_
            have e139_37 : ∀ (v36 : Int64), (C_X4_digest_139 v2 v32 m33 (fun w0 w1 w2 => L_X4_digest_101 v2 n35 w0 w1 w2)) v36 = some (rv, mE) → G X K 139 [(0, .ref (xad X (3, 0, 0, 0))), (1, .int v2), (2, .long v36), (4, .int v32)] [] m33 := by
              intro v36 hF
              unfold C_X4_digest_139 at hF
              refine r_iconst (v := 0) hk (dtX4_digest_1 9 (139, .iconst 0, 1) rfl) (by decide) ?_
              refine r_istore hk [(5, .int 0), (0, .ref (xad X (3, 0, 0, 0))), (1, .int v2), (2, .long v36), (4, .int v32)] (dtX4_digest_1 10 (140, .istore 5, 2) rfl) (by decide) rfl ?_
              have e179_39 : ∀ (v38 : Int64), (C_X4_digest_179 v2 v32 m33 (fun w0 w1 w2 => L_X4_digest_101 v2 n35 w0 w1 w2)) v38 = some (rv, mE) → G X K 179 [(0, .ref (xad X (3, 0, 0, 0))), (1, .int v2), (2, .long v38), (4, .int v32)] [] m33 := by
                intro v38 hF
                unfold C_X4_digest_179 at hF
                refine r_iconst (v := 0) hk (dtX4_digest_1 31 (179, .iconst 0, 1) rfl) (by decide) ?_
                refine r_istore hk [(5, .int 0), (0, .ref (xad X (3, 0, 0, 0))), (1, .int v2), (2, .long v38), (4, .int v32)] (dtX4_digest_1 32 (180, .istore 5, 2) rfl) (by decide) rfl ?_
                have e230_41 : ∀ (v40 : Int64), (C_X4_digest_230 v2 v32 m33 (fun w0 w1 w2 => L_X4_digest_101 v2 n35 w0 w1 w2)) v40 = some (rv, mE) → G X K 230 [(0, .ref (xad X (3, 0, 0, 0))), (1, .int v2), (2, .long v40), (4, .int v32)] [] m33 := by
                  intro v40 hF
                  unfold C_X4_digest_230 at hF
                  refine r_iconst (v := 0) hk (dtX4_digest_1 57 (230, .iconst 0, 1) rfl) (by decide) ?_
                  refine r_istore hk [(5, .int 0), (0, .ref (xad X (3, 0, 0, 0))), (1, .int v2), (2, .long v40), (4, .int v32)] (dtX4_digest_1 58 (231, .istore 5, 2) rfl) (by decide) rfl ?_
                  have e270_43 : ∀ (v42 : Int64), (C_X4_digest_270 v2 v32 m33 (fun w0 w1 w2 => L_X4_digest_101 v2 n35 w0 w1 w2)) v42 = some (rv, mE) → G X K 270 [(0, .ref (xad X (3, 0, 0, 0))), (1, .int v2), (2, .long v42), (4, .int v32)] [] m33 := by
                    intro v42 hF
                    unfold C_X4_digest_270 at hF
                    refine r_ldc2 hk cn_X4_178 (dtX4_digest_2 15 (270, .ldc2_w 178, 3) rfl) ?_
                    refine r_ldc2 hk cn_X4_178 (dtX4_digest_2 16 (273, .ldc2_w 178, 3) rfl) ?_
                    refine r_lload_n hk 2 (dtX4_digest_2 17 (276, .lload_n 2, 1) rfl) rfl ?_
                    refine r_lmul hk hF (dtX4_digest_2 18 (277, .lmul, 1) rfl) (fun v44 hF => ?_)
                    refine r_iload_n hk 1 (dtX4_digest_2 19 (278, .iload_n 1, 1) rfl) rfl ?_
                    have j293_46 : ∀ (v45 : Int32), (J_X4_digest_293 v2 v32 m33 (fun w0 w1 w2 => L_X4_digest_101 v2 n35 w0 w1 w2) v44) v45 = some (rv, mE) → G X K 293 [(0, .ref (xad X (3, 0, 0, 0))), (1, .int v2), (4, .int v32)] [.int v45, .long v44, .long 31] m33 := by
                      intro v45 hF
                      unfold J_X4_digest_293 at hF
                      refine r_i2l hk hF (dtX4_digest_2 27 (293, .i2l, 1) rfl) (fun v47 hF => ?_)
                      refine r_ladd hk hF (dtX4_digest_2 28 (294, .ladd, 1) rfl) (fun v48 hF => ?_)
                      refine r_lmul hk hF (dtX4_digest_2 29 (295, .lmul, 1) rfl) (fun v49 hF => ?_)
                      refine r_iload_n hk 1 (dtX4_digest_2 30 (296, .iload_n 1, 1) rfl) rfl ?_
                      have j311_51 : ∀ (v50 : Int32), (J_X4_digest_311 v2 v32 m33 (fun w0 w1 w2 => L_X4_digest_101 v2 n35 w0 w1 w2) v49) v50 = some (rv, mE) → G X K 311 [(0, .ref (xad X (3, 0, 0, 0))), (1, .int v2), (4, .int v32)] [.int v50, .long v49] m33 := by
                        intro v50 hF
                        unfold J_X4_digest_311 at hF
                        refine r_i2l hk hF (dtX4_digest_2 38 (311, .i2l, 1) rfl) (fun v52 hF => ?_)
                        refine r_ladd hk hF (dtX4_digest_2 39 (312, .ladd, 1) rfl) (fun v53 hF => ?_)
                        refine r_lstore_n hk [(2, .long v53), (0, .ref (xad X (3, 0, 0, 0))), (1, .int v2), (4, .int v32)] (dtX4_digest_2 40 (313, .lstore_n 2, 1) rfl) (by decide) rfl ?_
                        refine r_ldc2 hk cn_X4_178 (dtX4_digest_2 41 (314, .ldc2_w 178, 3) rfl) ?_
                        refine r_lload_n hk 0 (dtX4_digest_2 42 (317, .lload_n 2, 1) rfl) rfl ?_
                        refine r_lmul hk hF (dtX4_digest_2 43 (318, .lmul, 1) rfl) (fun v54 hF => ?_)
                        refine r_iload_n hk 2 (dtX4_digest_2 44 (319, .iload_n 1, 1) rfl) rfl ?_
                        have j333_57 : ∀ (v55 : Int32) (m56 : Mem), (J_X4_digest_333 v32 (fun w0 w1 w2 => L_X4_digest_101 v2 n35 w0 w1 w2) v54) v55 m56 = some (rv, mE) → G X K 333 [(0, .ref (xad X (3, 0, 0, 0))), (1, .int v2), (4, .int v32)] [.int v55, .long v54] m56 := by
                          intro v55 m56 hF
                          unfold J_X4_digest_333 at hF
                          refine r_i2l hk hF (dtX4_digest_2 51 (333, .i2l, 1) rfl) (fun v58 hF => ?_)
                          refine r_ladd hk hF (dtX4_digest_2 52 (334, .ladd, 1) rfl) (fun v59 hF => ?_)
                          refine r_lstore_n hk [(2, .long v59), (0, .ref (xad X (3, 0, 0, 0))), (1, .int v2), (4, .int v32)] (dtX4_digest_2 53 (335, .lstore_n 2, 1) rfl) (by decide) rfl ?_
                          refine r_iinc hk 1 3 (fun v60 => [(4, .int v60), (2, .long v59), (0, .ref (xad X (3, 0, 0, 0))), (1, .int v2)]) hF (dtX4_digest_2 54 (336, .iinc 4 1, 3) rfl) rfl (by decide) (by decide) (fun _ => rfl) (fun v60 hF => ?_)
                          refine r_goto hk 101 (dtX4_digest_2 55 (339, .goto (-238), 3) rfl) (by decide) ?_
                          exact r_sub hk [2, 3, 1, 0] rfl (ih35 v59 v60 m56 hF)
                        refine r_if_eq hk 332 hF (dtX4_digest_2 45 (320, .ifCond .eq 12, 3) rfl) (by decide) (fun hF => ?_) (fun hF => ?_)
                        · refine r_iconst (v := (-1)) hk (dtX4_digest_2 50 (332, .iconst (-1), 1) rfl) (by decide) ?_
                          exact r_sub hk [1, 2, 3] rfl (j333_57 (-1) m33 hF)
                        · refine r_aload_n hk 1 (dtX4_digest_2 46 (323, .aload_n 0, 1) rfl) rfl ?_
                          refine r_iload hk 3 (dtX4_digest_2 47 (324, .iload 4, 2) rfl) rfl ?_
                          refine r_callIm hF (fun v61 m62 h H locs ls hH hS hl => run_V (y := yX4_best) hk (in_mo 0 (by decide)) rfl rfl (c_X4_best (kl K) hk.2.2.2.2.2.2.2.2.2.2.2 X  v32 m33 v61 m62 h) lk_X4_169 me_X4_best yf_X4_best (by decide) (by decide) rfl (Nat.le_of_ble_eq_true rfl) rfl (dtX4_digest_2 48 (326, .invokevirtual 169, 3) rfl) hH hS hl) (fun v61 m62 hF => ?_)
                          refine r_goto hk 333 (dtX4_digest_2 49 (329, .goto 4, 3) rfl) (by decide) ?_
                          exact r_sub hk [1, 2, 3] rfl (j333_57 v61 m62 hF)
                      refine r_if_eq hk 310 hF (dtX4_digest_2 31 (297, .ifCond .eq 13, 3) rfl) (by decide) (fun hF => ?_) (fun hF => ?_)
                      · refine r_iconst (v := (-1)) hk (dtX4_digest_2 37 (310, .iconst (-1), 1) rfl) (by decide) ?_
                        exact r_sub hk [0, 1, 2] rfl (j311_51 (-1) hF)
                      · refine r_aload_n hk 0 (dtX4_digest_2 32 (300, .aload_n 0, 1) rfl) rfl ?_
                        refine r_iload hk 2 (dtX4_digest_2 33 (301, .iload 4, 2) rfl) rfl ?_
                        refine r_iconst (v := 1) hk (dtX4_digest_2 34 (303, .iconst 1, 1) rfl) (by decide) ?_
                        refine r_callI hF (fun v63 h H locs ls hH hS hl => run_V (y := yX4_looks) hk (in_mo 0 (by decide)) rfl rfl (c_X4_looks (kl K) hk.2.2.2.2.2.2.2.2.2.2.2 X  v32 1 m33 v63 h) lk_X4_130 me_X4_looks yf_X4_looks (by decide) (by decide) rfl (Nat.le_of_ble_eq_true rfl) rfl (dtX4_digest_2 35 (304, .invokevirtual 130, 3) rfl) hH hS hl) (fun v63 hF => ?_)
                        refine r_goto hk 311 (dtX4_digest_2 36 (307, .goto 4, 3) rfl) (by decide) ?_
                        exact r_sub hk [0, 1, 2] rfl (j311_51 v63 hF)
                    refine r_if_eq hk 292 hF (dtX4_digest_2 20 (279, .ifCond .eq 13, 3) rfl) (by decide) (fun hF => ?_) (fun hF => ?_)
                    · refine r_iconst (v := (-1)) hk (dtX4_digest_2 26 (292, .iconst (-1), 1) rfl) (by decide) ?_
                      exact r_sub hk [0, 1, 3] rfl (j293_46 (-1) hF)
                    · refine r_aload_n hk 0 (dtX4_digest_2 21 (282, .aload_n 0, 1) rfl) rfl ?_
                      refine r_iload hk 3 (dtX4_digest_2 22 (283, .iload 4, 2) rfl) rfl ?_
                      refine r_iconst (v := 0) hk (dtX4_digest_2 23 (285, .iconst 0, 1) rfl) (by decide) ?_
                      refine r_callI hF (fun v64 h H locs ls hH hS hl => run_V (y := yX4_looks) hk (in_mo 0 (by decide)) rfl rfl (c_X4_looks (kl K) hk.2.2.2.2.2.2.2.2.2.2.2 X  v32 0 m33 v64 h) lk_X4_130 me_X4_looks yf_X4_looks (by decide) (by decide) rfl (Nat.le_of_ble_eq_true rfl) rfl (dtX4_digest_2 24 (286, .invokevirtual 130, 3) rfl) hH hS hl) (fun v64 hF => ?_)
                      refine r_goto hk 293 (dtX4_digest_2 25 (289, .goto 4, 3) rfl) (by decide) ?_
                      exact r_sub hk [0, 1, 3] rfl (j293_46 v64 hF)
                  have l68 : ∀ (n68 : Nat) (v65 : Int64) (v66 : Int32), L_X4_digest_233 v2 v32 m33 (fun w0 w1 w2 => L_X4_digest_101 v2 n35 w0 w1 w2) n68 v65 v66 = some (rv, mE) → G X K 233 [(0, .ref (xad X (3, 0, 0, 0))), (1, .int v2), (2, .long v65), (4, .int v32), (5, .int v66)] [] m33 := by
                    intro n68
                    induction n68 with
                    | zero => intro v65 v66 hF; exact nomatch (show (none : Option (Int64 × Mem)) = some (rv, mE) from hF)
                    | succ n68 ih68 =>
                      intro v65 v66 hF
                      rw [L_X4_digest_233] at hF
                      refine r_iload hk 4 (dtX4_digest_1 59 (233, .iload 5, 2) rfl) rfl ?_
                      refine r_iconst (v := 3) hk (dtX4_digest_1 60 (235, .iconst 3, 1) rfl) (by decide) ?_
                      refine r_icmp_ge hk 270 hF (dtX4_digest_1 61 (236, .if_icmp .ge 34, 3) rfl) (by decide) (fun hF => ?_) (fun hF => ?_)
                      · exact r_sub hk [0, 1, 2, 3] rfl (e270_43 v65 hF)
                      · refine r_ldc2 hk cn_X4_178 (dtX4_digest_1 62 (239, .ldc2_w 178, 3) rfl) ?_
                        refine r_lload_n hk 2 (dtX4_digest_1 63 (242, .lload_n 2, 1) rfl) rfl ?_
                        refine r_lmul hk hF (dtX4_digest_2 0 (243, .lmul, 1) rfl) (fun v69 hF => ?_)
                        refine r_iload_n hk 1 (dtX4_digest_2 1 (244, .iload_n 1, 1) rfl) rfl ?_
                        have j261_71 : ∀ (v70 : Int32), (J_X4_digest_261 v66 (fun w0 w1 => L_X4_digest_233 v2 v32 m33 (fun w0 w1 w2 => L_X4_digest_101 v2 n35 w0 w1 w2) n68 w0 w1) v69) v70 = some (rv, mE) → G X K 261 [(0, .ref (xad X (3, 0, 0, 0))), (1, .int v2), (4, .int v32), (5, .int v66)] [.int v70, .long v69] m33 := by
                          intro v70 hF
                          unfold J_X4_digest_261 at hF
                          refine r_i2l hk hF (dtX4_digest_2 10 (261, .i2l, 1) rfl) (fun v72 hF => ?_)
                          refine r_ladd hk hF (dtX4_digest_2 11 (262, .ladd, 1) rfl) (fun v73 hF => ?_)
                          refine r_lstore_n hk [(2, .long v73), (0, .ref (xad X (3, 0, 0, 0))), (1, .int v2), (4, .int v32), (5, .int v66)] (dtX4_digest_2 12 (263, .lstore_n 2, 1) rfl) (by decide) rfl ?_
                          refine r_iinc hk 1 4 (fun v74 => [(5, .int v74), (2, .long v73), (0, .ref (xad X (3, 0, 0, 0))), (1, .int v2), (4, .int v32)]) hF (dtX4_digest_2 13 (264, .iinc 5 1, 3) rfl) rfl (by decide) (by decide) (fun _ => rfl) (fun v74 hF => ?_)
                          refine r_goto hk 233 (dtX4_digest_2 14 (267, .goto (-34), 3) rfl) (by decide) ?_
                          exact r_sub hk [2, 3, 1, 4, 0] rfl (ih68 v73 v74 hF)
                        refine r_if_eq hk 260 hF (dtX4_digest_2 2 (245, .ifCond .eq 15, 3) rfl) (by decide) (fun hF => ?_) (fun hF => ?_)
                        · refine r_iconst (v := (-1)) hk (dtX4_digest_2 9 (260, .iconst (-1), 1) rfl) (by decide) ?_
                          exact r_sub hk [0, 1, 3, 4] rfl (j261_71 (-1) hF)
                        · refine r_aload_n hk 0 (dtX4_digest_2 3 (248, .aload_n 0, 1) rfl) rfl ?_
                          refine r_iload hk 3 (dtX4_digest_2 4 (249, .iload 4, 2) rfl) rfl ?_
                          refine r_iconst (v := 0) hk (dtX4_digest_2 5 (251, .iconst 0, 1) rfl) (by decide) ?_
                          refine r_iload hk 4 (dtX4_digest_2 6 (252, .iload 5, 2) rfl) rfl ?_
                          refine r_callI hF (fun v75 h H locs ls hH hS hl => run_V (y := yX4_answered) hk (in_mo 0 (by decide)) rfl rfl (c_X4_answered (kl K) hk.2.2.2.2.2.2.2.2.2.2.2 X  v32 0 v66 m33 v75 h) lk_X4_154 me_X4_answered yf_X4_answered (by decide) (by decide) rfl (Nat.le_of_ble_eq_true rfl) rfl (dtX4_digest_2 7 (254, .invokevirtual 154, 3) rfl) hH hS hl) (fun v75 hF => ?_)
                          refine r_goto hk 261 (dtX4_digest_2 8 (257, .goto 4, 3) rfl) (by decide) ?_
                          exact r_sub hk [0, 1, 3, 4] rfl (j261_71 v75 hF)
                  exact r_sub hk [1, 2, 3, 4, 0] rfl (l68 fu v40 0 hF)
                have l79 : ∀ (n79 : Nat) (v76 : Int64) (v77 : Int32), L_X4_digest_182 v2 v32 m33 (fun w0 w1 w2 => L_X4_digest_101 v2 n35 w0 w1 w2) n79 v76 v77 = some (rv, mE) → G X K 182 [(0, .ref (xad X (3, 0, 0, 0))), (1, .int v2), (2, .long v76), (4, .int v32), (5, .int v77)] [] m33 := by
                  intro n79
                  induction n79 with
                  | zero => intro v76 v77 hF; exact nomatch (show (none : Option (Int64 × Mem)) = some (rv, mE) from hF)
                  | succ n79 ih79 =>
                    intro v76 v77 hF
                    rw [L_X4_digest_182] at hF
                    refine r_iload hk 4 (dtX4_digest_1 33 (182, .iload 5, 2) rfl) rfl ?_
                    refine r_aload_n hk 0 (dtX4_digest_1 34 (184, .aload_n 0, 1) rfl) rfl ?_
                    refine r_getR hk (k := 0) (fsX4 X) cbX4 (by decide) fl_X4_7 (in_mo 0 (by decide)) (fun _ => rfl) (fun _ _ => rfl) (dtX4_digest_1 35 (185, .getfield 7, 3) rfl) ?_
                    refine r_sipush (v := 1080) hk (dtX4_digest_1 36 (188, .sipush 1080, 3) rfl) (by decide) ?_
                    refine r_iald hk (in_mo 1 (by decide)) (fun _ => rfl) hF (dtX4_digest_1 37 (191, .iaload, 1) rfl) (fun v80 hF => ?_)
                    refine r_icmp_ge hk 230 hF (dtX4_digest_1 38 (192, .if_icmp .ge 38, 3) rfl) (by decide) (fun hF => ?_) (fun hF => ?_)
                    · exact r_sub hk [0, 1, 2, 3] rfl (e230_41 v76 hF)
                    · refine r_iload_n hk 1 (dtX4_digest_1 39 (195, .iload_n 1, 1) rfl) rfl ?_
                      refine r_if_eq hk 230 hF (dtX4_digest_1 40 (196, .ifCond .eq 34, 3) rfl) (by decide) (fun hF => ?_) (fun hF => ?_)
                      · exact r_sub hk [0, 1, 2, 3] rfl (e230_41 v76 hF)
                      · refine r_aload_n hk 0 (dtX4_digest_1 41 (199, .aload_n 0, 1) rfl) rfl ?_
                        refine r_iload hk 3 (dtX4_digest_1 42 (200, .iload 4, 2) rfl) rfl ?_
                        refine r_iload hk 4 (dtX4_digest_1 43 (202, .iload 5, 2) rfl) rfl ?_
                        refine r_callI hF (fun v81 h H locs ls hH hS hl => run_V (y := yX4_isAnswer) hk (in_mo 0 (by decide)) rfl rfl (c_X4_isAnswer (kl K) hk.2.2.2.2.2.2.2.2.2.2.2 X  v32 v77 m33 v81 h) lk_X4_121 me_X4_isAnswer yf_X4_isAnswer (by decide) (by decide) rfl (Nat.le_of_ble_eq_true rfl) rfl (dtX4_digest_1 44 (204, .invokevirtual 121, 3) rfl) hH hS hl) (fun v81 hF => ?_)
                        have j223_83 : ∀ (v82 : Int64), (J_X4_digest_223 v77 (fun w0 w1 => L_X4_digest_182 v2 v32 m33 (fun w0 w1 w2 => L_X4_digest_101 v2 n35 w0 w1 w2) n79 w0 w1)) v82 = some (rv, mE) → G X K 223 [(0, .ref (xad X (3, 0, 0, 0))), (1, .int v2), (4, .int v32), (5, .int v77)] [.long v82] m33 := by
                          intro v82 hF
                          unfold J_X4_digest_223 at hF
                          refine r_lstore_n hk [(2, .long v82), (0, .ref (xad X (3, 0, 0, 0))), (1, .int v2), (4, .int v32), (5, .int v77)] (dtX4_digest_1 54 (223, .lstore_n 2, 1) rfl) (by decide) rfl ?_
                          refine r_iinc hk 1 4 (fun v84 => [(5, .int v84), (2, .long v82), (0, .ref (xad X (3, 0, 0, 0))), (1, .int v2), (4, .int v32)]) hF (dtX4_digest_1 55 (224, .iinc 5 1, 3) rfl) rfl (by decide) (by decide) (fun _ => rfl) (fun v84 hF => ?_)
                          refine r_goto hk 182 (dtX4_digest_1 56 (227, .goto (-45), 3) rfl) (by decide) ?_
                          exact r_sub hk [2, 3, 1, 4, 0] rfl (ih79 v82 v84 hF)
                        refine r_if_eq hk 222 hF (dtX4_digest_1 45 (207, .ifCond .eq 15, 3) rfl) (by decide) (fun hF => ?_) (fun hF => ?_)
                        · refine r_lload_n hk 2 (dtX4_digest_1 53 (222, .lload_n 2, 1) rfl) rfl ?_
                          exact r_sub hk [0, 1, 3, 4] rfl (j223_83 v76 hF)
                        · refine r_ldc2 hk cn_X4_178 (dtX4_digest_1 46 (210, .ldc2_w 178, 3) rfl) ?_
                          refine r_lload_n hk 2 (dtX4_digest_1 47 (213, .lload_n 2, 1) rfl) rfl ?_
                          refine r_lmul hk hF (dtX4_digest_1 48 (214, .lmul, 1) rfl) (fun v85 hF => ?_)
                          refine r_iload hk 4 (dtX4_digest_1 49 (215, .iload 5, 2) rfl) rfl ?_
                          refine r_i2l hk hF (dtX4_digest_1 50 (217, .i2l, 1) rfl) (fun v86 hF => ?_)
                          refine r_ladd hk hF (dtX4_digest_1 51 (218, .ladd, 1) rfl) (fun v87 hF => ?_)
                          refine r_goto hk 223 (dtX4_digest_1 52 (219, .goto 4, 3) rfl) (by decide) ?_
                          exact r_sub hk [0, 1, 3, 4] rfl (j223_83 v87 hF)
                exact r_sub hk [1, 2, 3, 4, 0] rfl (l79 fu v38 0 hF)
              have l91 : ∀ (n91 : Nat) (v88 : Int64) (v89 : Int32), L_X4_digest_142 v2 v32 m33 (fun w0 w1 w2 => L_X4_digest_101 v2 n35 w0 w1 w2) n91 v88 v89 = some (rv, mE) → G X K 142 [(0, .ref (xad X (3, 0, 0, 0))), (1, .int v2), (2, .long v88), (4, .int v32), (5, .int v89)] [] m33 := by
                intro n91
                induction n91 with
                | zero => intro v88 v89 hF; exact nomatch (show (none : Option (Int64 × Mem)) = some (rv, mE) from hF)
                | succ n91 ih91 =>
                  intro v88 v89 hF
                  rw [L_X4_digest_142] at hF
                  refine r_iload hk 4 (dtX4_digest_1 11 (142, .iload 5, 2) rfl) rfl ?_
                  refine r_bipush (v := 48) hk (dtX4_digest_1 12 (144, .bipush 48, 2) rfl) (by decide) ?_
                  refine r_icmp_ge hk 179 hF (dtX4_digest_1 13 (146, .if_icmp .ge 33, 3) rfl) (by decide) (fun hF => ?_) (fun hF => ?_)
                  · exact r_sub hk [0, 1, 2, 3] rfl (e179_39 v88 hF)
                  · refine r_ldc2 hk cn_X4_178 (dtX4_digest_1 14 (149, .ldc2_w 178, 3) rfl) ?_
                    refine r_lload_n hk 2 (dtX4_digest_1 15 (152, .lload_n 2, 1) rfl) rfl ?_
                    refine r_lmul hk hF (dtX4_digest_1 16 (153, .lmul, 1) rfl) (fun v92 hF => ?_)
                    refine r_aload_n hk 0 (dtX4_digest_1 17 (154, .aload_n 0, 1) rfl) rfl ?_
                    refine r_iload hk 3 (dtX4_digest_1 18 (155, .iload 4, 2) rfl) rfl ?_
                    refine r_iload hk 4 (dtX4_digest_1 19 (157, .iload 5, 2) rfl) rfl ?_
                    refine r_bipush (v := 6) hk (dtX4_digest_1 20 (159, .bipush 6, 2) rfl) (by decide) ?_
                    refine r_idiv hk (by decide) hF (dtX4_digest_1 21 (161, .idiv, 1) rfl) (fun v93 hF => ?_)
                    refine r_iload hk 4 (dtX4_digest_1 22 (162, .iload 5, 2) rfl) rfl ?_
                    refine r_bipush (v := 6) hk (dtX4_digest_1 23 (164, .bipush 6, 2) rfl) (by decide) ?_
                    refine r_irem hk (by decide) hF (dtX4_digest_1 24 (166, .irem, 1) rfl) (fun v94 hF => ?_)
                    refine r_callI hF (fun v95 h H locs ls hH hS hl => run_V (y := yX4_ofColumn) hk (in_mo 0 (by decide)) rfl rfl (c_X4_ofColumn (kl K) hk.2.2.2.2.2.2.2.2.2.2.2 X  v32 v93 v94 m33 v95 h) lk_X4_144 me_X4_ofColumn yf_X4_ofColumn (by decide) (by decide) rfl (Nat.le_of_ble_eq_true rfl) rfl (dtX4_digest_1 25 (167, .invokevirtual 144, 3) rfl) hH hS hl) (fun v95 hF => ?_)
                    refine r_i2l hk hF (dtX4_digest_1 26 (170, .i2l, 1) rfl) (fun v96 hF => ?_)
                    refine r_ladd hk hF (dtX4_digest_1 27 (171, .ladd, 1) rfl) (fun v97 hF => ?_)
                    refine r_lstore_n hk [(2, .long v97), (0, .ref (xad X (3, 0, 0, 0))), (1, .int v2), (4, .int v32), (5, .int v89)] (dtX4_digest_1 28 (172, .lstore_n 2, 1) rfl) (by decide) rfl ?_
                    refine r_iinc hk 1 4 (fun v98 => [(5, .int v98), (2, .long v97), (0, .ref (xad X (3, 0, 0, 0))), (1, .int v2), (4, .int v32)]) hF (dtX4_digest_1 29 (173, .iinc 5 1, 3) rfl) rfl (by decide) (by decide) (fun _ => rfl) (fun v98 hF => ?_)
                    refine r_goto hk 142 (dtX4_digest_1 30 (176, .goto (-34), 3) rfl) (by decide) ?_
                    exact r_sub hk [2, 3, 1, 4, 0] rfl (ih91 v97 v98 hF)
              exact r_sub hk [1, 2, 3, 4, 0] rfl (l91 fu v36 0 hF)
            have l102 : ∀ (n102 : Nat) (v99 : Int64) (v100 : Int32), L_X4_digest_110 v2 v32 m33 (fun w0 w1 w2 => L_X4_digest_101 v2 n35 w0 w1 w2) n102 v99 v100 = some (rv, mE) → G X K 110 [(0, .ref (xad X (3, 0, 0, 0))), (1, .int v2), (2, .long v99), (4, .int v32), (5, .int v100)] [] m33 := by
              intro n102
              induction n102 with
              | zero => intro v99 v100 hF; exact nomatch (show (none : Option (Int64 × Mem)) = some (rv, mE) from hF)
              | succ n102 ih102 =>
                intro v99 v100 hF
                rw [L_X4_digest_110] at hF
                refine r_iload hk 4 (dtX4_digest_0 58 (110, .iload 5, 2) rfl) rfl ?_
                refine r_bipush (v := 9) hk (dtX4_digest_0 59 (112, .bipush 9, 2) rfl) (by decide) ?_
                refine r_icmp_ge hk 139 hF (dtX4_digest_0 60 (114, .if_icmp .ge 25, 3) rfl) (by decide) (fun hF => ?_) (fun hF => ?_)
                · exact r_sub hk [0, 1, 2, 3] rfl (e139_37 v99 hF)
                · refine r_ldc2 hk cn_X4_178 (dtX4_digest_0 61 (117, .ldc2_w 178, 3) rfl) ?_
                  refine r_lload_n hk 2 (dtX4_digest_0 62 (120, .lload_n 2, 1) rfl) rfl ?_
                  refine r_lmul hk hF (dtX4_digest_0 63 (121, .lmul, 1) rfl) (fun v103 hF => ?_)
                  refine r_aload_n hk 0 (dtX4_digest_1 0 (122, .aload_n 0, 1) rfl) rfl ?_
                  refine r_iload hk 3 (dtX4_digest_1 1 (123, .iload 4, 2) rfl) rfl ?_
                  refine r_iload hk 4 (dtX4_digest_1 2 (125, .iload 5, 2) rfl) rfl ?_
                  refine r_callI hF (fun v104 h H locs ls hH hS hl => run_V (y := yX4_ofTenant) hk (in_mo 0 (by decide)) rfl rfl (c_X4_ofTenant (kl K) hk.2.2.2.2.2.2.2.2.2.2.2 X  v32 v100 m33 v104 h) lk_X4_148 me_X4_ofTenant yf_X4_ofTenant (by decide) (by decide) rfl (Nat.le_of_ble_eq_true rfl) rfl (dtX4_digest_1 3 (127, .invokevirtual 148, 3) rfl) hH hS hl) (fun v104 hF => ?_)
                  refine r_i2l hk hF (dtX4_digest_1 4 (130, .i2l, 1) rfl) (fun v105 hF => ?_)
                  refine r_ladd hk hF (dtX4_digest_1 5 (131, .ladd, 1) rfl) (fun v106 hF => ?_)
                  refine r_lstore_n hk [(2, .long v106), (0, .ref (xad X (3, 0, 0, 0))), (1, .int v2), (4, .int v32), (5, .int v100)] (dtX4_digest_1 6 (132, .lstore_n 2, 1) rfl) (by decide) rfl ?_
                  refine r_iinc hk 1 4 (fun v107 => [(5, .int v107), (2, .long v106), (0, .ref (xad X (3, 0, 0, 0))), (1, .int v2), (4, .int v32)]) hF (dtX4_digest_1 7 (133, .iinc 5 1, 3) rfl) rfl (by decide) (by decide) (fun _ => rfl) (fun v107 hF => ?_)
                  refine r_goto hk 110 (dtX4_digest_1 8 (136, .goto (-26), 3) rfl) (by decide) ?_
                  exact r_sub hk [2, 3, 1, 4, 0] rfl (ih102 v106 v107 hF)
            exact r_sub hk [1, 2, 3, 4, 0] rfl (l102 fu v31 0 hF)
      exact r_sub hk [1, 2, 3, 0] rfl (l35 fu v6 0 m3 hF)
    have l111 : ∀ (n111 : Nat) (v108 : Int64) (v109 : Int32), L_X4_digest_47 v2 m3 n111 v108 v109 = some (rv, mE) → G X K 47 [(0, .ref (xad X (3, 0, 0, 0))), (1, .int v2), (2, .long v108), (4, .int v109)] [] m3 := by
      intro n111
      induction n111 with
      | zero => intro v108 v109 hF; exact nomatch (show (none : Option (Int64 × Mem)) = some (rv, mE) from hF)
      | succ n111 ih111 =>
        intro v108 v109 hF
        rw [L_X4_digest_47] at hF
        refine r_iload hk 3 (dtX4_digest_0 26 (47, .iload 4, 2) rfl) rfl ?_
        refine r_aload_n hk 0 (dtX4_digest_0 27 (49, .aload_n 0, 1) rfl) rfl ?_
        refine r_getR hk (k := 0) (fsX4 X) cbX4 (by decide) fl_X4_7 (in_mo 0 (by decide)) (fun _ => rfl) (fun _ _ => rfl) (dtX4_digest_0 28 (50, .getfield 7, 3) rfl) ?_
        refine r_sipush (v := 1080) hk (dtX4_digest_0 29 (53, .sipush 1080, 3) rfl) (by decide) ?_
        refine r_iald hk (in_mo 1 (by decide)) (fun _ => rfl) hF (dtX4_digest_0 30 (56, .iaload, 1) rfl) (fun v112 hF => ?_)
        refine r_icmp_ge hk 98 hF (dtX4_digest_0 31 (57, .if_icmp .ge 41, 3) rfl) (by decide) (fun hF => ?_) (fun hF => ?_)
        · exact r_sub hk [0, 1, 2] rfl (e98_7 v108 hF)
        · refine r_iconst (v := 0) hk (dtX4_digest_0 32 (60, .iconst 0, 1) rfl) (by decide) ?_
          refine r_istore hk [(5, .int 0), (0, .ref (xad X (3, 0, 0, 0))), (1, .int v2), (2, .long v108), (4, .int v109)] (dtX4_digest_0 33 (61, .istore 5, 2) rfl) (by decide) rfl ?_
          have e92_114 : ∀ (v113 : Int64), (C_X4_digest_92 v109 (fun w0 w1 => L_X4_digest_47 v2 m3 n111 w0 w1)) v113 = some (rv, mE) → G X K 92 [(0, .ref (xad X (3, 0, 0, 0))), (1, .int v2), (2, .long v113), (4, .int v109)] [] m3 := by
            intro v113 hF
            unfold C_X4_digest_92 at hF
            refine r_iinc hk 1 3 (fun v115 => [(4, .int v115), (0, .ref (xad X (3, 0, 0, 0))), (1, .int v2), (2, .long v113)]) hF (dtX4_digest_0 49 (92, .iinc 4 1, 3) rfl) rfl (by decide) (by decide) (fun _ => rfl) (fun v115 hF => ?_)
            refine r_goto hk 47 (dtX4_digest_0 50 (95, .goto (-48), 3) rfl) (by decide) ?_
            exact r_sub hk [1, 2, 3, 0] rfl (ih111 v113 v115 hF)
          have l119 : ∀ (n119 : Nat) (v116 : Int64) (v117 : Int32), L_X4_digest_63 m3 v109 (fun w0 w1 => L_X4_digest_47 v2 m3 n111 w0 w1) n119 v116 v117 = some (rv, mE) → G X K 63 [(0, .ref (xad X (3, 0, 0, 0))), (1, .int v2), (2, .long v116), (4, .int v109), (5, .int v117)] [] m3 := by
            intro n119
            induction n119 with
            | zero => intro v116 v117 hF; exact nomatch (show (none : Option (Int64 × Mem)) = some (rv, mE) from hF)
            | succ n119 ih119 =>
              intro v116 v117 hF
              rw [L_X4_digest_63] at hF
              refine r_iload hk 4 (dtX4_digest_0 34 (63, .iload 5, 2) rfl) rfl ?_
              refine r_bipush (v := 10) hk (dtX4_digest_0 35 (65, .bipush 10, 2) rfl) (by decide) ?_
              refine r_icmp_ge hk 92 hF (dtX4_digest_0 36 (67, .if_icmp .ge 25, 3) rfl) (by decide) (fun hF => ?_) (fun hF => ?_)
              · exact r_sub hk [0, 1, 2, 3] rfl (e92_114 v116 hF)
              · refine r_ldc2 hk cn_X4_178 (dtX4_digest_0 37 (70, .ldc2_w 178, 3) rfl) ?_
                refine r_lload_n hk 2 (dtX4_digest_0 38 (73, .lload_n 2, 1) rfl) rfl ?_
                refine r_lmul hk hF (dtX4_digest_0 39 (74, .lmul, 1) rfl) (fun v120 hF => ?_)
                refine r_aload_n hk 0 (dtX4_digest_0 40 (75, .aload_n 0, 1) rfl) rfl ?_
                refine r_iload hk 3 (dtX4_digest_0 41 (76, .iload 4, 2) rfl) rfl ?_
                refine r_iload hk 4 (dtX4_digest_0 42 (78, .iload 5, 2) rfl) rfl ?_
                refine r_callI hF (fun v121 h H locs ls hH hS hl => run_V (y := yX4_ofRow) hk (in_mo 0 (by decide)) rfl rfl (c_X4_ofRow (kl K) hk.2.2.2.2.2.2.2.2.2.2.2 X  v109 v117 m3 v121 h) lk_X4_137 me_X4_ofRow yf_X4_ofRow (by decide) (by decide) rfl (Nat.le_of_ble_eq_true rfl) rfl (dtX4_digest_0 43 (80, .invokevirtual 137, 3) rfl) hH hS hl) (fun v121 hF => ?_)
                refine r_i2l hk hF (dtX4_digest_0 44 (83, .i2l, 1) rfl) (fun v122 hF => ?_)
                refine r_ladd hk hF (dtX4_digest_0 45 (84, .ladd, 1) rfl) (fun v123 hF => ?_)
                refine r_lstore_n hk [(2, .long v123), (0, .ref (xad X (3, 0, 0, 0))), (1, .int v2), (4, .int v109), (5, .int v117)] (dtX4_digest_0 46 (85, .lstore_n 2, 1) rfl) (by decide) rfl ?_
                refine r_iinc hk 1 4 (fun v124 => [(5, .int v124), (2, .long v123), (0, .ref (xad X (3, 0, 0, 0))), (1, .int v2), (4, .int v109)]) hF (dtX4_digest_0 47 (86, .iinc 5 1, 3) rfl) rfl (by decide) (by decide) (fun _ => rfl) (fun v124 hF => ?_)
                refine r_goto hk 63 (dtX4_digest_0 48 (89, .goto (-26), 3) rfl) (by decide) ?_
                exact r_sub hk [2, 3, 1, 4, 0] rfl (ih119 v123 v124 hF)
          exact r_sub hk [1, 2, 3, 4, 0] rfl (l119 fu v108 0 hF)
    exact r_sub hk [1, 2, 3, 0] rfl (l111 fu v4 0 hF)
  have l128 : ∀ (n128 : Nat) (v125 : Int64) (v126 : Int32), L_X4_digest_17 v2 m3 n128 v125 v126 = some (rv, mE) → G X K 17 [(0, .ref (xad X (3, 0, 0, 0))), (1, .int v2), (2, .long v125), (4, .int v126)] [] m3 := by
    intro n128
    induction n128 with
    | zero => intro v125 v126 hF; exact nomatch (show (none : Option (Int64 × Mem)) = some (rv, mE) from hF)
    | succ n128 ih128 =>
      intro v125 v126 hF
      rw [L_X4_digest_17] at hF
      refine r_iload hk 3 (dtX4_digest_0 10 (17, .iload 4, 2) rfl) rfl ?_
      refine r_bipush (v := 8) hk (dtX4_digest_0 11 (19, .bipush 8, 2) rfl) (by decide) ?_
      refine r_icmp_ge hk 44 hF (dtX4_digest_0 12 (21, .if_icmp .ge 23, 3) rfl) (by decide) (fun hF => ?_) (fun hF => ?_)
      · exact r_sub hk [0, 1, 2] rfl (e44_5 v125 hF)
      · refine r_ldc2 hk cn_X4_178 (dtX4_digest_0 13 (24, .ldc2_w 178, 3) rfl) ?_
        refine r_lload_n hk 2 (dtX4_digest_0 14 (27, .lload_n 2, 1) rfl) rfl ?_
        refine r_lmul hk hF (dtX4_digest_0 15 (28, .lmul, 1) rfl) (fun v129 hF => ?_)
        refine r_aload_n hk 0 (dtX4_digest_0 16 (29, .aload_n 0, 1) rfl) rfl ?_
        refine r_iload hk 3 (dtX4_digest_0 17 (30, .iload 4, 2) rfl) rfl ?_
        refine r_callI hF (fun v130 h H locs ls hH hS hl => run_V (y := yX4_counted) hk (in_mo 0 (by decide)) rfl rfl (c_X4_counted (kl K) hk.2.2.2.2.2.2.2.2.2.2.2 X  v126 m3 v130 h) lk_X4_166 me_X4_counted yf_X4_counted (by decide) (by decide) rfl (Nat.le_of_ble_eq_true rfl) rfl (dtX4_digest_0 18 (32, .invokevirtual 166, 3) rfl) hH hS hl) (fun v130 hF => ?_)
        refine r_i2l hk hF (dtX4_digest_0 19 (35, .i2l, 1) rfl) (fun v131 hF => ?_)
        refine r_ladd hk hF (dtX4_digest_0 20 (36, .ladd, 1) rfl) (fun v132 hF => ?_)
        refine r_lstore_n hk [(2, .long v132), (0, .ref (xad X (3, 0, 0, 0))), (1, .int v2), (4, .int v126)] (dtX4_digest_0 21 (37, .lstore_n 2, 1) rfl) (by decide) rfl ?_
        refine r_iinc hk 1 3 (fun v133 => [(4, .int v133), (2, .long v132), (0, .ref (xad X (3, 0, 0, 0))), (1, .int v2)]) hF (dtX4_digest_0 22 (38, .iinc 4 1, 3) rfl) rfl (by decide) (by decide) (fun _ => rfl) (fun v133 hF => ?_)
        refine r_goto hk 17 (dtX4_digest_0 23 (41, .goto (-24), 3) rfl) (by decide) ?_
        exact r_sub hk [2, 3, 1, 0] rfl (ih128 v132 v133 hF)
  exact r_sub hk [3, 2, 1, 0] rfl (l128 fu 3049 0 hF)
