/-! the walks (written by dec.py) -/
set_option maxHeartbeats 4000000 in
set_option maxRecDepth 100000 in
theorem c_X4_pack (l : Launch) (hlf : l.stackTraces = false) (X : XW)  (p1 : Int32) (m0 : Mem) (rv : Int32) (mE : Mem) (hF : F_X4_pack p1 m0 = some (rv, mE)) : MX X l yX4_pack cX4_pack 5 (some .int) 2 [.ref (xad X (3, 0, 0, 0)), .int p1] m0 (QI X rv mE) := by
  refine startI hlf (by decide +kernel) rfl [(0, .ref (xad X (3, 0, 0, 0))), (1, .int p1)] rfl (Nat.le_of_ble_eq_true rfl) (fun K hk hR => ?_)
  unfold F_X4_pack at hF
  refine r_aload_n hk 0 (dtX4_pack_0 0 (0, .aload_n 0, 1) rfl) rfl ?_
  refine r_iconst (v := 0) hk (dtX4_pack_0 1 (1, .iconst 0, 1) rfl) (by decide) ?_
  refine r_putI hk (k := 6) (fsX4 X) cbX4 (by decide) fl_X4_25 (in_mo 0 (by decide)) (fun _ => rfl) rfl rfl (fun _ _ _ => rfl) (fun _ _ => (by decide : 6 < 11)) hF (dtX4_pack_0 2 (2, .putfield 25, 3) rfl) (fun m1 hF => ?_)
  refine r_iload_n hk 1 (dtX4_pack_0 3 (5, .iload_n 1, 1) rfl) rfl ?_
  refine r_callI hF (fun v2 h H locs ls hH hS hl => run_S hk (c_X4_isTenant (kl K) hk.2.2.2.2.2.2.2.2.2.2.2 X  p1 m1 v2 h) lk_X4_47 me_X4_isTenant yf_X4_isTenant (by decide) (by decide) rfl (Nat.le_of_ble_eq_true rfl) rfl (dtX4_pack_0 4 (6, .invokestatic 47, 3) rfl) hH hS hl) (fun v2 hF => ?_)
  refine r_if_ne hk 18 hF (dtX4_pack_0 5 (9, .ifCond .ne 9, 3) rfl) (by decide) (fun hF => ?_) (fun hF => ?_)
  · refine r_aload_n hk 0 (dtX4_pack_0 10 (18, .aload_n 0, 1) rfl) rfl ?_
    refine r_callVm hF (fun w m3 h H locs ls hH hS hl => run_V (y := yX4_saves) hk (in_mo 0 (by decide)) rfl rfl (c_X4_saves (kl K) hk.2.2.2.2.2.2.2.2.2.2.2 X   m1 w m3 h) lk_X4_54 me_X4_saves yf_X4_saves (by decide) (by decide) rfl (Nat.le_of_ble_eq_true rfl) rfl (dtX4_pack_0 11 (19, .invokevirtual 54, 3) rfl) hH hS hl) (fun _ m3 hF => ?_)
    refine r_iconst (v := 0) hk (dtX4_pack_0 12 (22, .iconst 0, 1) rfl) (by decide) ?_
    refine r_istore_n hk [(2, .int 0), (0, .ref (xad X (3, 0, 0, 0))), (1, .int p1)] (dtX4_pack_0 13 (23, .istore_n 2, 1) rfl) (by decide) rfl ?_
    refine r_iconst (v := 0) hk (dtX4_pack_0 14 (24, .iconst 0, 1) rfl) (by decide) ?_
    refine r_istore_n hk [(3, .int 0), (2, .int 0), (0, .ref (xad X (3, 0, 0, 0))), (1, .int p1)] (dtX4_pack_0 15 (25, .istore_n 3, 1) rfl) (by decide) rfl ?_
    refine r_iconst (v := 0) hk (dtX4_pack_0 16 (26, .iconst 0, 1) rfl) (by decide) ?_
    refine r_istore hk [(4, .int 0), (3, .int 0), (2, .int 0), (0, .ref (xad X (3, 0, 0, 0))), (1, .int p1)] (dtX4_pack_0 17 (27, .istore 4, 2) rfl) (by decide) rfl ?_
    have e82_6 : ∀ (v4 : Int32) (m5 : Mem), C_X4_pack_82 v4 m5 = some (rv, mE) → G X K 82 [(3, .int v4)] [] m5 := by
      intro v4 m5 hF
      unfold C_X4_pack_82 at hF
      refine r_iload_n hk 0 (dtX4_pack_0 45 (82, .iload_n 3, 1) rfl) rfl ?_
      cases Option.some.inj hF
      exact hR _ _ (dtX4_pack_0 46 (83, .ireturn, 1) rfl)
    have l12 : ∀ (n12 : Nat) (v7 : Int32) (v8 : Int32) (v9 : Int32) (m10 : Mem), L_X4_pack_29 p1 n12 v7 v8 v9 m10 = some (rv, mE) → G X K 29 [(0, .ref (xad X (3, 0, 0, 0))), (1, .int p1), (2, .int v7), (3, .int v8), (4, .int v9)] [] m10 := by
      intro n12
      induction n12 with
      | zero => intro v7 v8 v9 m10 hF; exact nomatch (show (none : Option (Int32 × Mem)) = some (rv, mE) from hF)
      | succ n12 ih12 =>
        intro v7 v8 v9 m10 hF
        rw [L_X4_pack_29] at hF
        refine r_iload hk 4 (dtX4_pack_0 18 (29, .iload 4, 2) rfl) rfl ?_
        refine r_bipush (v := 8) hk (dtX4_pack_0 19 (31, .bipush 8, 2) rfl) (by decide) ?_
        refine r_icmp_ge hk 82 hF (dtX4_pack_0 20 (33, .if_icmp .ge 49, 3) rfl) (by decide) (fun hF => ?_) (fun hF => ?_)
        · exact r_sub hk [3] rfl (e82_6 v8 m10 hF)
        · refine r_aload_n hk 0 (dtX4_pack_0 21 (36, .aload_n 0, 1) rfl) rfl ?_
          refine r_getR hk (k := 0) (fsX4 X) cbX4 (by decide) fl_X4_7 (in_mo 0 (by decide)) (fun _ => rfl) (fun _ _ => rfl) (dtX4_pack_0 22 (37, .getfield 7, 3) rfl) ?_
          refine r_sipush (v := 1081) hk (dtX4_pack_0 23 (40, .sipush 1081, 3) rfl) (by decide) ?_
          refine r_bipush (v := 8) hk (dtX4_pack_0 24 (43, .bipush 8, 2) rfl) (by decide) ?_
          refine r_iload_n hk 1 (dtX4_pack_0 25 (45, .iload_n 1, 1) rfl) rfl ?_
          refine r_imul hk hF (dtX4_pack_0 26 (46, .imul, 1) rfl) (fun v13 hF => ?_)
          refine r_iadd hk hF (dtX4_pack_0 27 (47, .iadd, 1) rfl) (fun v14 hF => ?_)
          refine r_iload hk 4 (dtX4_pack_0 28 (48, .iload 4, 2) rfl) rfl ?_
          refine r_iadd hk hF (dtX4_pack_0 29 (50, .iadd, 1) rfl) (fun v15 hF => ?_)
          refine r_iald hk (in_mo 1 (by decide)) (fun _ => rfl) hF (dtX4_pack_0 30 (51, .iaload, 1) rfl) (fun v16 hF => ?_)
          refine r_iconst (v := (-1)) hk (dtX4_pack_0 31 (52, .iconst (-1), 1) rfl) (by decide) ?_
          have j76_20 : ∀ (v17 : Int32) (v18 : Int32) (m19 : Mem), (J_X4_pack_76 v9 (fun w0 w1 w2 w3 => L_X4_pack_29 p1 n12 w0 w1 w2 w3)) v17 v18 m19 = some (rv, mE) → G X K 76 [(0, .ref (xad X (3, 0, 0, 0))), (1, .int p1), (2, .int v17), (3, .int v18), (4, .int v9)] [] m19 := by
            intro v17 v18 m19 hF
            unfold J_X4_pack_76 at hF
            refine r_iinc hk 1 4 (fun v21 => [(4, .int v21), (0, .ref (xad X (3, 0, 0, 0))), (1, .int p1), (2, .int v17), (3, .int v18)]) hF (dtX4_pack_0 43 (76, .iinc 4 1, 3) rfl) rfl (by decide) (by decide) (fun _ => rfl) (fun v21 hF => ?_)
            refine r_goto hk 29 (dtX4_pack_0 44 (79, .goto (-50), 3) rfl) (by decide) ?_
            exact r_sub hk [1, 2, 3, 4, 0] rfl (ih12 v17 v18 v21 m19 hF)
          refine r_icmp_eq hk 76 hF (dtX4_pack_0 32 (53, .if_icmp .eq 23, 3) rfl) (by decide) (fun hF => ?_) (fun hF => ?_)
          · exact r_sub hk [0, 1, 2, 3, 4] rfl (j76_20 v7 v8 m10 hF)
          · refine r_iload hk 4 (dtX4_pack_0 33 (56, .iload 4, 2) rfl) rfl ?_
            refine r_iload_n hk 2 (dtX4_pack_0 34 (58, .iload_n 2, 1) rfl) rfl ?_
            have j73_24 : ∀ (v22 : Int32) (m23 : Mem), (J_X4_pack_73 v7 v9 (fun w0 w1 w2 w3 => L_X4_pack_29 p1 n12 w0 w1 w2 w3)) v22 m23 = some (rv, mE) → G X K 73 [(0, .ref (xad X (3, 0, 0, 0))), (1, .int p1), (2, .int v7), (3, .int v22), (4, .int v9)] [] m23 := by
              intro v22 m23 hF
              unfold J_X4_pack_73 at hF
              refine r_iinc hk 1 2 (fun v25 => [(2, .int v25), (0, .ref (xad X (3, 0, 0, 0))), (1, .int p1), (3, .int v22), (4, .int v9)]) hF (dtX4_pack_0 42 (73, .iinc 2 1, 3) rfl) rfl (by decide) (by decide) (fun _ => rfl) (fun v25 hF => ?_)
              exact r_sub hk [1, 2, 0, 3, 4] rfl (j76_20 v25 v22 m23 hF)
            refine r_icmp_eq hk 73 hF (dtX4_pack_0 35 (59, .if_icmp .eq 14, 3) rfl) (by decide) (fun hF => ?_) (fun hF => ?_)
            · exact r_sub hk [0, 1, 2, 3, 4] rfl (j73_24 v8 m10 hF)
            · refine r_aload_n hk 0 (dtX4_pack_0 36 (62, .aload_n 0, 1) rfl) rfl ?_
              refine r_iload_n hk 1 (dtX4_pack_0 37 (63, .iload_n 1, 1) rfl) rfl ?_
              refine r_iload hk 4 (dtX4_pack_0 38 (64, .iload 4, 2) rfl) rfl ?_
              refine r_iload_n hk 2 (dtX4_pack_0 39 (66, .iload_n 2, 1) rfl) rfl ?_
              refine r_callVm hF (fun w m26 h H locs ls hH hS hl => run_V (y := yX4_shifts) hk (in_mo 0 (by decide)) rfl rfl (c_X4_shifts (kl K) hk.2.2.2.2.2.2.2.2.2.2.2 X  p1 v9 v7 m10 w m26 h) lk_X4_70 me_X4_shifts yf_X4_shifts (by decide) (by decide) rfl (Nat.le_of_ble_eq_true rfl) rfl (dtX4_pack_0 40 (67, .invokevirtual 70, 3) rfl) hH hS hl) (fun _ m26 hF => ?_)
              refine r_iinc hk 1 3 (fun v27 => [(3, .int v27), (0, .ref (xad X (3, 0, 0, 0))), (1, .int p1), (2, .int v7), (4, .int v9)]) hF (dtX4_pack_0 41 (70, .iinc 3 1, 3) rfl) rfl (by decide) (by decide) (fun _ => rfl) (fun v27 hF => ?_)
              exact r_sub hk [1, 2, 3, 0, 4] rfl (j73_24 v27 m26 hF)
    exact r_sub hk [3, 4, 2, 1, 0] rfl (l12 fu 0 0 0 m3 hF)
  · refine r_aload_n hk 0 (dtX4_pack_0 6 (12, .aload_n 0, 1) rfl) rfl ?_
    refine r_iconst (v := 1) hk (dtX4_pack_0 7 (13, .iconst 1, 1) rfl) (by decide) ?_
    refine r_callIm hF (fun v28 m29 h H locs ls hH hS hl => run_V (y := yX4_fails) hk (in_mo 0 (by decide)) rfl rfl (c_X4_fails (kl K) hk.2.2.2.2.2.2.2.2.2.2.2 X  1 m1 v28 m29 h) lk_X4_37 me_X4_fails yf_X4_fails (by decide) (by decide) rfl (Nat.le_of_ble_eq_true rfl) rfl (dtX4_pack_0 8 (14, .invokevirtual 37, 3) rfl) hH hS hl) (fun v28 m29 hF => ?_)
    cases Option.some.inj hF
    exact hR _ _ (dtX4_pack_0 9 (17, .ireturn, 1) rfl)
set_option maxHeartbeats 4000000 in
set_option maxRecDepth 100000 in
theorem c_X4_index (l : Launch) (hlf : l.stackTraces = false) (X : XW)  (p1 : Int32) (p2 : Int32) (m0 : Mem) (rv : Int32) (mE : Mem) (hF : F_X4_index p1 p2 m0 = some (rv, mE)) : MX X l yX4_index cX4_index 5 (some .int) 2 [.ref (xad X (3, 0, 0, 0)), .int p1, .int p2] m0 (QI X rv mE) := by
  refine startI hlf (by decide +kernel) rfl [(0, .ref (xad X (3, 0, 0, 0))), (1, .int p1), (2, .int p2)] rfl (Nat.le_of_ble_eq_true rfl) (fun K hk hR => ?_)
  unfold F_X4_index at hF
  refine r_aload_n hk 0 (dtX4_index_0 0 (0, .aload_n 0, 1) rfl) rfl ?_
  refine r_iconst (v := 0) hk (dtX4_index_0 1 (1, .iconst 0, 1) rfl) (by decide) ?_
  refine r_putI hk (k := 6) (fsX4 X) cbX4 (by decide) fl_X4_25 (in_mo 0 (by decide)) (fun _ => rfl) rfl rfl (fun _ _ _ => rfl) (fun _ _ => (by decide : 6 < 11)) hF (dtX4_index_0 2 (2, .putfield 25, 3) rfl) (fun m1 hF => ?_)
  refine r_iload_n hk 1 (dtX4_index_0 3 (5, .iload_n 1, 1) rfl) rfl ?_
  refine r_callI hF (fun v2 h H locs ls hH hS hl => run_S hk (c_X4_isTenant (kl K) hk.2.2.2.2.2.2.2.2.2.2.2 X  p1 m1 v2 h) lk_X4_47 me_X4_isTenant yf_X4_isTenant (by decide) (by decide) rfl (Nat.le_of_ble_eq_true rfl) rfl (dtX4_index_0 4 (6, .invokestatic 47, 3) rfl) hH hS hl) (fun v2 hF => ?_)
  have j19_3 : (J_X4_index_19 m1) = some (rv, mE) → G X K 19 [(0, .ref (xad X (3, 0, 0, 0)))] [] m1 := by
    intro hF
    unfold J_X4_index_19 at hF
    refine r_aload_n hk 0 (dtX4_index_0 9 (19, .aload_n 0, 1) rfl) rfl ?_
    refine r_iconst (v := 1) hk (dtX4_index_0 10 (20, .iconst 1, 1) rfl) (by decide) ?_
    refine r_callIm hF (fun v4 m5 h H locs ls hH hS hl => run_V (y := yX4_fails) hk (in_mo 0 (by decide)) rfl rfl (c_X4_fails (kl K) hk.2.2.2.2.2.2.2.2.2.2.2 X  1 m1 v4 m5 h) lk_X4_37 me_X4_fails yf_X4_fails (by decide) (by decide) rfl (Nat.le_of_ble_eq_true rfl) rfl (dtX4_index_0 11 (21, .invokevirtual 37, 3) rfl) hH hS hl) (fun v4 m5 hF => ?_)
    cases Option.some.inj hF
    exact hR _ _ (dtX4_index_0 12 (24, .ireturn, 1) rfl)
  refine r_if_eq hk 19 hF (dtX4_index_0 5 (9, .ifCond .eq 10, 3) rfl) (by decide) (fun hF => ?_) (fun hF => ?_)
  · exact r_sub hk [0] rfl (j19_3 hF)
  · refine r_iload_n hk 2 (dtX4_index_0 6 (12, .iload_n 2, 1) rfl) rfl ?_
    refine r_callI hF (fun v6 h H locs ls hH hS hl => run_S hk (c_X4_isLetter (kl K) hk.2.2.2.2.2.2.2.2.2.2.2 X  p2 m1 v6 h) lk_X4_51 me_X4_isLetter yf_X4_isLetter (by decide) (by decide) rfl (Nat.le_of_ble_eq_true rfl) rfl (dtX4_index_0 7 (13, .invokestatic 51, 3) rfl) hH hS hl) (fun v6 hF => ?_)
    refine r_if_ne hk 25 hF (dtX4_index_0 8 (16, .ifCond .ne 9, 3) rfl) (by decide) (fun hF => ?_) (fun hF => ?_)
    · refine r_aload_n hk 0 (dtX4_index_0 13 (25, .aload_n 0, 1) rfl) rfl ?_
      refine r_callVm hF (fun w m7 h H locs ls hH hS hl => run_V (y := yX4_saves) hk (in_mo 0 (by decide)) rfl rfl (c_X4_saves (kl K) hk.2.2.2.2.2.2.2.2.2.2.2 X   m1 w m7 h) lk_X4_54 me_X4_saves yf_X4_saves (by decide) (by decide) rfl (Nat.le_of_ble_eq_true rfl) rfl (dtX4_index_0 14 (26, .invokevirtual 54, 3) rfl) hH hS hl) (fun _ m7 hF => ?_)
      refine r_aload_n hk 0 (dtX4_index_0 15 (29, .aload_n 0, 1) rfl) rfl ?_
      refine r_iload_n hk 1 (dtX4_index_0 16 (30, .iload_n 1, 1) rfl) rfl ?_
      refine r_iload_n hk 2 (dtX4_index_0 17 (31, .iload_n 2, 1) rfl) rfl ?_
      refine r_callI hF (fun v8 h H locs ls hH hS hl => run_V (y := yX4_columnOf) hk (in_mo 0 (by decide)) rfl rfl (c_X4_columnOf (kl K) hk.2.2.2.2.2.2.2.2.2.2.2 X  p1 p2 m7 v8 h) lk_X4_64 me_X4_columnOf yf_X4_columnOf (by decide) (by decide) rfl (Nat.le_of_ble_eq_true rfl) rfl (dtX4_index_0 18 (32, .invokevirtual 64, 3) rfl) hH hS hl) (fun v8 hF => ?_)
      refine r_istore_n hk [(3, .int v8), (0, .ref (xad X (3, 0, 0, 0))), (1, .int p1), (2, .int p2)] (dtX4_index_0 19 (35, .istore_n 3, 1) rfl) (by decide) rfl ?_
      refine r_iload_n hk 0 (dtX4_index_0 20 (36, .iload_n 3, 1) rfl) rfl ?_
      refine r_iconst (v := (-1)) hk (dtX4_index_0 21 (37, .iconst (-1), 1) rfl) (by decide) ?_
      refine r_icmp_ne hk 48 hF (dtX4_index_0 22 (38, .if_icmp .ne 10, 3) rfl) (by decide) (fun hF => ?_) (fun hF => ?_)
      · refine r_sipush (v := 1129) hk (dtX4_index_0 28 (48, .sipush 1129, 3) rfl) (by decide) ?_
        refine r_bipush (v := 8) hk (dtX4_index_0 29 (51, .bipush 8, 2) rfl) (by decide) ?_
        refine r_iload_n hk 2 (dtX4_index_0 30 (53, .iload_n 1, 1) rfl) rfl ?_
        refine r_imul hk hF (dtX4_index_0 31 (54, .imul, 1) rfl) (fun v9 hF => ?_)
        refine r_iadd hk hF (dtX4_index_0 32 (55, .iadd, 1) rfl) (fun v10 hF => ?_)
        refine r_iload_n hk 0 (dtX4_index_0 33 (56, .iload_n 3, 1) rfl) rfl ?_
        refine r_iadd hk hF (dtX4_index_0 34 (57, .iadd, 1) rfl) (fun v11 hF => ?_)
        refine r_istore hk [(4, .int v11), (3, .int v8), (0, .ref (xad X (3, 0, 0, 0))), (1, .int p1), (2, .int p2)] (dtX4_index_0 35 (58, .istore 4, 2) rfl) (by decide) rfl ?_
        refine r_aload_n hk 2 (dtX4_index_0 36 (60, .aload_n 0, 1) rfl) rfl ?_
        refine r_getR hk (k := 0) (fsX4 X) cbX4 (by decide) fl_X4_7 (in_mo 0 (by decide)) (fun _ => rfl) (fun _ _ => rfl) (dtX4_index_0 37 (61, .getfield 7, 3) rfl) ?_
        refine r_iload hk 0 (dtX4_index_0 38 (64, .iload 4, 2) rfl) rfl ?_
        refine r_iconst (v := 1) hk (dtX4_index_0 39 (66, .iconst 1, 1) rfl) (by decide) ?_
        refine r_aload_n hk 2 (dtX4_index_0 40 (67, .aload_n 0, 1) rfl) rfl ?_
        refine r_getR hk (k := 0) (fsX4 X) cbX4 (by decide) fl_X4_7 (in_mo 0 (by decide)) (fun _ => rfl) (fun _ _ => rfl) (dtX4_index_0 41 (68, .getfield 7, 3) rfl) ?_
        refine r_iload hk 0 (dtX4_index_0 42 (71, .iload 4, 2) rfl) rfl ?_
        refine r_iald hk (in_mo 1 (by decide)) (fun _ => rfl) hF (dtX4_index_0 43 (73, .iaload, 1) rfl) (fun v12 hF => ?_)
        refine r_isub hk hF (dtX4_index_0 44 (74, .isub, 1) rfl) (fun v13 hF => ?_)
        refine r_iast hk (in_mo 1 (by decide)) (fun _ => rfl) hF (dtX4_index_0 45 (75, .iastore, 1) rfl) (fun m14 hF => ?_)
        refine r_aload_n hk 2 (dtX4_index_0 46 (76, .aload_n 0, 1) rfl) rfl ?_
        refine r_getR hk (k := 0) (fsX4 X) cbX4 (by decide) fl_X4_7 (in_mo 0 (by decide)) (fun _ => rfl) (fun _ _ => rfl) (dtX4_index_0 47 (77, .getfield 7, 3) rfl) ?_
        refine r_iload hk 0 (dtX4_index_0 48 (80, .iload 4, 2) rfl) rfl ?_
        refine r_iald hk (in_mo 1 (by decide)) (fun _ => rfl) hF (dtX4_index_0 49 (82, .iaload, 1) rfl) (fun v15 hF => ?_)
        cases Option.some.inj hF
        exact hR _ _ (dtX4_index_0 50 (83, .ireturn, 1) rfl)
      · refine r_aload_n hk 1 (dtX4_index_0 23 (41, .aload_n 0, 1) rfl) rfl ?_
        refine r_iload_n hk 2 (dtX4_index_0 24 (42, .iload_n 1, 1) rfl) rfl ?_
        refine r_iconst (v := 5) hk (dtX4_index_0 25 (43, .iconst 5, 1) rfl) (by decide) ?_
        refine r_callIm hF (fun v16 m17 h H locs ls hH hS hl => run_V (y := yX4_refuses) hk (in_mo 0 (by decide)) rfl rfl (c_X4_refuses (kl K) hk.2.2.2.2.2.2.2.2.2.2.2 X  p1 5 m7 v16 m17 h) lk_X4_60 me_X4_refuses yf_X4_refuses (by decide) (by decide) rfl (Nat.le_of_ble_eq_true rfl) rfl (dtX4_index_0 26 (44, .invokevirtual 60, 3) rfl) hH hS hl) (fun v16 m17 hF => ?_)
        cases Option.some.inj hF
        exact hR _ _ (dtX4_index_0 27 (47, .ireturn, 1) rfl)
    · exact r_sub hk [0] rfl (j19_3 hF)
set_option maxHeartbeats 4000000 in
set_option maxRecDepth 100000 in
theorem c_X4_rowsOf (l : Launch) (hlf : l.stackTraces = false) (X : XW)  (p1 : Int32) (m0 : Mem) (rv : Int32) (hF : F_X4_rowsOf p1 m0 = some rv) : MX X l yX4_rowsOf cX4_rowsOf 4 (some .int) 1 [.ref (xad X (3, 0, 0, 0)), .int p1] m0 (QI X rv m0) := by
  refine startI hlf (by decide +kernel) rfl [(0, .ref (xad X (3, 0, 0, 0))), (1, .int p1)] rfl (Nat.le_of_ble_eq_true rfl) (fun K hk hR => ?_)
  unfold F_X4_rowsOf at hF
  refine r_iconst (v := 0) hk (dtX4_rowsOf_0 0 (0, .iconst 0, 1) rfl) (by decide) ?_
  refine r_istore_n hk [(2, .int 0), (0, .ref (xad X (3, 0, 0, 0))), (1, .int p1)] (dtX4_rowsOf_0 1 (1, .istore_n 2, 1) rfl) (by decide) rfl ?_
  refine r_iconst (v := 0) hk (dtX4_rowsOf_0 2 (2, .iconst 0, 1) rfl) (by decide) ?_
  refine r_istore_n hk [(3, .int 0), (2, .int 0), (0, .ref (xad X (3, 0, 0, 0))), (1, .int p1)] (dtX4_rowsOf_0 3 (3, .istore_n 3, 1) rfl) (by decide) rfl ?_
  have e39_2 : ∀ (v1 : Int32), C_X4_rowsOf_39 v1 = some rv → G X K 39 [(2, .int v1)] [] m0 := by
    intro v1 hF
    unfold C_X4_rowsOf_39 at hF
    refine r_iload_n hk 0 (dtX4_rowsOf_0 23 (39, .iload_n 2, 1) rfl) rfl ?_
    cases Option.some.inj hF
    exact hR _ _ (dtX4_rowsOf_0 24 (40, .ireturn, 1) rfl)
  have l6 : ∀ (n6 : Nat) (v3 : Int32) (v4 : Int32), L_X4_rowsOf_4 p1 m0 n6 v3 v4 = some rv → G X K 4 [(0, .ref (xad X (3, 0, 0, 0))), (1, .int p1), (2, .int v3), (3, .int v4)] [] m0 := by
    intro n6
    induction n6 with
    | zero => intro v3 v4 hF; exact nomatch (show (none : Option Int32) = some rv from hF)
    | succ n6 ih6 =>
      intro v3 v4 hF
      rw [L_X4_rowsOf_4] at hF
      refine r_iload_n hk 3 (dtX4_rowsOf_0 4 (4, .iload_n 3, 1) rfl) rfl ?_
      refine r_aload_n hk 0 (dtX4_rowsOf_0 5 (5, .aload_n 0, 1) rfl) rfl ?_
      refine r_getR hk (k := 0) (fsX4 X) cbX4 (by decide) fl_X4_7 (in_mo 0 (by decide)) (fun _ => rfl) (fun _ _ => rfl) (dtX4_rowsOf_0 6 (6, .getfield 7, 3) rfl) ?_
      refine r_sipush (v := 1080) hk (dtX4_rowsOf_0 7 (9, .sipush 1080, 3) rfl) (by decide) ?_
      refine r_iald hk (in_mo 1 (by decide)) (fun _ => rfl) hF (dtX4_rowsOf_0 8 (12, .iaload, 1) rfl) (fun v7 hF => ?_)
      refine r_icmp_ge hk 39 hF (dtX4_rowsOf_0 9 (13, .if_icmp .ge 26, 3) rfl) (by decide) (fun hF => ?_) (fun hF => ?_)
      · exact r_sub hk [2] rfl (e39_2 v3 hF)
      · refine r_iload_n hk 2 (dtX4_rowsOf_0 10 (16, .iload_n 2, 1) rfl) rfl ?_
        refine r_aload_n hk 0 (dtX4_rowsOf_0 11 (17, .aload_n 0, 1) rfl) rfl ?_
        refine r_iload_n hk 3 (dtX4_rowsOf_0 12 (18, .iload_n 3, 1) rfl) rfl ?_
        refine r_callI hF (fun v8 h H locs ls hH hS hl => run_V (y := yX4_tenantOf) hk (in_mo 0 (by decide)) rfl rfl (c_X4_tenantOf (kl K) hk.2.2.2.2.2.2.2.2.2.2.2 X  v4 m0 v8 h) lk_X4_41 me_X4_tenantOf yf_X4_tenantOf (by decide) (by decide) rfl (Nat.le_of_ble_eq_true rfl) rfl (dtX4_rowsOf_0 13 (19, .invokevirtual 41, 3) rfl) hH hS hl) (fun v8 hF => ?_)
        refine r_iload_n hk 1 (dtX4_rowsOf_0 14 (22, .iload_n 1, 1) rfl) rfl ?_
        have j31_10 : ∀ (v9 : Int32), (J_X4_rowsOf_31 v3 v4 (fun w0 w1 => L_X4_rowsOf_4 p1 m0 n6 w0 w1)) v9 = some rv → G X K 31 [(0, .ref (xad X (3, 0, 0, 0))), (1, .int p1), (3, .int v4)] [.int v9, .int v3] m0 := by
          intro v9 hF
          unfold J_X4_rowsOf_31 at hF
          refine r_iadd hk hF (dtX4_rowsOf_0 19 (31, .iadd, 1) rfl) (fun v11 hF => ?_)
          refine r_istore_n hk [(2, .int v11), (0, .ref (xad X (3, 0, 0, 0))), (1, .int p1), (3, .int v4)] (dtX4_rowsOf_0 20 (32, .istore_n 2, 1) rfl) (by decide) rfl ?_
          refine r_iinc hk 1 3 (fun v12 => [(3, .int v12), (2, .int v11), (0, .ref (xad X (3, 0, 0, 0))), (1, .int p1)]) hF (dtX4_rowsOf_0 21 (33, .iinc 3 1, 3) rfl) rfl (by decide) (by decide) (fun _ => rfl) (fun v12 hF => ?_)
          refine r_goto hk 4 (dtX4_rowsOf_0 22 (36, .goto (-32), 3) rfl) (by decide) ?_
          exact r_sub hk [2, 3, 1, 0] rfl (ih6 v11 v12 hF)
        refine r_icmp_ne hk 30 hF (dtX4_rowsOf_0 15 (23, .if_icmp .ne 7, 3) rfl) (by decide) (fun hF => ?_) (fun hF => ?_)
        · refine r_iconst (v := 0) hk (dtX4_rowsOf_0 18 (30, .iconst 0, 1) rfl) (by decide) ?_
          exact r_sub hk [0, 1, 3] rfl (j31_10 0 hF)
        · refine r_iconst (v := 1) hk (dtX4_rowsOf_0 16 (26, .iconst 1, 1) rfl) (by decide) ?_
          refine r_goto hk 31 (dtX4_rowsOf_0 17 (27, .goto 4, 3) rfl) (by decide) ?_
          exact r_sub hk [0, 1, 3] rfl (j31_10 1 hF)
  exact r_sub hk [2, 3, 1, 0] rfl (l6 fu 0 0 hF)
set_option maxHeartbeats 4000000 in
set_option maxRecDepth 100000 in
theorem c_X4_inTable (l : Launch) (hlf : l.stackTraces = false) (X : XW)   (m0 : Mem) (rv : Int32) (hF : F_X4_inTable m0 = some rv) : MX X l yX4_inTable cX4_inTable 3 (some .int) 2 [.ref (xad X (3, 0, 0, 0))] m0 (QI X rv m0) := by
  refine startI hlf (by decide +kernel) rfl [(0, .ref (xad X (3, 0, 0, 0)))] rfl (Nat.le_of_ble_eq_true rfl) (fun K hk hR => ?_)
  unfold F_X4_inTable at hF
  refine r_iconst (v := 0) hk (dtX4_inTable_0 0 (0, .iconst 0, 1) rfl) (by decide) ?_
  refine r_istore_n hk [(1, .int 0), (0, .ref (xad X (3, 0, 0, 0)))] (dtX4_inTable_0 1 (1, .istore_n 1, 1) rfl) (by decide) rfl ?_
  refine r_iconst (v := 0) hk (dtX4_inTable_0 2 (2, .iconst 0, 1) rfl) (by decide) ?_
  refine r_istore_n hk [(2, .int 0), (1, .int 0), (0, .ref (xad X (3, 0, 0, 0)))] (dtX4_inTable_0 3 (3, .istore_n 2, 1) rfl) (by decide) rfl ?_
  have e41_2 : ∀ (v1 : Int32), C_X4_inTable_41 v1 = some rv → G X K 41 [(1, .int v1)] [] m0 := by
    intro v1 hF
    unfold C_X4_inTable_41 at hF
    refine r_iload_n hk 0 (dtX4_inTable_0 25 (41, .iload_n 1, 1) rfl) rfl ?_
    cases Option.some.inj hF
    exact hR _ _ (dtX4_inTable_0 26 (42, .ireturn, 1) rfl)
  have l6 : ∀ (n6 : Nat) (v3 : Int32) (v4 : Int32), L_X4_inTable_4 m0 n6 v3 v4 = some rv → G X K 4 [(0, .ref (xad X (3, 0, 0, 0))), (1, .int v3), (2, .int v4)] [] m0 := by
    intro n6
    induction n6 with
    | zero => intro v3 v4 hF; exact nomatch (show (none : Option Int32) = some rv from hF)
    | succ n6 ih6 =>
      intro v3 v4 hF
      rw [L_X4_inTable_4] at hF
      refine r_iload_n hk 2 (dtX4_inTable_0 4 (4, .iload_n 2, 1) rfl) rfl ?_
      refine r_iconst (v := 3) hk (dtX4_inTable_0 5 (5, .iconst 3, 1) rfl) (by decide) ?_
      refine r_icmp_ge hk 41 hF (dtX4_inTable_0 6 (6, .if_icmp .ge 35, 3) rfl) (by decide) (fun hF => ?_) (fun hF => ?_)
      · exact r_sub hk [1] rfl (e41_2 v3 hF)
      · refine r_iload_n hk 1 (dtX4_inTable_0 7 (9, .iload_n 1, 1) rfl) rfl ?_
        refine r_aload_n hk 0 (dtX4_inTable_0 8 (10, .aload_n 0, 1) rfl) rfl ?_
        refine r_getR hk (k := 0) (fsX4 X) cbX4 (by decide) fl_X4_7 (in_mo 0 (by decide)) (fun _ => rfl) (fun _ _ => rfl) (dtX4_inTable_0 9 (11, .getfield 7, 3) rfl) ?_
        refine r_sipush (v := 1159) hk (dtX4_inTable_0 10 (14, .sipush 1159, 3) rfl) (by decide) ?_
        refine r_iload_n hk 2 (dtX4_inTable_0 11 (17, .iload_n 2, 1) rfl) rfl ?_
        refine r_iadd hk hF (dtX4_inTable_0 12 (18, .iadd, 1) rfl) (fun v7 hF => ?_)
        refine r_iald hk (in_mo 1 (by decide)) (fun _ => rfl) hF (dtX4_inTable_0 13 (19, .iaload, 1) rfl) (fun v8 hF => ?_)
        refine r_iconst (v := 1) hk (dtX4_inTable_0 14 (20, .iconst 1, 1) rfl) (by decide) ?_
        have j33_10 : ∀ (v9 : Int32), (J_X4_inTable_33 v3 v4 (fun w0 w1 => L_X4_inTable_4 m0 n6 w0 w1)) v9 = some rv → G X K 33 [(0, .ref (xad X (3, 0, 0, 0))), (2, .int v4)] [.int v9, .int v3] m0 := by
          intro v9 hF
          unfold J_X4_inTable_33 at hF
          refine r_iadd hk hF (dtX4_inTable_0 21 (33, .iadd, 1) rfl) (fun v11 hF => ?_)
          refine r_istore_n hk [(1, .int v11), (0, .ref (xad X (3, 0, 0, 0))), (2, .int v4)] (dtX4_inTable_0 22 (34, .istore_n 1, 1) rfl) (by decide) rfl ?_
          refine r_iinc hk 1 2 (fun v12 => [(2, .int v12), (1, .int v11), (0, .ref (xad X (3, 0, 0, 0)))]) hF (dtX4_inTable_0 23 (35, .iinc 2 1, 3) rfl) rfl (by decide) (by decide) (fun _ => rfl) (fun v12 hF => ?_)
          refine r_goto hk 4 (dtX4_inTable_0 24 (38, .goto (-34), 3) rfl) (by decide) ?_
          exact r_sub hk [2, 1, 0] rfl (ih6 v11 v12 hF)
        refine r_icmp_ne hk 28 hF (dtX4_inTable_0 15 (21, .if_icmp .ne 7, 3) rfl) (by decide) (fun hF => ?_) (fun hF => ?_)
        · refine r_aload_n hk 0 (dtX4_inTable_0 18 (28, .aload_n 0, 1) rfl) rfl ?_
          refine r_iload_n hk 2 (dtX4_inTable_0 19 (29, .iload_n 2, 1) rfl) rfl ?_
          refine r_callI hF (fun v13 h H locs ls hH hS hl => run_V (y := yX4_rowsOf) hk (in_mo 0 (by decide)) rfl rfl (c_X4_rowsOf (kl K) hk.2.2.2.2.2.2.2.2.2.2.2 X  v4 m0 v13 h) lk_X4_44 me_X4_rowsOf yf_X4_rowsOf (by decide) (by decide) rfl (Nat.le_of_ble_eq_true rfl) rfl (dtX4_inTable_0 20 (30, .invokevirtual 44, 3) rfl) hH hS hl) (fun v13 hF => ?_)
          exact r_sub hk [0, 2] rfl (j33_10 v13 hF)
        · refine r_iconst (v := 0) hk (dtX4_inTable_0 16 (24, .iconst 0, 1) rfl) (by decide) ?_
          refine r_goto hk 33 (dtX4_inTable_0 17 (25, .goto 8, 3) rfl) (by decide) ?_
          exact r_sub hk [0, 2] rfl (j33_10 0 hF)
  exact r_sub hk [2, 1, 0] rfl (l6 fu 0 0 hF)
set_option maxHeartbeats 4000000 in
set_option maxRecDepth 100000 in
theorem c_X4_sorts (l : Launch) (hlf : l.stackTraces = false) (X : XW)   (m0 : Mem) (rv : Unit) (mE : Mem) (hF : F_X4_sorts m0 = some (rv, mE)) : MX X l yX4_sorts cX4_sorts 6 none 1 [.ref (xad X (3, 0, 0, 0))] m0 (QV X mE) := by
  refine startV hlf (by decide +kernel) rfl [(0, .ref (xad X (3, 0, 0, 0)))] rfl (Nat.le_of_ble_eq_true rfl) (fun K hk hR => ?_)
  unfold F_X4_sorts at hF
  refine r_iconst (v := 0) hk (dtX4_sorts_0 0 (0, .iconst 0, 1) rfl) (by decide) ?_
  refine r_istore_n hk [(1, .int 0), (0, .ref (xad X (3, 0, 0, 0)))] (dtX4_sorts_0 1 (1, .istore_n 1, 1) rfl) (by decide) rfl ?_
  refine r_iconst (v := (-1)) hk (dtX4_sorts_0 2 (2, .iconst (-1), 1) rfl) (by decide) ?_
  refine r_istore_n hk [(2, .int (-1)), (1, .int 0), (0, .ref (xad X (3, 0, 0, 0)))] (dtX4_sorts_0 3 (3, .istore_n 2, 1) rfl) (by decide) rfl ?_
  have e128_3 : ∀ (v1 : Int32) (m2 : Mem), C_X4_sorts_128 v1 m2 = some (rv, mE) → G X K 128 [(0, .ref (xad X (3, 0, 0, 0))), (1, .int v1)] [] m2 := by
    intro v1 m2 hF
    unfold C_X4_sorts_128 at hF
    refine r_iconst (v := 0) hk (dtX4_sorts_1 5 (128, .iconst 0, 1) rfl) (by decide) ?_
    refine r_istore_n hk [(2, .int 0), (0, .ref (xad X (3, 0, 0, 0))), (1, .int v1)] (dtX4_sorts_1 6 (129, .istore_n 2, 1) rfl) (by decide) rfl ?_
    have e156_5 : ∀ (m4 : Mem), C_X4_sorts_156 m4 = some (rv, mE) → G X K 156 [] [] m4 := by
      intro m4 hF
      unfold C_X4_sorts_156 at hF
      cases Option.some.inj hF
      exact hR _ _ (dtX4_sorts_1 22 (156, .return_, 1) rfl)
    have l9 : ∀ (n9 : Nat) (v6 : Int32) (m7 : Mem), L_X4_sorts_130 v1 n9 v6 m7 = some (rv, mE) → G X K 130 [(0, .ref (xad X (3, 0, 0, 0))), (1, .int v1), (2, .int v6)] [] m7 := by
      intro n9
      induction n9 with
      | zero => intro v6 m7 hF; exact nomatch (show (none : Option (Unit × Mem)) = some (rv, mE) from hF)
      | succ n9 ih9 =>
        intro v6 m7 hF
        rw [L_X4_sorts_130] at hF
        refine r_iload_n hk 2 (dtX4_sorts_1 7 (130, .iload_n 2, 1) rfl) rfl ?_
        refine r_bipush (v := 9) hk (dtX4_sorts_1 8 (131, .bipush 9, 2) rfl) (by decide) ?_
        refine r_iload_n hk 1 (dtX4_sorts_1 9 (133, .iload_n 1, 1) rfl) rfl ?_
        refine r_imul hk hF (dtX4_sorts_1 10 (134, .imul, 1) rfl) (fun v10 hF => ?_)
        refine r_icmp_ge hk 156 hF (dtX4_sorts_1 11 (135, .if_icmp .ge 21, 3) rfl) (by decide) (fun hF => ?_) (fun hF => ?_)
        · exact r_sub hk [] rfl (e156_5 m7 hF)
        · refine r_aload_n hk 0 (dtX4_sorts_1 12 (138, .aload_n 0, 1) rfl) rfl ?_
          refine r_getR hk (k := 0) (fsX4 X) cbX4 (by decide) fl_X4_7 (in_mo 0 (by decide)) (fun _ => rfl) (fun _ _ => rfl) (dtX4_sorts_1 13 (139, .getfield 7, 3) rfl) ?_
          refine r_iload_n hk 2 (dtX4_sorts_1 14 (142, .iload_n 2, 1) rfl) rfl ?_
          refine r_aload_n hk 0 (dtX4_sorts_1 15 (143, .aload_n 0, 1) rfl) rfl ?_
          refine r_getR hk (k := 2) (fsX4 X) cbX4 (by decide) fl_X4_16 (in_mo 0 (by decide)) (fun _ => rfl) (fun _ _ => rfl) (dtX4_sorts_1 16 (144, .getfield 16, 3) rfl) ?_
          refine r_iload_n hk 2 (dtX4_sorts_1 17 (147, .iload_n 2, 1) rfl) rfl ?_
          refine r_iald hk (in_mo 3 (by decide)) (fun _ => rfl) hF (dtX4_sorts_1 18 (148, .iaload, 1) rfl) (fun v11 hF => ?_)
          refine r_iast hk (in_mo 1 (by decide)) (fun _ => rfl) hF (dtX4_sorts_1 19 (149, .iastore, 1) rfl) (fun m12 hF => ?_)
          refine r_iinc hk 1 2 (fun v13 => [(2, .int v13), (0, .ref (xad X (3, 0, 0, 0))), (1, .int v1)]) hF (dtX4_sorts_1 20 (150, .iinc 2 1, 3) rfl) rfl (by decide) (by decide) (fun _ => rfl) (fun v13 hF => ?_)
          refine r_goto hk 130 (dtX4_sorts_1 21 (153, .goto (-23), 3) rfl) (by decide) ?_
          exact r_sub hk [1, 2, 0] rfl (ih9 v13 m12 hF)
    exact r_sub hk [1, 2, 0] rfl (l9 fu 0 m2 hF)
  have l18 : ∀ (n18 : Nat) (v14 : Int32) (v15 : Int32) (m16 : Mem), L_X4_sorts_4 n18 v14 v15 m16 = some (rv, mE) → G X K 4 [(0, .ref (xad X (3, 0, 0, 0))), (1, .int v14), (2, .int v15)] [] m16 := by
    intro n18
    induction n18 with
    | zero => intro v14 v15 m16 hF; exact nomatch (show (none : Option (Unit × Mem)) = some (rv, mE) from hF)
    | succ n18 ih18 =>
      intro v14 v15 m16 hF
      rw [L_X4_sorts_4] at hF
      refine r_iload_n hk 2 (dtX4_sorts_0 4 (4, .iload_n 2, 1) rfl) rfl ?_
      refine r_iconst (v := 3) hk (dtX4_sorts_0 5 (5, .iconst 3, 1) rfl) (by decide) ?_
      refine r_icmp_ge hk 128 hF (dtX4_sorts_0 6 (6, .if_icmp .ge 122, 3) rfl) (by decide) (fun hF => ?_) (fun hF => ?_)
      · exact r_sub hk [0, 1] rfl (e128_3 v14 m16 hF)
      · refine r_iconst (v := 0) hk (dtX4_sorts_0 7 (9, .iconst 0, 1) rfl) (by decide) ?_
        refine r_istore_n hk [(3, .int 0), (0, .ref (xad X (3, 0, 0, 0))), (1, .int v14), (2, .int v15)] (dtX4_sorts_0 8 (10, .istore_n 3, 1) rfl) (by decide) rfl ?_
        have e122_21 : ∀ (v19 : Int32) (m20 : Mem), (C_X4_sorts_122 v15 (fun w0 w1 w2 => L_X4_sorts_4 n18 w0 w1 w2)) v19 m20 = some (rv, mE) → G X K 122 [(0, .ref (xad X (3, 0, 0, 0))), (1, .int v19), (2, .int v15)] [] m20 := by
          intro v19 m20 hF
          unfold C_X4_sorts_122 at hF
          refine r_iinc hk 1 2 (fun v22 => [(2, .int v22), (0, .ref (xad X (3, 0, 0, 0))), (1, .int v19)]) hF (dtX4_sorts_1 3 (122, .iinc 2 1, 3) rfl) rfl (by decide) (by decide) (fun _ => rfl) (fun v22 hF => ?_)
          refine r_goto hk 4 (dtX4_sorts_1 4 (125, .goto (-121), 3) rfl) (by decide) ?_
          exact r_sub hk [1, 2, 0] rfl (ih18 v19 v22 m20 hF)
        have l27 : ∀ (n27 : Nat) (v23 : Int32) (v24 : Int32) (m25 : Mem), L_X4_sorts_11 v15 (fun w0 w1 w2 => L_X4_sorts_4 n18 w0 w1 w2) n27 v23 v24 m25 = some (rv, mE) → G X K 11 [(0, .ref (xad X (3, 0, 0, 0))), (1, .int v23), (2, .int v15), (3, .int v24)] [] m25 := by
          intro n27
          induction n27 with
          | zero => intro v23 v24 m25 hF; exact nomatch (show (none : Option (Unit × Mem)) = some (rv, mE) from hF)
          | succ n27 ih27 =>
            intro v23 v24 m25 hF
            rw [L_X4_sorts_11] at hF
            refine r_iload_n hk 3 (dtX4_sorts_0 9 (11, .iload_n 3, 1) rfl) rfl ?_
            refine r_aload_n hk 0 (dtX4_sorts_0 10 (12, .aload_n 0, 1) rfl) rfl ?_
            refine r_getR hk (k := 0) (fsX4 X) cbX4 (by decide) fl_X4_7 (in_mo 0 (by decide)) (fun _ => rfl) (fun _ _ => rfl) (dtX4_sorts_0 11 (13, .getfield 7, 3) rfl) ?_
            refine r_sipush (v := 1080) hk (dtX4_sorts_0 12 (16, .sipush 1080, 3) rfl) (by decide) ?_
            refine r_iald hk (in_mo 1 (by decide)) (fun _ => rfl) hF (dtX4_sorts_0 13 (19, .iaload, 1) rfl) (fun v28 hF => ?_)
            refine r_icmp_ge hk 122 hF (dtX4_sorts_0 14 (20, .if_icmp .ge 102, 3) rfl) (by decide) (fun hF => ?_) (fun hF => ?_)
            · exact r_sub hk [0, 1, 2] rfl (e122_21 v23 m25 hF)
            · refine r_aload_n hk 0 (dtX4_sorts_0 15 (23, .aload_n 0, 1) rfl) rfl ?_
              refine r_iload_n hk 3 (dtX4_sorts_0 16 (24, .iload_n 3, 1) rfl) rfl ?_
              refine r_callI hF (fun v29 h H locs ls hH hS hl => run_V (y := yX4_tenantOf) hk (in_mo 0 (by decide)) rfl rfl (c_X4_tenantOf (kl K) hk.2.2.2.2.2.2.2.2.2.2.2 X  v24 m25 v29 h) lk_X4_41 me_X4_tenantOf yf_X4_tenantOf (by decide) (by decide) rfl (Nat.le_of_ble_eq_true rfl) rfl (dtX4_sorts_0 17 (25, .invokevirtual 41, 3) rfl) hH hS hl) (fun v29 hF => ?_)
              refine r_istore hk [(4, .int v29), (0, .ref (xad X (3, 0, 0, 0))), (1, .int v23), (2, .int v15), (3, .int v24)] (dtX4_sorts_0 18 (28, .istore 4, 2) rfl) (by decide) rfl ?_
              refine r_iload_n hk 3 (dtX4_sorts_0 19 (30, .iload_n 2, 1) rfl) rfl ?_
              refine r_iconst (v := (-1)) hk (dtX4_sorts_0 20 (31, .iconst (-1), 1) rfl) (by decide) ?_
              have j116_32 : ∀ (v30 : Int32) (m31 : Mem), (J_X4_sorts_116 v24 (fun w0 w1 w2 => L_X4_sorts_11 v15 (fun w0 w1 w2 => L_X4_sorts_4 n18 w0 w1 w2) n27 w0 w1 w2)) v30 m31 = some (rv, mE) → G X K 116 [(0, .ref (xad X (3, 0, 0, 0))), (1, .int v30), (2, .int v15), (3, .int v24)] [] m31 := by
                intro v30 m31 hF
                unfold J_X4_sorts_116 at hF
                refine r_iinc hk 1 3 (fun v33 => [(3, .int v33), (0, .ref (xad X (3, 0, 0, 0))), (1, .int v30), (2, .int v15)]) hF (dtX4_sorts_1 1 (116, .iinc 3 1, 3) rfl) rfl (by decide) (by decide) (fun _ => rfl) (fun v33 hF => ?_)
                refine r_goto hk 11 (dtX4_sorts_1 2 (119, .goto (-108), 3) rfl) (by decide) ?_
                exact r_sub hk [1, 2, 3, 0] rfl (ih27 v30 v33 m31 hF)
              have j73_34 : (J_X4_sorts_73 v23 v24 m25 (fun w0 w1 w2 => L_X4_sorts_11 v15 (fun w0 w1 w2 => L_X4_sorts_4 n18 w0 w1 w2) n27 w0 w1 w2)) = some (rv, mE) → G X K 73 [(0, .ref (xad X (3, 0, 0, 0))), (1, .int v23), (2, .int v15), (3, .int v24)] [] m25 := by
                intro hF
                unfold J_X4_sorts_73 at hF
                refine r_iconst (v := 0) hk (dtX4_sorts_0 41 (73, .iconst 0, 1) rfl) (by decide) ?_
                refine r_istore hk [(5, .int 0), (0, .ref (xad X (3, 0, 0, 0))), (1, .int v23), (2, .int v15), (3, .int v24)] (dtX4_sorts_0 42 (74, .istore 5, 2) rfl) (by decide) rfl ?_
                have e113_36 : ∀ (m35 : Mem), (C_X4_sorts_113 v23 v24 (fun w0 w1 w2 => L_X4_sorts_11 v15 (fun w0 w1 w2 => L_X4_sorts_4 n18 w0 w1 w2) n27 w0 w1 w2)) m35 = some (rv, mE) → G X K 113 [(0, .ref (xad X (3, 0, 0, 0))), (1, .int v23), (2, .int v15), (3, .int v24)] [] m35 := by
                  intro m35 hF
                  unfold C_X4_sorts_113 at hF
                  refine r_iinc hk 1 1 (fun v37 => [(1, .int v37), (0, .ref (xad X (3, 0, 0, 0))), (2, .int v15), (3, .int v24)]) hF (dtX4_sorts_1 0 (113, .iinc 1 1, 3) rfl) rfl (by decide) (by decide) (fun _ => rfl) (fun v37 hF => ?_)
                  exact r_sub hk [1, 0, 2, 3] rfl (j116_32 v37 m35 hF)
                have l41 : ∀ (n41 : Nat) (v38 : Int32) (m39 : Mem), L_X4_sorts_76 v23 v24 (fun w0 w1 w2 => L_X4_sorts_11 v15 (fun w0 w1 w2 => L_X4_sorts_4 n18 w0 w1 w2) n27 w0 w1 w2) n41 v38 m39 = some (rv, mE) → G X K 76 [(0, .ref (xad X (3, 0, 0, 0))), (1, .int v23), (2, .int v15), (3, .int v24), (5, .int v38)] [] m39 := by
                  intro n41
                  induction n41 with
                  | zero => intro v38 m39 hF; exact nomatch (show (none : Option (Unit × Mem)) = some (rv, mE) from hF)
                  | succ n41 ih41 =>
                    intro v38 m39 hF
                    rw [L_X4_sorts_76] at hF
                    refine r_iload hk 4 (dtX4_sorts_0 43 (76, .iload 5, 2) rfl) rfl ?_
                    refine r_bipush (v := 9) hk (dtX4_sorts_0 44 (78, .bipush 9, 2) rfl) (by decide) ?_
                    refine r_icmp_ge hk 113 hF (dtX4_sorts_0 45 (80, .if_icmp .ge 33, 3) rfl) (by decide) (fun hF => ?_) (fun hF => ?_)
                    · exact r_sub hk [0, 1, 2, 3] rfl (e113_36 m39 hF)
                    · refine r_aload_n hk 0 (dtX4_sorts_0 46 (83, .aload_n 0, 1) rfl) rfl ?_
                      refine r_getR hk (k := 2) (fsX4 X) cbX4 (by decide) fl_X4_16 (in_mo 0 (by decide)) (fun _ => rfl) (fun _ _ => rfl) (dtX4_sorts_0 47 (84, .getfield 16, 3) rfl) ?_
                      refine r_bipush (v := 9) hk (dtX4_sorts_0 48 (87, .bipush 9, 2) rfl) (by decide) ?_
                      refine r_iload_n hk 1 (dtX4_sorts_0 49 (89, .iload_n 1, 1) rfl) rfl ?_
                      refine r_imul hk hF (dtX4_sorts_0 50 (90, .imul, 1) rfl) (fun v42 hF => ?_)
                      refine r_iload hk 4 (dtX4_sorts_0 51 (91, .iload 5, 2) rfl) rfl ?_
                      refine r_iadd hk hF (dtX4_sorts_0 52 (93, .iadd, 1) rfl) (fun v43 hF => ?_)
                      refine r_aload_n hk 0 (dtX4_sorts_0 53 (94, .aload_n 0, 1) rfl) rfl ?_
                      refine r_getR hk (k := 0) (fsX4 X) cbX4 (by decide) fl_X4_7 (in_mo 0 (by decide)) (fun _ => rfl) (fun _ _ => rfl) (dtX4_sorts_0 54 (95, .getfield 7, 3) rfl) ?_
                      refine r_bipush (v := 9) hk (dtX4_sorts_0 55 (98, .bipush 9, 2) rfl) (by decide) ?_
                      refine r_iload_n hk 3 (dtX4_sorts_0 56 (100, .iload_n 3, 1) rfl) rfl ?_
                      refine r_imul hk hF (dtX4_sorts_0 57 (101, .imul, 1) rfl) (fun v44 hF => ?_)
                      refine r_iload hk 4 (dtX4_sorts_0 58 (102, .iload 5, 2) rfl) rfl ?_
                      refine r_iadd hk hF (dtX4_sorts_0 59 (104, .iadd, 1) rfl) (fun v45 hF => ?_)
                      refine r_iald hk (in_mo 1 (by decide)) (fun _ => rfl) hF (dtX4_sorts_0 60 (105, .iaload, 1) rfl) (fun v46 hF => ?_)
                      refine r_iast hk (in_mo 3 (by decide)) (fun _ => rfl) hF (dtX4_sorts_0 61 (106, .iastore, 1) rfl) (fun m47 hF => ?_)
                      refine r_iinc hk 1 4 (fun v48 => [(5, .int v48), (0, .ref (xad X (3, 0, 0, 0))), (1, .int v23), (2, .int v15), (3, .int v24)]) hF (dtX4_sorts_0 62 (107, .iinc 5 1, 3) rfl) rfl (by decide) (by decide) (fun _ => rfl) (fun v48 hF => ?_)
                      refine r_goto hk 76 (dtX4_sorts_0 63 (110, .goto (-34), 3) rfl) (by decide) ?_
                      exact r_sub hk [1, 2, 3, 4, 0] rfl (ih41 v48 m47 hF)
                exact r_sub hk [1, 2, 3, 4, 0] rfl (l41 fu 0 m25 hF)
              refine r_icmp_ne hk 52 hF (dtX4_sorts_0 21 (32, .if_icmp .ne 20, 3) rfl) (by decide) (fun hF => ?_) (fun hF => ?_)
              · refine r_iload hk 0 (dtX4_sorts_0 30 (52, .iload 4, 2) rfl) rfl ?_
                refine r_iload_n hk 3 (dtX4_sorts_0 31 (54, .iload_n 2, 1) rfl) rfl ?_
                refine r_icmp_ne hk 116 hF (dtX4_sorts_0 32 (55, .if_icmp .ne 61, 3) rfl) (by decide) (fun hF => ?_) (fun hF => ?_)
                · exact r_sub hk [1, 2, 3, 4] rfl (j116_32 v23 m25 hF)
                · refine r_aload_n hk 1 (dtX4_sorts_0 33 (58, .aload_n 0, 1) rfl) rfl ?_
                  refine r_getR hk (k := 0) (fsX4 X) cbX4 (by decide) fl_X4_7 (in_mo 0 (by decide)) (fun _ => rfl) (fun _ _ => rfl) (dtX4_sorts_0 34 (59, .getfield 7, 3) rfl) ?_
                  refine r_sipush (v := 1159) hk (dtX4_sorts_0 35 (62, .sipush 1159, 3) rfl) (by decide) ?_
                  refine r_iload hk 0 (dtX4_sorts_0 36 (65, .iload 4, 2) rfl) rfl ?_
                  refine r_iadd hk hF (dtX4_sorts_0 37 (67, .iadd, 1) rfl) (fun v49 hF => ?_)
                  refine r_iald hk (in_mo 1 (by decide)) (fun _ => rfl) hF (dtX4_sorts_0 38 (68, .iaload, 1) rfl) (fun v50 hF => ?_)
                  refine r_iconst (v := 1) hk (dtX4_sorts_0 39 (69, .iconst 1, 1) rfl) (by decide) ?_
                  refine r_icmp_ne hk 116 hF (dtX4_sorts_0 40 (70, .if_icmp .ne 46, 3) rfl) (by decide) (fun hF => ?_) (fun hF => ?_)
                  · exact r_sub hk [1, 2, 3, 4] rfl (j116_32 v23 m25 hF)
                  · exact r_sub hk [1, 2, 3, 4] rfl (j73_34 hF)
              · refine r_aload_n hk 1 (dtX4_sorts_0 22 (35, .aload_n 0, 1) rfl) rfl ?_
                refine r_getR hk (k := 0) (fsX4 X) cbX4 (by decide) fl_X4_7 (in_mo 0 (by decide)) (fun _ => rfl) (fun _ _ => rfl) (dtX4_sorts_0 23 (36, .getfield 7, 3) rfl) ?_
                refine r_sipush (v := 1159) hk (dtX4_sorts_0 24 (39, .sipush 1159, 3) rfl) (by decide) ?_
                refine r_iload hk 0 (dtX4_sorts_0 25 (42, .iload 4, 2) rfl) rfl ?_
                refine r_iadd hk hF (dtX4_sorts_0 26 (44, .iadd, 1) rfl) (fun v51 hF => ?_)
                refine r_iald hk (in_mo 1 (by decide)) (fun _ => rfl) hF (dtX4_sorts_0 27 (45, .iaload, 1) rfl) (fun v52 hF => ?_)
                refine r_if_ne hk 116 hF (dtX4_sorts_0 28 (46, .ifCond .ne 70, 3) rfl) (by decide) (fun hF => ?_) (fun hF => ?_)
                · exact r_sub hk [1, 2, 3, 4] rfl (j116_32 v23 m25 hF)
                · refine r_goto hk 73 (dtX4_sorts_0 29 (49, .goto 24, 3) rfl) (by decide) ?_
                  exact r_sub hk [1, 2, 3, 4] rfl (j73_34 hF)
        exact r_sub hk [1, 2, 3, 0] rfl (l27 fu v14 0 m16 hF)
  exact r_sub hk [2, 1, 0] rfl (l18 fu 0 (-1) m0 hF)
set_option maxHeartbeats 4000000 in
set_option maxRecDepth 100000 in
theorem c_X4_row (l : Launch) (hlf : l.stackTraces = false) (X : XW)  (p1 : Int32) (m0 : Mem) (rv : Int32) (mE : Mem) (hF : F_X4_row p1 m0 = some (rv, mE)) : MX X l yX4_row cX4_row 4 (some .int) 3 [.ref (xad X (3, 0, 0, 0)), .int p1] m0 (QI X rv mE) := by
  refine startI hlf (by decide +kernel) rfl [(0, .ref (xad X (3, 0, 0, 0))), (1, .int p1)] rfl (Nat.le_of_ble_eq_true rfl) (fun K hk hR => ?_)
  unfold F_X4_row at hF
  refine r_aload_n hk 0 (dtX4_row_0 0 (0, .aload_n 0, 1) rfl) rfl ?_
  refine r_iconst (v := 0) hk (dtX4_row_0 1 (1, .iconst 0, 1) rfl) (by decide) ?_
  refine r_putI hk (k := 6) (fsX4 X) cbX4 (by decide) fl_X4_25 (in_mo 0 (by decide)) (fun _ => rfl) rfl rfl (fun _ _ _ => rfl) (fun _ _ => (by decide : 6 < 11)) hF (dtX4_row_0 2 (2, .putfield 25, 3) rfl) (fun m1 hF => ?_)
  refine r_iload_n hk 1 (dtX4_row_0 3 (5, .iload_n 1, 1) rfl) rfl ?_
  refine r_callI hF (fun v2 h H locs ls hH hS hl => run_S hk (c_X4_isTenant (kl K) hk.2.2.2.2.2.2.2.2.2.2.2 X  p1 m1 v2 h) lk_X4_47 me_X4_isTenant yf_X4_isTenant (by decide) (by decide) rfl (Nat.le_of_ble_eq_true rfl) rfl (dtX4_row_0 4 (6, .invokestatic 47, 3) rfl) hH hS hl) (fun v2 hF => ?_)
  refine r_if_ne hk 18 hF (dtX4_row_0 5 (9, .ifCond .ne 9, 3) rfl) (by decide) (fun hF => ?_) (fun hF => ?_)
  · refine r_aload_n hk 0 (dtX4_row_0 10 (18, .aload_n 0, 1) rfl) rfl ?_
    refine r_callVm hF (fun w m3 h H locs ls hH hS hl => run_V (y := yX4_saves) hk (in_mo 0 (by decide)) rfl rfl (c_X4_saves (kl K) hk.2.2.2.2.2.2.2.2.2.2.2 X   m1 w m3 h) lk_X4_54 me_X4_saves yf_X4_saves (by decide) (by decide) rfl (Nat.le_of_ble_eq_true rfl) rfl (dtX4_row_0 11 (19, .invokevirtual 54, 3) rfl) hH hS hl) (fun _ m3 hF => ?_)
    refine r_aload_n hk 0 (dtX4_row_0 12 (22, .aload_n 0, 1) rfl) rfl ?_
    refine r_iload_n hk 1 (dtX4_row_0 13 (23, .iload_n 1, 1) rfl) rfl ?_
    refine r_callI hF (fun v4 h H locs ls hH hS hl => run_V (y := yX4_rowsOf) hk (in_mo 0 (by decide)) rfl rfl (c_X4_rowsOf (kl K) hk.2.2.2.2.2.2.2.2.2.2.2 X  p1 m3 v4 h) lk_X4_44 me_X4_rowsOf yf_X4_rowsOf (by decide) (by decide) rfl (Nat.le_of_ble_eq_true rfl) rfl (dtX4_row_0 14 (24, .invokevirtual 44, 3) rfl) hH hS hl) (fun v4 hF => ?_)
    refine r_aload_n hk 0 (dtX4_row_0 15 (27, .aload_n 0, 1) rfl) rfl ?_
    refine r_getR hk (k := 0) (fsX4 X) cbX4 (by decide) fl_X4_7 (in_mo 0 (by decide)) (fun _ => rfl) (fun _ _ => rfl) (dtX4_row_0 16 (28, .getfield 7, 3) rfl) ?_
    refine r_sipush (v := 1153) hk (dtX4_row_0 17 (31, .sipush 1153, 3) rfl) (by decide) ?_
    refine r_iload_n hk 1 (dtX4_row_0 18 (34, .iload_n 1, 1) rfl) rfl ?_
    refine r_iadd hk hF (dtX4_row_0 19 (35, .iadd, 1) rfl) (fun v5 hF => ?_)
    refine r_iald hk (in_mo 1 (by decide)) (fun _ => rfl) hF (dtX4_row_0 20 (36, .iaload, 1) rfl) (fun v6 hF => ?_)
    refine r_icmp_lt hk 47 hF (dtX4_row_0 21 (37, .if_icmp .lt 10, 3) rfl) (by decide) (fun hF => ?_) (fun hF => ?_)
    · refine r_aload_n hk 0 (dtX4_row_0 27 (47, .aload_n 0, 1) rfl) rfl ?_
      refine r_getR hk (k := 0) (fsX4 X) cbX4 (by decide) fl_X4_7 (in_mo 0 (by decide)) (fun _ => rfl) (fun _ _ => rfl) (dtX4_row_0 28 (48, .getfield 7, 3) rfl) ?_
      refine r_sipush (v := 1159) hk (dtX4_row_0 29 (51, .sipush 1159, 3) rfl) (by decide) ?_
      refine r_iload_n hk 1 (dtX4_row_0 30 (54, .iload_n 1, 1) rfl) rfl ?_
      refine r_iadd hk hF (dtX4_row_0 31 (55, .iadd, 1) rfl) (fun v7 hF => ?_)
      refine r_iald hk (in_mo 1 (by decide)) (fun _ => rfl) hF (dtX4_row_0 32 (56, .iaload, 1) rfl) (fun v8 hF => ?_)
      have j76_9 : (J_X4_row_76 p1 m3) = some (rv, mE) → G X K 76 [(0, .ref (xad X (3, 0, 0, 0))), (1, .int p1)] [] m3 := by
        intro hF
        unfold J_X4_row_76 at hF
        refine r_aload_n hk 0 (dtX4_row_0 43 (76, .aload_n 0, 1) rfl) rfl ?_
        refine r_getR hk (k := 0) (fsX4 X) cbX4 (by decide) fl_X4_7 (in_mo 0 (by decide)) (fun _ => rfl) (fun _ _ => rfl) (dtX4_row_0 44 (77, .getfield 7, 3) rfl) ?_
        refine r_bipush (v := 9) hk (dtX4_row_0 45 (80, .bipush 9, 2) rfl) (by decide) ?_
        refine r_aload_n hk 0 (dtX4_row_0 46 (82, .aload_n 0, 1) rfl) rfl ?_
        refine r_getR hk (k := 0) (fsX4 X) cbX4 (by decide) fl_X4_7 (in_mo 0 (by decide)) (fun _ => rfl) (fun _ _ => rfl) (dtX4_row_0 47 (83, .getfield 7, 3) rfl) ?_
        refine r_sipush (v := 1080) hk (dtX4_row_0 48 (86, .sipush 1080, 3) rfl) (by decide) ?_
        refine r_iald hk (in_mo 1 (by decide)) (fun _ => rfl) hF (dtX4_row_0 49 (89, .iaload, 1) rfl) (fun v10 hF => ?_)
        refine r_imul hk hF (dtX4_row_0 50 (90, .imul, 1) rfl) (fun v11 hF => ?_)
        refine r_iload_n hk 1 (dtX4_row_0 51 (91, .iload_n 1, 1) rfl) rfl ?_
        refine r_iast hk (in_mo 1 (by decide)) (fun _ => rfl) hF (dtX4_row_0 52 (92, .iastore, 1) rfl) (fun m12 hF => ?_)
        refine r_iconst (v := 0) hk (dtX4_row_0 53 (93, .iconst 0, 1) rfl) (by decide) ?_
        refine r_istore_n hk [(2, .int 0), (0, .ref (xad X (3, 0, 0, 0))), (1, .int p1)] (dtX4_row_0 54 (94, .istore_n 2, 1) rfl) (by decide) rfl ?_
        have e129_14 : ∀ (m13 : Mem), (C_X4_row_129 p1) m13 = some (rv, mE) → G X K 129 [(0, .ref (xad X (3, 0, 0, 0))), (1, .int p1)] [] m13 := by
          intro m13 hF
          unfold C_X4_row_129 at hF
          refine r_aload_n hk 0 (dtX4_row_1 10 (129, .aload_n 0, 1) rfl) rfl ?_
          refine r_getR hk (k := 0) (fsX4 X) cbX4 (by decide) fl_X4_7 (in_mo 0 (by decide)) (fun _ => rfl) (fun _ _ => rfl) (dtX4_row_1 11 (130, .getfield 7, 3) rfl) ?_
          refine r_sipush (v := 1080) hk (dtX4_row_1 12 (133, .sipush 1080, 3) rfl) (by decide) ?_
          refine r_dup2 hk (dtX4_row_1 13 (136, .dup2, 1) rfl) rfl rfl ?_
          refine r_iald hk (in_mo 1 (by decide)) (fun _ => rfl) hF (dtX4_row_1 14 (137, .iaload, 1) rfl) (fun v15 hF => ?_)
          refine r_iconst (v := 1) hk (dtX4_row_1 15 (138, .iconst 1, 1) rfl) (by decide) ?_
          refine r_iadd hk hF (dtX4_row_1 16 (139, .iadd, 1) rfl) (fun v16 hF => ?_)
          refine r_iast hk (in_mo 1 (by decide)) (fun _ => rfl) hF (dtX4_row_1 17 (140, .iastore, 1) rfl) (fun m17 hF => ?_)
          refine r_aload_n hk 0 (dtX4_row_1 18 (141, .aload_n 0, 1) rfl) rfl ?_
          refine r_callVm hF (fun w m18 h H locs ls hH hS hl => run_V (y := yX4_sorts) hk (in_mo 0 (by decide)) rfl rfl (c_X4_sorts (kl K) hk.2.2.2.2.2.2.2.2.2.2.2 X   m17 w m18 h) lk_X4_78 me_X4_sorts yf_X4_sorts (by decide) (by decide) rfl (Nat.le_of_ble_eq_true rfl) rfl (dtX4_row_1 19 (142, .invokevirtual 78, 3) rfl) hH hS hl) (fun _ m18 hF => ?_)
          refine r_iconst (v := 0) hk (dtX4_row_1 20 (145, .iconst 0, 1) rfl) (by decide) ?_
          refine r_istore_n hk [(2, .int 0), (0, .ref (xad X (3, 0, 0, 0))), (1, .int p1)] (dtX4_row_1 21 (146, .istore_n 2, 1) rfl) (by decide) rfl ?_
          refine r_iconst (v := 0) hk (dtX4_row_1 22 (147, .iconst 0, 1) rfl) (by decide) ?_
          refine r_istore_n hk [(3, .int 0), (2, .int 0), (0, .ref (xad X (3, 0, 0, 0))), (1, .int p1)] (dtX4_row_1 23 (148, .istore_n 3, 1) rfl) (by decide) rfl ?_
          have e182_20 : ∀ (v19 : Int32), (C_X4_row_182 m18) v19 = some (rv, mE) → G X K 182 [(2, .int v19)] [] m18 := by
            intro v19 hF
            unfold C_X4_row_182 at hF
            refine r_iload_n hk 0 (dtX4_row_1 41 (182, .iload_n 2, 1) rfl) rfl ?_
            cases Option.some.inj hF
            exact hR _ _ (dtX4_row_1 42 (183, .ireturn, 1) rfl)
          have l24 : ∀ (n24 : Nat) (v21 : Int32) (v22 : Int32), L_X4_row_149 p1 m18 n24 v21 v22 = some (rv, mE) → G X K 149 [(0, .ref (xad X (3, 0, 0, 0))), (1, .int p1), (2, .int v21), (3, .int v22)] [] m18 := by
            intro n24
            induction n24 with
            | zero => intro v21 v22 hF; exact nomatch (show (none : Option (Int32 × Mem)) = some (rv, mE) from hF)
            | succ n24 ih24 =>
              intro v21 v22 hF
              rw [L_X4_row_149] at hF
              refine r_iload_n hk 3 (dtX4_row_1 24 (149, .iload_n 3, 1) rfl) rfl ?_
              refine r_aload_n hk 0 (dtX4_row_1 25 (150, .aload_n 0, 1) rfl) rfl ?_
              refine r_getR hk (k := 0) (fsX4 X) cbX4 (by decide) fl_X4_7 (in_mo 0 (by decide)) (fun _ => rfl) (fun _ _ => rfl) (dtX4_row_1 26 (151, .getfield 7, 3) rfl) ?_
              refine r_sipush (v := 1080) hk (dtX4_row_1 27 (154, .sipush 1080, 3) rfl) (by decide) ?_
              refine r_iald hk (in_mo 1 (by decide)) (fun _ => rfl) hF (dtX4_row_1 28 (157, .iaload, 1) rfl) (fun v25 hF => ?_)
              refine r_icmp_ge hk 182 hF (dtX4_row_1 29 (158, .if_icmp .ge 24, 3) rfl) (by decide) (fun hF => ?_) (fun hF => ?_)
              · exact r_sub hk [2] rfl (e182_20 v21 hF)
              · refine r_aload_n hk 0 (dtX4_row_1 30 (161, .aload_n 0, 1) rfl) rfl ?_
                refine r_iload_n hk 3 (dtX4_row_1 31 (162, .iload_n 3, 1) rfl) rfl ?_
                refine r_callI hF (fun v26 h H locs ls hH hS hl => run_V (y := yX4_tenantOf) hk (in_mo 0 (by decide)) rfl rfl (c_X4_tenantOf (kl K) hk.2.2.2.2.2.2.2.2.2.2.2 X  v22 m18 v26 h) lk_X4_41 me_X4_tenantOf yf_X4_tenantOf (by decide) (by decide) rfl (Nat.le_of_ble_eq_true rfl) rfl (dtX4_row_1 32 (163, .invokevirtual 41, 3) rfl) hH hS hl) (fun v26 hF => ?_)
                refine r_iload_n hk 1 (dtX4_row_1 33 (166, .iload_n 1, 1) rfl) rfl ?_
                have j175_28 : ∀ (v27 : Int32), (J_X4_row_175 v22 (fun w0 w1 => L_X4_row_149 p1 m18 n24 w0 w1)) v27 = some (rv, mE) → G X K 175 [(0, .ref (xad X (3, 0, 0, 0))), (1, .int p1), (3, .int v22)] [.int v27] m18 := by
                  intro v27 hF
                  unfold J_X4_row_175 at hF
                  refine r_istore_n hk [(2, .int v27), (0, .ref (xad X (3, 0, 0, 0))), (1, .int p1), (3, .int v22)] (dtX4_row_1 38 (175, .istore_n 2, 1) rfl) (by decide) rfl ?_
                  refine r_iinc hk 1 3 (fun v29 => [(3, .int v29), (2, .int v27), (0, .ref (xad X (3, 0, 0, 0))), (1, .int p1)]) hF (dtX4_row_1 39 (176, .iinc 3 1, 3) rfl) rfl (by decide) (by decide) (fun _ => rfl) (fun v29 hF => ?_)
                  refine r_goto hk 149 (dtX4_row_1 40 (179, .goto (-30), 3) rfl) (by decide) ?_
                  exact r_sub hk [2, 3, 1, 0] rfl (ih24 v27 v29 hF)
                refine r_icmp_ne hk 174 hF (dtX4_row_1 34 (167, .if_icmp .ne 7, 3) rfl) (by decide) (fun hF => ?_) (fun hF => ?_)
                · refine r_iload_n hk 2 (dtX4_row_1 37 (174, .iload_n 2, 1) rfl) rfl ?_
                  exact r_sub hk [0, 1, 3] rfl (j175_28 v21 hF)
                · refine r_iload_n hk 3 (dtX4_row_1 35 (170, .iload_n 3, 1) rfl) rfl ?_
                  refine r_goto hk 175 (dtX4_row_1 36 (171, .goto 4, 3) rfl) (by decide) ?_
                  exact r_sub hk [0, 1, 3] rfl (j175_28 v22 hF)
          exact r_sub hk [2, 3, 1, 0] rfl (l24 fu 0 0 hF)
        have l33 : ∀ (n33 : Nat) (v30 : Int32) (m31 : Mem), L_X4_row_95 p1 n33 v30 m31 = some (rv, mE) → G X K 95 [(0, .ref (xad X (3, 0, 0, 0))), (1, .int p1), (2, .int v30)] [] m31 := by
          intro n33
          induction n33 with
          | zero => intro v30 m31 hF; exact nomatch (show (none : Option (Int32 × Mem)) = some (rv, mE) from hF)
          | succ n33 ih33 =>
            intro v30 m31 hF
            rw [L_X4_row_95] at hF
            refine r_iload_n hk 2 (dtX4_row_0 55 (95, .iload_n 2, 1) rfl) rfl ?_
            refine r_bipush (v := 8) hk (dtX4_row_0 56 (96, .bipush 8, 2) rfl) (by decide) ?_
            refine r_icmp_ge hk 129 hF (dtX4_row_0 57 (98, .if_icmp .ge 31, 3) rfl) (by decide) (fun hF => ?_) (fun hF => ?_)
            · exact r_sub hk [0, 1] rfl (e129_14 m31 hF)
            · refine r_aload_n hk 0 (dtX4_row_0 58 (101, .aload_n 0, 1) rfl) rfl ?_
              refine r_getR hk (k := 0) (fsX4 X) cbX4 (by decide) fl_X4_7 (in_mo 0 (by decide)) (fun _ => rfl) (fun _ _ => rfl) (dtX4_row_0 59 (102, .getfield 7, 3) rfl) ?_
              refine r_bipush (v := 9) hk (dtX4_row_0 60 (105, .bipush 9, 2) rfl) (by decide) ?_
              refine r_aload_n hk 0 (dtX4_row_0 61 (107, .aload_n 0, 1) rfl) rfl ?_
              refine r_getR hk (k := 0) (fsX4 X) cbX4 (by decide) fl_X4_7 (in_mo 0 (by decide)) (fun _ => rfl) (fun _ _ => rfl) (dtX4_row_0 62 (108, .getfield 7, 3) rfl) ?_
              refine r_sipush (v := 1080) hk (dtX4_row_0 63 (111, .sipush 1080, 3) rfl) (by decide) ?_
              refine r_iald hk (in_mo 1 (by decide)) (fun _ => rfl) hF (dtX4_row_1 0 (114, .iaload, 1) rfl) (fun v34 hF => ?_)
              refine r_imul hk hF (dtX4_row_1 1 (115, .imul, 1) rfl) (fun v35 hF => ?_)
              refine r_iconst (v := 1) hk (dtX4_row_1 2 (116, .iconst 1, 1) rfl) (by decide) ?_
              refine r_iadd hk hF (dtX4_row_1 3 (117, .iadd, 1) rfl) (fun v36 hF => ?_)
              refine r_iload_n hk 2 (dtX4_row_1 4 (118, .iload_n 2, 1) rfl) rfl ?_
              refine r_iadd hk hF (dtX4_row_1 5 (119, .iadd, 1) rfl) (fun v37 hF => ?_)
              refine r_ldc hk cn_X4_33 (dtX4_row_1 6 (120, .ldc 33, 2) rfl) ?_
              refine r_iast hk (in_mo 1 (by decide)) (fun _ => rfl) hF (dtX4_row_1 7 (122, .iastore, 1) rfl) (fun m38 hF => ?_)
              refine r_iinc hk 1 2 (fun v39 => [(2, .int v39), (0, .ref (xad X (3, 0, 0, 0))), (1, .int p1)]) hF (dtX4_row_1 8 (123, .iinc 2 1, 3) rfl) rfl (by decide) (by decide) (fun _ => rfl) (fun v39 hF => ?_)
              refine r_goto hk 95 (dtX4_row_1 9 (126, .goto (-31), 3) rfl) (by decide) ?_
              exact r_sub hk [1, 2, 0] rfl (ih33 v39 m38 hF)
        exact r_sub hk [1, 2, 0] rfl (l33 fu 0 m12 hF)
      refine r_if_ne hk 76 hF (dtX4_row_0 33 (57, .ifCond .ne 19, 3) rfl) (by decide) (fun hF => ?_) (fun hF => ?_)
      · exact r_sub hk [0, 1] rfl (j76_9 hF)
      · refine r_aload_n hk 0 (dtX4_row_0 34 (60, .aload_n 0, 1) rfl) rfl ?_
        refine r_callI hF (fun v40 h H locs ls hH hS hl => run_V (y := yX4_inTable) hk (in_mo 0 (by decide)) rfl rfl (c_X4_inTable (kl K) hk.2.2.2.2.2.2.2.2.2.2.2 X   m3 v40 h) lk_X4_74 me_X4_inTable yf_X4_inTable (by decide) (by decide) rfl (Nat.le_of_ble_eq_true rfl) rfl (dtX4_row_0 35 (61, .invokevirtual 74, 3) rfl) hH hS hl) (fun v40 hF => ?_)
        refine r_bipush (v := 40) hk (dtX4_row_0 36 (64, .bipush 40, 2) rfl) (by decide) ?_
        refine r_icmp_ne hk 76 hF (dtX4_row_0 37 (66, .if_icmp .ne 10, 3) rfl) (by decide) (fun hF => ?_) (fun hF => ?_)
        · exact r_sub hk [0, 1] rfl (j76_9 hF)
        · refine r_aload_n hk 0 (dtX4_row_0 38 (69, .aload_n 0, 1) rfl) rfl ?_
          refine r_iload_n hk 1 (dtX4_row_0 39 (70, .iload_n 1, 1) rfl) rfl ?_
          refine r_iconst (v := 2) hk (dtX4_row_0 40 (71, .iconst 2, 1) rfl) (by decide) ?_
          refine r_callIm hF (fun v41 m42 h H locs ls hH hS hl => run_V (y := yX4_refuses) hk (in_mo 0 (by decide)) rfl rfl (c_X4_refuses (kl K) hk.2.2.2.2.2.2.2.2.2.2.2 X  p1 2 m3 v41 m42 h) lk_X4_60 me_X4_refuses yf_X4_refuses (by decide) (by decide) rfl (Nat.le_of_ble_eq_true rfl) rfl (dtX4_row_0 41 (72, .invokevirtual 60, 3) rfl) hH hS hl) (fun v41 m42 hF => ?_)
          cases Option.some.inj hF
          exact hR _ _ (dtX4_row_0 42 (75, .ireturn, 1) rfl)
    · refine r_aload_n hk 0 (dtX4_row_0 22 (40, .aload_n 0, 1) rfl) rfl ?_
      refine r_iload_n hk 1 (dtX4_row_0 23 (41, .iload_n 1, 1) rfl) rfl ?_
      refine r_iconst (v := 1) hk (dtX4_row_0 24 (42, .iconst 1, 1) rfl) (by decide) ?_
      refine r_callIm hF (fun v43 m44 h H locs ls hH hS hl => run_V (y := yX4_refuses) hk (in_mo 0 (by decide)) rfl rfl (c_X4_refuses (kl K) hk.2.2.2.2.2.2.2.2.2.2.2 X  p1 1 m3 v43 m44 h) lk_X4_60 me_X4_refuses yf_X4_refuses (by decide) (by decide) rfl (Nat.le_of_ble_eq_true rfl) rfl (dtX4_row_0 25 (43, .invokevirtual 60, 3) rfl) hH hS hl) (fun v43 m44 hF => ?_)
      cases Option.some.inj hF
      exact hR _ _ (dtX4_row_0 26 (46, .ireturn, 1) rfl)
  · refine r_aload_n hk 0 (dtX4_row_0 6 (12, .aload_n 0, 1) rfl) rfl ?_
    refine r_iconst (v := 1) hk (dtX4_row_0 7 (13, .iconst 1, 1) rfl) (by decide) ?_
    refine r_callIm hF (fun v45 m46 h H locs ls hH hS hl => run_V (y := yX4_fails) hk (in_mo 0 (by decide)) rfl rfl (c_X4_fails (kl K) hk.2.2.2.2.2.2.2.2.2.2.2 X  1 m1 v45 m46 h) lk_X4_37 me_X4_fails yf_X4_fails (by decide) (by decide) rfl (Nat.le_of_ble_eq_true rfl) rfl (dtX4_row_0 8 (14, .invokevirtual 37, 3) rfl) hH hS hl) (fun v45 m46 hF => ?_)
    cases Option.some.inj hF
    exact hR _ _ (dtX4_row_0 9 (17, .ireturn, 1) rfl)
set_option maxHeartbeats 4000000 in
set_option maxRecDepth 100000 in
theorem c_X4_isRow (l : Launch) (hlf : l.stackTraces = false) (X : XW)  (p1 : Int32) (m0 : Mem) (rv : Int32) (hF : F_X4_isRow p1 m0 = some rv) : MX X l yX4_isRow cX4_isRow 2 (some .boolean) 1 [.ref (xad X (3, 0, 0, 0)), .int p1] m0 (QI X rv m0) := by
  refine startZ hlf (by decide +kernel) rfl [(0, .ref (xad X (3, 0, 0, 0))), (1, .int p1)] rfl (Nat.le_of_ble_eq_true rfl) (fun K hk hR => ?_)
  unfold F_X4_isRow at hF
  refine r_iload_n hk 1 (dtX4_isRow_0 0 (0, .iload_n 1, 1) rfl) rfl ?_
  refine r_iconst (v := 0) hk (dtX4_isRow_0 1 (1, .iconst 0, 1) rfl) (by decide) ?_
  refine r_aload_n hk 0 (dtX4_isRow_0 2 (2, .aload_n 0, 1) rfl) rfl ?_
  refine r_getR hk (k := 0) (fsX4 X) cbX4 (by decide) fl_X4_7 (in_mo 0 (by decide)) (fun _ => rfl) (fun _ _ => rfl) (dtX4_isRow_0 3 (3, .getfield 7, 3) rfl) ?_
  refine r_sipush (v := 1080) hk (dtX4_isRow_0 4 (6, .sipush 1080, 3) rfl) (by decide) ?_
  refine r_iald hk (in_mo 1 (by decide)) (fun _ => rfl) hF (dtX4_isRow_0 5 (9, .iaload, 1) rfl) (fun v1 hF => ?_)
  refine r_iconst (v := 1) hk (dtX4_isRow_0 6 (10, .iconst 1, 1) rfl) (by decide) ?_
  refine r_isub hk hF (dtX4_isRow_0 7 (11, .isub, 1) rfl) (fun v2 hF => ?_)
  refine r_callI hF (fun v3 h H locs ls hH hS hl => run_S hk (c_X4_in (kl K) hk.2.2.2.2.2.2.2.2.2.2.2 X  p1 0 v2 m0 v3 h) lk_X4_29 me_X4_in yf_X4_in (by decide) (by decide) rfl (Nat.le_of_ble_eq_true rfl) rfl (dtX4_isRow_0 8 (12, .invokestatic 29, 3) rfl) hH hS hl) (fun v3 hF => ?_)
  obtain ⟨hz, hF⟩ := ck_some hF
  cases Option.some.inj hF
  exact hR _ _ hz (dtX4_isRow_0 9 (15, .ireturn, 1) rfl)
set_option maxHeartbeats 4000000 in
set_option maxRecDepth 100000 in
theorem c_X4_fits (l : Launch) (hlf : l.stackTraces = false) (X : XW)  (p1 : Int32) (p2 : Int32) (m0 : Mem) (rv : Int32) (hF : F_X4_fits p1 p2 m0 = some rv) : MX X l yX4_fits cX4_fits 2 (some .boolean) 1 [.int p1, .int p2] m0 (QI X rv m0) := by
  refine startZ hlf (by decide +kernel) rfl [(0, .int p1), (1, .int p2)] rfl (Nat.le_of_ble_eq_true rfl) (fun K hk hR => ?_)
  unfold F_X4_fits at hF
  refine r_iload_n hk 0 (dtX4_fits_0 0 (0, .iload_n 0, 1) rfl) rfl ?_
  have j34_2 : ∀ (v1 : Int32), J_X4_fits_34 v1 = some rv → G X K 34 [] [.int v1] m0 := by
    intro v1 hF
    unfold J_X4_fits_34 at hF
    obtain ⟨hz, hF⟩ := ck_some hF
    cases Option.some.inj hF
    exact hR _ _ hz (dtX4_fits_0 16 (34, .ireturn, 1) rfl)
  refine r_if_ne hk 17 hF (dtX4_fits_0 1 (1, .ifCond .ne 16, 3) rfl) (by decide) (fun hF => ?_) (fun hF => ?_)
  · refine r_iload_n hk 1 (dtX4_fits_0 7 (17, .iload_n 1, 1) rfl) rfl ?_
    refine r_iconst (v := 0) hk (dtX4_fits_0 8 (18, .iconst 0, 1) rfl) (by decide) ?_
    refine r_iload_n hk 0 (dtX4_fits_0 9 (19, .iload_n 0, 1) rfl) rfl ?_
    refine r_iconst (v := 1) hk (dtX4_fits_0 10 (20, .iconst 1, 1) rfl) (by decide) ?_
    have j31_4 : ∀ (v3 : Int32), (J_X4_fits_31 p2 m0) v3 = some rv → G X K 31 [] [.int v3, .int 0, .int p2] m0 := by
      intro v3 hF
      unfold J_X4_fits_31 at hF
      refine r_callI hF (fun v5 h H locs ls hH hS hl => run_S hk (c_X4_in (kl K) hk.2.2.2.2.2.2.2.2.2.2.2 X  p2 0 v3 m0 v5 h) lk_X4_29 me_X4_in yf_X4_in (by decide) (by decide) rfl (Nat.le_of_ble_eq_true rfl) rfl (dtX4_fits_0 15 (31, .invokestatic 29, 3) rfl) hH hS hl) (fun v5 hF => ?_)
      exact r_sub hk [] rfl (j34_2 v5 hF)
    refine r_icmp_ne hk 28 hF (dtX4_fits_0 11 (21, .if_icmp .ne 7, 3) rfl) (by decide) (fun hF => ?_) (fun hF => ?_)
    · refine r_sipush (v := 3650) hk (dtX4_fits_0 14 (28, .sipush 3650, 3) rfl) (by decide) ?_
      exact r_sub hk [] rfl (j31_4 3650 hF)
    · refine r_iconst (v := 1) hk (dtX4_fits_0 12 (24, .iconst 1, 1) rfl) (by decide) ?_
      refine r_goto hk 31 (dtX4_fits_0 13 (25, .goto 6, 3) rfl) (by decide) ?_
      exact r_sub hk [] rfl (j31_4 1 hF)
  · refine r_iload_n hk 1 (dtX4_fits_0 2 (4, .iload_n 1, 1) rfl) rfl ?_
    refine r_sipush (v := (-999)) hk (dtX4_fits_0 3 (5, .sipush (-999), 3) rfl) (by decide) ?_
    refine r_sipush (v := 999) hk (dtX4_fits_0 4 (8, .sipush 999, 3) rfl) (by decide) ?_
    refine r_callI hF (fun v6 h H locs ls hH hS hl => run_S hk (c_X4_in (kl K) hk.2.2.2.2.2.2.2.2.2.2.2 X  p2 (-999) 999 m0 v6 h) lk_X4_29 me_X4_in yf_X4_in (by decide) (by decide) rfl (Nat.le_of_ble_eq_true rfl) rfl (dtX4_fits_0 5 (11, .invokestatic 29, 3) rfl) hH hS hl) (fun v6 hF => ?_)
    refine r_goto hk 34 (dtX4_fits_0 6 (14, .goto 20, 3) rfl) (by decide) ?_
    exact r_sub hk [] rfl (j34_2 v6 hF)
set_option maxHeartbeats 4000000 in
set_option maxRecDepth 100000 in
theorem c_X4_put (l : Launch) (hlf : l.stackTraces = false) (X : XW)  (p1 : Int32) (p2 : Int32) (p3 : Int32) (m0 : Mem) (rv : Int32) (mE : Mem) (hF : F_X4_put p1 p2 p3 m0 = some (rv, mE)) : MX X l yX4_put cX4_put 6 (some .int) 2 [.ref (xad X (3, 0, 0, 0)), .int p1, .int p2, .int p3] m0 (QI X rv mE) := by
  refine startI hlf (by decide +kernel) rfl [(0, .ref (xad X (3, 0, 0, 0))), (1, .int p1), (2, .int p2), (3, .int p3)] rfl (Nat.le_of_ble_eq_true rfl) (fun K hk hR => ?_)
  unfold F_X4_put at hF
  refine r_aload_n hk 0 (dtX4_put_0 0 (0, .aload_n 0, 1) rfl) rfl ?_
  refine r_iconst (v := 0) hk (dtX4_put_0 1 (1, .iconst 0, 1) rfl) (by decide) ?_
  refine r_putI hk (k := 6) (fsX4 X) cbX4 (by decide) fl_X4_25 (in_mo 0 (by decide)) (fun _ => rfl) rfl rfl (fun _ _ _ => rfl) (fun _ _ => (by decide : 6 < 11)) hF (dtX4_put_0 2 (2, .putfield 25, 3) rfl) (fun m1 hF => ?_)
  refine r_aload_n hk 0 (dtX4_put_0 3 (5, .aload_n 0, 1) rfl) rfl ?_
  refine r_iload_n hk 1 (dtX4_put_0 4 (6, .iload_n 1, 1) rfl) rfl ?_
  refine r_callI hF (fun v2 h H locs ls hH hS hl => run_V (y := yX4_isRow) hk (in_mo 0 (by decide)) rfl rfl (c_X4_isRow (kl K) hk.2.2.2.2.2.2.2.2.2.2.2 X  p1 m1 v2 h) lk_X4_81 me_X4_isRow yf_X4_isRow (by decide) (by decide) rfl (Nat.le_of_ble_eq_true rfl) rfl (dtX4_put_0 5 (7, .invokevirtual 81, 3) rfl) hH hS hl) (fun v2 hF => ?_)
  refine r_if_ne hk 19 hF (dtX4_put_0 6 (10, .ifCond .ne 9, 3) rfl) (by decide) (fun hF => ?_) (fun hF => ?_)
  · refine r_iload_n hk 2 (dtX4_put_0 11 (19, .iload_n 2, 1) rfl) rfl ?_
    refine r_callI hF (fun v3 h H locs ls hH hS hl => run_S hk (c_X4_isLetter (kl K) hk.2.2.2.2.2.2.2.2.2.2.2 X  p2 m1 v3 h) lk_X4_51 me_X4_isLetter yf_X4_isLetter (by decide) (by decide) rfl (Nat.le_of_ble_eq_true rfl) rfl (dtX4_put_0 12 (20, .invokestatic 51, 3) rfl) hH hS hl) (fun v3 hF => ?_)
    have j39_4 : (J_X4_put_39 m1) = some (rv, mE) → G X K 39 [(0, .ref (xad X (3, 0, 0, 0)))] [] m1 := by
      intro hF
      unfold J_X4_put_39 at hF
      refine r_aload_n hk 0 (dtX4_put_0 19 (39, .aload_n 0, 1) rfl) rfl ?_
      refine r_iconst (v := 2) hk (dtX4_put_0 20 (40, .iconst 2, 1) rfl) (by decide) ?_
      refine r_callIm hF (fun v5 m6 h H locs ls hH hS hl => run_V (y := yX4_fails) hk (in_mo 0 (by decide)) rfl rfl (c_X4_fails (kl K) hk.2.2.2.2.2.2.2.2.2.2.2 X  2 m1 v5 m6 h) lk_X4_37 me_X4_fails yf_X4_fails (by decide) (by decide) rfl (Nat.le_of_ble_eq_true rfl) rfl (dtX4_put_0 21 (41, .invokevirtual 37, 3) rfl) hH hS hl) (fun v5 m6 hF => ?_)
      cases Option.some.inj hF
      exact hR _ _ (dtX4_put_0 22 (44, .ireturn, 1) rfl)
    refine r_if_eq hk 39 hF (dtX4_put_0 13 (23, .ifCond .eq 16, 3) rfl) (by decide) (fun hF => ?_) (fun hF => ?_)
    · exact r_sub hk [0] rfl (j39_4 hF)
    · refine r_iload_n hk 3 (dtX4_put_0 14 (26, .iload_n 3, 1) rfl) rfl ?_
      refine r_sipush (v := (-9999)) hk (dtX4_put_0 15 (27, .sipush (-9999), 3) rfl) (by decide) ?_
      refine r_sipush (v := 9999) hk (dtX4_put_0 16 (30, .sipush 9999, 3) rfl) (by decide) ?_
      refine r_callI hF (fun v7 h H locs ls hH hS hl => run_S hk (c_X4_in (kl K) hk.2.2.2.2.2.2.2.2.2.2.2 X  p3 (-9999) 9999 m1 v7 h) lk_X4_29 me_X4_in yf_X4_in (by decide) (by decide) rfl (Nat.le_of_ble_eq_true rfl) rfl (dtX4_put_0 17 (33, .invokestatic 29, 3) rfl) hH hS hl) (fun v7 hF => ?_)
      refine r_if_ne hk 45 hF (dtX4_put_0 18 (36, .ifCond .ne 9, 3) rfl) (by decide) (fun hF => ?_) (fun hF => ?_)
      · refine r_aload_n hk 0 (dtX4_put_0 23 (45, .aload_n 0, 1) rfl) rfl ?_
        refine r_callVm hF (fun w m8 h H locs ls hH hS hl => run_V (y := yX4_saves) hk (in_mo 0 (by decide)) rfl rfl (c_X4_saves (kl K) hk.2.2.2.2.2.2.2.2.2.2.2 X   m1 w m8 h) lk_X4_54 me_X4_saves yf_X4_saves (by decide) (by decide) rfl (Nat.le_of_ble_eq_true rfl) rfl (dtX4_put_0 24 (46, .invokevirtual 54, 3) rfl) hH hS hl) (fun _ m8 hF => ?_)
        refine r_aload_n hk 0 (dtX4_put_0 25 (49, .aload_n 0, 1) rfl) rfl ?_
        refine r_iload_n hk 1 (dtX4_put_0 26 (50, .iload_n 1, 1) rfl) rfl ?_
        refine r_callI hF (fun v9 h H locs ls hH hS hl => run_V (y := yX4_tenantOf) hk (in_mo 0 (by decide)) rfl rfl (c_X4_tenantOf (kl K) hk.2.2.2.2.2.2.2.2.2.2.2 X  p1 m8 v9 h) lk_X4_41 me_X4_tenantOf yf_X4_tenantOf (by decide) (by decide) rfl (Nat.le_of_ble_eq_true rfl) rfl (dtX4_put_0 27 (51, .invokevirtual 41, 3) rfl) hH hS hl) (fun v9 hF => ?_)
        refine r_istore hk [(4, .int v9), (0, .ref (xad X (3, 0, 0, 0))), (1, .int p1), (2, .int p2), (3, .int p3)] (dtX4_put_0 28 (54, .istore 4, 2) rfl) (by decide) rfl ?_
        refine r_aload_n hk 1 (dtX4_put_0 29 (56, .aload_n 0, 1) rfl) rfl ?_
        refine r_iload hk 0 (dtX4_put_0 30 (57, .iload 4, 2) rfl) rfl ?_
        refine r_iload_n hk 3 (dtX4_put_0 31 (59, .iload_n 2, 1) rfl) rfl ?_
        refine r_callI hF (fun v10 h H locs ls hH hS hl => run_V (y := yX4_columnOf) hk (in_mo 0 (by decide)) rfl rfl (c_X4_columnOf (kl K) hk.2.2.2.2.2.2.2.2.2.2.2 X  v9 p2 m8 v10 h) lk_X4_64 me_X4_columnOf yf_X4_columnOf (by decide) (by decide) rfl (Nat.le_of_ble_eq_true rfl) rfl (dtX4_put_0 32 (60, .invokevirtual 64, 3) rfl) hH hS hl) (fun v10 hF => ?_)
        refine r_istore hk [(5, .int v10), (4, .int v9), (0, .ref (xad X (3, 0, 0, 0))), (1, .int p1), (2, .int p2), (3, .int p3)] (dtX4_put_0 33 (63, .istore 5, 2) rfl) (by decide) rfl ?_
        refine r_iload hk 0 (dtX4_put_0 34 (65, .iload 5, 2) rfl) rfl ?_
        refine r_iconst (v := (-1)) hk (dtX4_put_0 35 (67, .iconst (-1), 1) rfl) (by decide) ?_
        refine r_icmp_ne hk 79 hF (dtX4_put_0 36 (68, .if_icmp .ne 11, 3) rfl) (by decide) (fun hF => ?_) (fun hF => ?_)
        · refine r_aload_n hk 2 (dtX4_put_0 42 (79, .aload_n 0, 1) rfl) rfl ?_
          refine r_getR hk (k := 0) (fsX4 X) cbX4 (by decide) fl_X4_7 (in_mo 0 (by decide)) (fun _ => rfl) (fun _ _ => rfl) (dtX4_put_0 43 (80, .getfield 7, 3) rfl) ?_
          refine r_sipush (v := 1105) hk (dtX4_put_0 44 (83, .sipush 1105, 3) rfl) (by decide) ?_
          refine r_bipush (v := 8) hk (dtX4_put_0 45 (86, .bipush 8, 2) rfl) (by decide) ?_
          refine r_iload hk 1 (dtX4_put_0 46 (88, .iload 4, 2) rfl) rfl ?_
          refine r_imul hk hF (dtX4_put_0 47 (90, .imul, 1) rfl) (fun v11 hF => ?_)
          refine r_iadd hk hF (dtX4_put_0 48 (91, .iadd, 1) rfl) (fun v12 hF => ?_)
          refine r_iload hk 0 (dtX4_put_0 49 (92, .iload 5, 2) rfl) rfl ?_
          refine r_iadd hk hF (dtX4_put_0 50 (94, .iadd, 1) rfl) (fun v13 hF => ?_)
          refine r_iald hk (in_mo 1 (by decide)) (fun _ => rfl) hF (dtX4_put_0 51 (95, .iaload, 1) rfl) (fun v14 hF => ?_)
          refine r_iload_n hk 5 (dtX4_put_0 52 (96, .iload_n 3, 1) rfl) rfl ?_
          refine r_callI hF (fun v15 h H locs ls hH hS hl => run_S hk (c_X4_fits (kl K) hk.2.2.2.2.2.2.2.2.2.2.2 X  v14 p3 m8 v15 h) lk_X4_84 me_X4_fits yf_X4_fits (by decide) (by decide) rfl (Nat.le_of_ble_eq_true rfl) rfl (dtX4_put_0 53 (97, .invokestatic 84, 3) rfl) hH hS hl) (fun v15 hF => ?_)
          refine r_if_ne hk 112 hF (dtX4_put_0 54 (100, .ifCond .ne 12, 3) rfl) (by decide) (fun hF => ?_) (fun hF => ?_)
          · refine r_aload_n hk 2 (dtX4_put_0 60 (112, .aload_n 0, 1) rfl) rfl ?_
            refine r_bipush (v := 9) hk (dtX4_put_0 61 (113, .bipush 9, 2) rfl) (by decide) ?_
            refine r_iload_n hk 3 (dtX4_put_0 62 (115, .iload_n 1, 1) rfl) rfl ?_
            refine r_imul hk hF (dtX4_put_0 63 (116, .imul, 1) rfl) (fun v16 hF => ?_)
            refine r_iconst (v := 1) hk (dtX4_put_1 0 (117, .iconst 1, 1) rfl) (by decide) ?_
            refine r_iadd hk hF (dtX4_put_1 1 (118, .iadd, 1) rfl) (fun v17 hF => ?_)
            refine r_iload hk 0 (dtX4_put_1 2 (119, .iload 5, 2) rfl) rfl ?_
            refine r_iadd hk hF (dtX4_put_1 3 (121, .iadd, 1) rfl) (fun v18 hF => ?_)
            refine r_iload_n hk 5 (dtX4_put_1 4 (122, .iload_n 3, 1) rfl) rfl ?_
            refine r_callIm hF (fun v19 m20 h H locs ls hH hS hl => run_V (y := yX4_changes) hk (in_mo 0 (by decide)) rfl rfl (c_X4_changes (kl K) hk.2.2.2.2.2.2.2.2.2.2.2 X  v18 p3 m8 v19 m20 h) lk_X4_67 me_X4_changes yf_X4_changes (by decide) (by decide) rfl (Nat.le_of_ble_eq_true rfl) rfl (dtX4_put_1 5 (123, .invokevirtual 67, 3) rfl) hH hS hl) (fun v19 m20 hF => ?_)
            refine r_ldc hk cn_X4_33 (dtX4_put_1 6 (126, .ldc 33, 2) rfl) ?_
            have j136_22 : ∀ (v21 : Int32), (J_X4_put_136 m20) v21 = some (rv, mE) → G X K 136 [] [.int v21] m20 := by
              intro v21 hF
              unfold J_X4_put_136 at hF
              cases Option.some.inj hF
              exact hR _ _ (dtX4_put_1 11 (136, .ireturn, 1) rfl)
            refine r_icmp_ne hk 135 hF (dtX4_put_1 7 (128, .if_icmp .ne 7, 3) rfl) (by decide) (fun hF => ?_) (fun hF => ?_)
            · refine r_iconst (v := 1) hk (dtX4_put_1 10 (135, .iconst 1, 1) rfl) (by decide) ?_
              exact r_sub hk [] rfl (j136_22 1 hF)
            · refine r_iconst (v := 0) hk (dtX4_put_1 8 (131, .iconst 0, 1) rfl) (by decide) ?_
              refine r_goto hk 136 (dtX4_put_1 9 (132, .goto 4, 3) rfl) (by decide) ?_
              exact r_sub hk [] rfl (j136_22 0 hF)
          · refine r_aload_n hk 2 (dtX4_put_0 55 (103, .aload_n 0, 1) rfl) rfl ?_
            refine r_iload hk 1 (dtX4_put_0 56 (104, .iload 4, 2) rfl) rfl ?_
            refine r_bipush (v := 6) hk (dtX4_put_0 57 (106, .bipush 6, 2) rfl) (by decide) ?_
            refine r_callIm hF (fun v23 m24 h H locs ls hH hS hl => run_V (y := yX4_refuses) hk (in_mo 0 (by decide)) rfl rfl (c_X4_refuses (kl K) hk.2.2.2.2.2.2.2.2.2.2.2 X  v9 6 m8 v23 m24 h) lk_X4_60 me_X4_refuses yf_X4_refuses (by decide) (by decide) rfl (Nat.le_of_ble_eq_true rfl) rfl (dtX4_put_0 58 (108, .invokevirtual 60, 3) rfl) hH hS hl) (fun v23 m24 hF => ?_)
            cases Option.some.inj hF
            exact hR _ _ (dtX4_put_0 59 (111, .ireturn, 1) rfl)
        · refine r_aload_n hk 2 (dtX4_put_0 37 (71, .aload_n 0, 1) rfl) rfl ?_
          refine r_iload hk 1 (dtX4_put_0 38 (72, .iload 4, 2) rfl) rfl ?_
          refine r_iconst (v := 5) hk (dtX4_put_0 39 (74, .iconst 5, 1) rfl) (by decide) ?_
          refine r_callIm hF (fun v25 m26 h H locs ls hH hS hl => run_V (y := yX4_refuses) hk (in_mo 0 (by decide)) rfl rfl (c_X4_refuses (kl K) hk.2.2.2.2.2.2.2.2.2.2.2 X  v9 5 m8 v25 m26 h) lk_X4_60 me_X4_refuses yf_X4_refuses (by decide) (by decide) rfl (Nat.le_of_ble_eq_true rfl) rfl (dtX4_put_0 40 (75, .invokevirtual 60, 3) rfl) hH hS hl) (fun v25 m26 hF => ?_)
          cases Option.some.inj hF
          exact hR _ _ (dtX4_put_0 41 (78, .ireturn, 1) rfl)
      · exact r_sub hk [0] rfl (j39_4 hF)
  · refine r_aload_n hk 0 (dtX4_put_0 7 (13, .aload_n 0, 1) rfl) rfl ?_
    refine r_iconst (v := 1) hk (dtX4_put_0 8 (14, .iconst 1, 1) rfl) (by decide) ?_
    refine r_callIm hF (fun v27 m28 h H locs ls hH hS hl => run_V (y := yX4_fails) hk (in_mo 0 (by decide)) rfl rfl (c_X4_fails (kl K) hk.2.2.2.2.2.2.2.2.2.2.2 X  1 m1 v27 m28 h) lk_X4_37 me_X4_fails yf_X4_fails (by decide) (by decide) rfl (Nat.le_of_ble_eq_true rfl) rfl (dtX4_put_0 9 (15, .invokevirtual 37, 3) rfl) hH hS hl) (fun v27 m28 hF => ?_)
    cases Option.some.inj hF
    exact hR _ _ (dtX4_put_0 10 (18, .ireturn, 1) rfl)
set_option maxHeartbeats 4000000 in
set_option maxRecDepth 100000 in
theorem c_X4_goesOut (l : Launch) (hlf : l.stackTraces = false) (X : XW)  (p1 : Int32) (m0 : Mem) (rv : Unit) (mE : Mem) (hF : F_X4_goesOut p1 m0 = some (rv, mE)) : MX X l yX4_goesOut cX4_goesOut 3 none 0 [.ref (xad X (3, 0, 0, 0)), .int p1] m0 (QV X mE) := by
  refine startV hlf (by decide +kernel) rfl [(0, .ref (xad X (3, 0, 0, 0))), (1, .int p1)] rfl (Nat.le_of_ble_eq_true rfl) (fun K hk hR => ?_)
  unfold F_X4_goesOut at hF
  refine r_aload_n hk 0 (dtX4_goesOut_0 0 (0, .aload_n 0, 1) rfl) rfl ?_
  refine r_getR hk (k := 0) (fsX4 X) cbX4 (by decide) fl_X4_7 (in_mo 0 (by decide)) (fun _ => rfl) (fun _ _ => rfl) (dtX4_goesOut_0 1 (1, .getfield 7, 3) rfl) ?_
  refine r_sipush (v := 1080) hk (dtX4_goesOut_0 2 (4, .sipush 1080, 3) rfl) (by decide) ?_
  refine r_dup2 hk (dtX4_goesOut_0 3 (7, .dup2, 1) rfl) rfl rfl ?_
  refine r_iald hk (in_mo 1 (by decide)) (fun _ => rfl) hF (dtX4_goesOut_0 4 (8, .iaload, 1) rfl) (fun v1 hF => ?_)
  refine r_iconst (v := 1) hk (dtX4_goesOut_0 5 (9, .iconst 1, 1) rfl) (by decide) ?_
  refine r_isub hk hF (dtX4_goesOut_0 6 (10, .isub, 1) rfl) (fun v2 hF => ?_)
  refine r_iast hk (in_mo 1 (by decide)) (fun _ => rfl) hF (dtX4_goesOut_0 7 (11, .iastore, 1) rfl) (fun m3 hF => ?_)
  refine r_bipush (v := 9) hk (dtX4_goesOut_0 8 (12, .bipush 9, 2) rfl) (by decide) ?_
  refine r_iload_n hk 1 (dtX4_goesOut_0 9 (14, .iload_n 1, 1) rfl) rfl ?_
  refine r_imul hk hF (dtX4_goesOut_0 10 (15, .imul, 1) rfl) (fun v4 hF => ?_)
  refine r_istore_n hk [(2, .int v4), (0, .ref (xad X (3, 0, 0, 0))), (1, .int p1)] (dtX4_goesOut_0 11 (16, .istore_n 2, 1) rfl) (by decide) rfl ?_
  have e53_6 : ∀ (m5 : Mem), C_X4_goesOut_53 m5 = some (rv, mE) → G X K 53 [] [] m5 := by
    intro m5 hF
    unfold C_X4_goesOut_53 at hF
    cases Option.some.inj hF
    exact hR _ _ (dtX4_goesOut_0 32 (53, .return_, 1) rfl)
  have l10 : ∀ (n10 : Nat) (v7 : Int32) (m8 : Mem), L_X4_goesOut_17 n10 v7 m8 = some (rv, mE) → G X K 17 [(0, .ref (xad X (3, 0, 0, 0))), (2, .int v7)] [] m8 := by
    intro n10
    induction n10 with
    | zero => intro v7 m8 hF; exact nomatch (show (none : Option (Unit × Mem)) = some (rv, mE) from hF)
    | succ n10 ih10 =>
      intro v7 m8 hF
      rw [L_X4_goesOut_17] at hF
      refine r_iload_n hk 1 (dtX4_goesOut_0 12 (17, .iload_n 2, 1) rfl) rfl ?_
      refine r_bipush (v := 9) hk (dtX4_goesOut_0 13 (18, .bipush 9, 2) rfl) (by decide) ?_
      refine r_aload_n hk 0 (dtX4_goesOut_0 14 (20, .aload_n 0, 1) rfl) rfl ?_
      refine r_getR hk (k := 0) (fsX4 X) cbX4 (by decide) fl_X4_7 (in_mo 0 (by decide)) (fun _ => rfl) (fun _ _ => rfl) (dtX4_goesOut_0 15 (21, .getfield 7, 3) rfl) ?_
      refine r_sipush (v := 1080) hk (dtX4_goesOut_0 16 (24, .sipush 1080, 3) rfl) (by decide) ?_
      refine r_iald hk (in_mo 1 (by decide)) (fun _ => rfl) hF (dtX4_goesOut_0 17 (27, .iaload, 1) rfl) (fun v11 hF => ?_)
      refine r_imul hk hF (dtX4_goesOut_0 18 (28, .imul, 1) rfl) (fun v12 hF => ?_)
      refine r_icmp_ge hk 53 hF (dtX4_goesOut_0 19 (29, .if_icmp .ge 24, 3) rfl) (by decide) (fun hF => ?_) (fun hF => ?_)
      · exact r_sub hk [] rfl (e53_6 m8 hF)
      · refine r_aload_n hk 0 (dtX4_goesOut_0 20 (32, .aload_n 0, 1) rfl) rfl ?_
        refine r_getR hk (k := 0) (fsX4 X) cbX4 (by decide) fl_X4_7 (in_mo 0 (by decide)) (fun _ => rfl) (fun _ _ => rfl) (dtX4_goesOut_0 21 (33, .getfield 7, 3) rfl) ?_
        refine r_iload_n hk 1 (dtX4_goesOut_0 22 (36, .iload_n 2, 1) rfl) rfl ?_
        refine r_aload_n hk 0 (dtX4_goesOut_0 23 (37, .aload_n 0, 1) rfl) rfl ?_
        refine r_getR hk (k := 0) (fsX4 X) cbX4 (by decide) fl_X4_7 (in_mo 0 (by decide)) (fun _ => rfl) (fun _ _ => rfl) (dtX4_goesOut_0 24 (38, .getfield 7, 3) rfl) ?_
        refine r_iload_n hk 1 (dtX4_goesOut_0 25 (41, .iload_n 2, 1) rfl) rfl ?_
        refine r_bipush (v := 9) hk (dtX4_goesOut_0 26 (42, .bipush 9, 2) rfl) (by decide) ?_
        refine r_iadd hk hF (dtX4_goesOut_0 27 (44, .iadd, 1) rfl) (fun v13 hF => ?_)
        refine r_iald hk (in_mo 1 (by decide)) (fun _ => rfl) hF (dtX4_goesOut_0 28 (45, .iaload, 1) rfl) (fun v14 hF => ?_)
        refine r_iast hk (in_mo 1 (by decide)) (fun _ => rfl) hF (dtX4_goesOut_0 29 (46, .iastore, 1) rfl) (fun m15 hF => ?_)
        refine r_iinc hk 1 1 (fun v16 => [(2, .int v16), (0, .ref (xad X (3, 0, 0, 0)))]) hF (dtX4_goesOut_0 30 (47, .iinc 2 1, 3) rfl) rfl (by decide) (by decide) (fun _ => rfl) (fun v16 hF => ?_)
        refine r_goto hk 17 (dtX4_goesOut_0 31 (50, .goto (-33), 3) rfl) (by decide) ?_
        exact r_sub hk [1, 0] rfl (ih10 v16 m15 hF)
  exact r_sub hk [1, 0] rfl (l10 fu v4 m3 hF)
set_option maxHeartbeats 4000000 in
set_option maxRecDepth 100000 in
theorem c_X4_remove (l : Launch) (hlf : l.stackTraces = false) (X : XW)  (p1 : Int32) (m0 : Mem) (rv : Int32) (mE : Mem) (hF : F_X4_remove p1 m0 = some (rv, mE)) : MX X l yX4_remove cX4_remove 3 (some .int) 2 [.ref (xad X (3, 0, 0, 0)), .int p1] m0 (QI X rv mE) := by
  refine startI hlf (by decide +kernel) rfl [(0, .ref (xad X (3, 0, 0, 0))), (1, .int p1)] rfl (Nat.le_of_ble_eq_true rfl) (fun K hk hR => ?_)
  unfold F_X4_remove at hF
  refine r_aload_n hk 0 (dtX4_remove_0 0 (0, .aload_n 0, 1) rfl) rfl ?_
  refine r_iconst (v := 0) hk (dtX4_remove_0 1 (1, .iconst 0, 1) rfl) (by decide) ?_
  refine r_putI hk (k := 6) (fsX4 X) cbX4 (by decide) fl_X4_25 (in_mo 0 (by decide)) (fun _ => rfl) rfl rfl (fun _ _ _ => rfl) (fun _ _ => (by decide : 6 < 11)) hF (dtX4_remove_0 2 (2, .putfield 25, 3) rfl) (fun m1 hF => ?_)
  refine r_aload_n hk 0 (dtX4_remove_0 3 (5, .aload_n 0, 1) rfl) rfl ?_
  refine r_iload_n hk 1 (dtX4_remove_0 4 (6, .iload_n 1, 1) rfl) rfl ?_
  refine r_callI hF (fun v2 h H locs ls hH hS hl => run_V (y := yX4_isRow) hk (in_mo 0 (by decide)) rfl rfl (c_X4_isRow (kl K) hk.2.2.2.2.2.2.2.2.2.2.2 X  p1 m1 v2 h) lk_X4_81 me_X4_isRow yf_X4_isRow (by decide) (by decide) rfl (Nat.le_of_ble_eq_true rfl) rfl (dtX4_remove_0 5 (7, .invokevirtual 81, 3) rfl) hH hS hl) (fun v2 hF => ?_)
  refine r_if_ne hk 19 hF (dtX4_remove_0 6 (10, .ifCond .ne 9, 3) rfl) (by decide) (fun hF => ?_) (fun hF => ?_)
  · refine r_aload_n hk 0 (dtX4_remove_0 11 (19, .aload_n 0, 1) rfl) rfl ?_
    refine r_callVm hF (fun w m3 h H locs ls hH hS hl => run_V (y := yX4_saves) hk (in_mo 0 (by decide)) rfl rfl (c_X4_saves (kl K) hk.2.2.2.2.2.2.2.2.2.2.2 X   m1 w m3 h) lk_X4_54 me_X4_saves yf_X4_saves (by decide) (by decide) rfl (Nat.le_of_ble_eq_true rfl) rfl (dtX4_remove_0 12 (20, .invokevirtual 54, 3) rfl) hH hS hl) (fun _ m3 hF => ?_)
    refine r_aload_n hk 0 (dtX4_remove_0 13 (23, .aload_n 0, 1) rfl) rfl ?_
    refine r_iload_n hk 1 (dtX4_remove_0 14 (24, .iload_n 1, 1) rfl) rfl ?_
    refine r_callI hF (fun v4 h H locs ls hH hS hl => run_V (y := yX4_tenantOf) hk (in_mo 0 (by decide)) rfl rfl (c_X4_tenantOf (kl K) hk.2.2.2.2.2.2.2.2.2.2.2 X  p1 m3 v4 h) lk_X4_41 me_X4_tenantOf yf_X4_tenantOf (by decide) (by decide) rfl (Nat.le_of_ble_eq_true rfl) rfl (dtX4_remove_0 15 (25, .invokevirtual 41, 3) rfl) hH hS hl) (fun v4 hF => ?_)
    refine r_istore_n hk [(2, .int v4), (0, .ref (xad X (3, 0, 0, 0))), (1, .int p1)] (dtX4_remove_0 16 (28, .istore_n 2, 1) rfl) (by decide) rfl ?_
    refine r_aload_n hk 1 (dtX4_remove_0 17 (29, .aload_n 0, 1) rfl) rfl ?_
    refine r_iload_n hk 2 (dtX4_remove_0 18 (30, .iload_n 1, 1) rfl) rfl ?_
    refine r_callVm hF (fun w m5 h H locs ls hH hS hl => run_V (y := yX4_goesOut) hk (in_mo 0 (by decide)) rfl rfl (c_X4_goesOut (kl K) hk.2.2.2.2.2.2.2.2.2.2.2 X  p1 m3 w m5 h) lk_X4_88 me_X4_goesOut yf_X4_goesOut (by decide) (by decide) rfl (Nat.le_of_ble_eq_true rfl) rfl (dtX4_remove_0 19 (31, .invokevirtual 88, 3) rfl) hH hS hl) (fun _ m5 hF => ?_)
    refine r_iload_n hk 0 (dtX4_remove_0 20 (34, .iload_n 2, 1) rfl) rfl ?_
    cases Option.some.inj hF
    exact hR _ _ (dtX4_remove_0 21 (35, .ireturn, 1) rfl)
  · refine r_aload_n hk 0 (dtX4_remove_0 7 (13, .aload_n 0, 1) rfl) rfl ?_
    refine r_iconst (v := 1) hk (dtX4_remove_0 8 (14, .iconst 1, 1) rfl) (by decide) ?_
    refine r_callIm hF (fun v6 m7 h H locs ls hH hS hl => run_V (y := yX4_fails) hk (in_mo 0 (by decide)) rfl rfl (c_X4_fails (kl K) hk.2.2.2.2.2.2.2.2.2.2.2 X  1 m1 v6 m7 h) lk_X4_37 me_X4_fails yf_X4_fails (by decide) (by decide) rfl (Nat.le_of_ble_eq_true rfl) rfl (dtX4_remove_0 9 (15, .invokevirtual 37, 3) rfl) hH hS hl) (fun v6 m7 hF => ?_)
    cases Option.some.inj hF
    exact hR _ _ (dtX4_remove_0 10 (18, .ireturn, 1) rfl)
set_option maxHeartbeats 4000000 in
set_option maxRecDepth 100000 in
theorem c_X4_move (l : Launch) (hlf : l.stackTraces = false) (X : XW)  (p1 : Int32) (m0 : Mem) (rv : Int32) (mE : Mem) (hF : F_X4_move p1 m0 = some (rv, mE)) : MX X l yX4_move cX4_move 2 (some .int) 3 [.ref (xad X (3, 0, 0, 0)), .int p1] m0 (QI X rv mE) := by
  refine startI hlf (by decide +kernel) rfl [(0, .ref (xad X (3, 0, 0, 0))), (1, .int p1)] rfl (Nat.le_of_ble_eq_true rfl) (fun K hk hR => ?_)
  unfold F_X4_move at hF
  refine r_aload_n hk 0 (dtX4_move_0 0 (0, .aload_n 0, 1) rfl) rfl ?_
  refine r_iconst (v := 0) hk (dtX4_move_0 1 (1, .iconst 0, 1) rfl) (by decide) ?_
  refine r_putI hk (k := 6) (fsX4 X) cbX4 (by decide) fl_X4_25 (in_mo 0 (by decide)) (fun _ => rfl) rfl rfl (fun _ _ _ => rfl) (fun _ _ => (by decide : 6 < 11)) hF (dtX4_move_0 2 (2, .putfield 25, 3) rfl) (fun m1 hF => ?_)
  refine r_iload_n hk 1 (dtX4_move_0 3 (5, .iload_n 1, 1) rfl) rfl ?_
  refine r_callI hF (fun v2 h H locs ls hH hS hl => run_S hk (c_X4_isTenant (kl K) hk.2.2.2.2.2.2.2.2.2.2.2 X  p1 m1 v2 h) lk_X4_47 me_X4_isTenant yf_X4_isTenant (by decide) (by decide) rfl (Nat.le_of_ble_eq_true rfl) rfl (dtX4_move_0 4 (6, .invokestatic 47, 3) rfl) hH hS hl) (fun v2 hF => ?_)
  refine r_if_ne hk 18 hF (dtX4_move_0 5 (9, .ifCond .ne 9, 3) rfl) (by decide) (fun hF => ?_) (fun hF => ?_)
  · refine r_aload_n hk 0 (dtX4_move_0 10 (18, .aload_n 0, 1) rfl) rfl ?_
    refine r_callVm hF (fun w m3 h H locs ls hH hS hl => run_V (y := yX4_saves) hk (in_mo 0 (by decide)) rfl rfl (c_X4_saves (kl K) hk.2.2.2.2.2.2.2.2.2.2.2 X   m1 w m3 h) lk_X4_54 me_X4_saves yf_X4_saves (by decide) (by decide) rfl (Nat.le_of_ble_eq_true rfl) rfl (dtX4_move_0 11 (19, .invokevirtual 54, 3) rfl) hH hS hl) (fun _ m3 hF => ?_)
    refine r_aload_n hk 0 (dtX4_move_0 12 (22, .aload_n 0, 1) rfl) rfl ?_
    refine r_getR hk (k := 0) (fsX4 X) cbX4 (by decide) fl_X4_7 (in_mo 0 (by decide)) (fun _ => rfl) (fun _ _ => rfl) (dtX4_move_0 13 (23, .getfield 7, 3) rfl) ?_
    refine r_sipush (v := 1159) hk (dtX4_move_0 14 (26, .sipush 1159, 3) rfl) (by decide) ?_
    refine r_iload_n hk 1 (dtX4_move_0 15 (29, .iload_n 1, 1) rfl) rfl ?_
    refine r_iadd hk hF (dtX4_move_0 16 (30, .iadd, 1) rfl) (fun v4 hF => ?_)
    refine r_iald hk (in_mo 1 (by decide)) (fun _ => rfl) hF (dtX4_move_0 17 (31, .iaload, 1) rfl) (fun v5 hF => ?_)
    refine r_iconst (v := 1) hk (dtX4_move_0 18 (32, .iconst 1, 1) rfl) (by decide) ?_
    have j58_6 : (J_X4_move_58 p1 m3) = some (rv, mE) → G X K 58 [(0, .ref (xad X (3, 0, 0, 0))), (1, .int p1)] [] m3 := by
      intro hF
      unfold J_X4_move_58 at hF
      refine r_aload_n hk 0 (dtX4_move_0 33 (58, .aload_n 0, 1) rfl) rfl ?_
      refine r_getR hk (k := 0) (fsX4 X) cbX4 (by decide) fl_X4_7 (in_mo 0 (by decide)) (fun _ => rfl) (fun _ _ => rfl) (dtX4_move_0 34 (59, .getfield 7, 3) rfl) ?_
      refine r_sipush (v := 1159) hk (dtX4_move_0 35 (62, .sipush 1159, 3) rfl) (by decide) ?_
      refine r_iload_n hk 1 (dtX4_move_0 36 (65, .iload_n 1, 1) rfl) rfl ?_
      refine r_iadd hk hF (dtX4_move_0 37 (66, .iadd, 1) rfl) (fun v7 hF => ?_)
      refine r_iconst (v := 1) hk (dtX4_move_0 38 (67, .iconst 1, 1) rfl) (by decide) ?_
      refine r_aload_n hk 0 (dtX4_move_0 39 (68, .aload_n 0, 1) rfl) rfl ?_
      refine r_getR hk (k := 0) (fsX4 X) cbX4 (by decide) fl_X4_7 (in_mo 0 (by decide)) (fun _ => rfl) (fun _ _ => rfl) (dtX4_move_0 40 (69, .getfield 7, 3) rfl) ?_
      refine r_sipush (v := 1159) hk (dtX4_move_0 41 (72, .sipush 1159, 3) rfl) (by decide) ?_
      refine r_iload_n hk 1 (dtX4_move_0 42 (75, .iload_n 1, 1) rfl) rfl ?_
      refine r_iadd hk hF (dtX4_move_0 43 (76, .iadd, 1) rfl) (fun v8 hF => ?_)
      refine r_iald hk (in_mo 1 (by decide)) (fun _ => rfl) hF (dtX4_move_0 44 (77, .iaload, 1) rfl) (fun v9 hF => ?_)
      refine r_isub hk hF (dtX4_move_0 45 (78, .isub, 1) rfl) (fun v10 hF => ?_)
      refine r_iast hk (in_mo 1 (by decide)) (fun _ => rfl) hF (dtX4_move_0 46 (79, .iastore, 1) rfl) (fun m11 hF => ?_)
      refine r_aload_n hk 0 (dtX4_move_0 47 (80, .aload_n 0, 1) rfl) rfl ?_
      refine r_callVm hF (fun w m12 h H locs ls hH hS hl => run_V (y := yX4_sorts) hk (in_mo 0 (by decide)) rfl rfl (c_X4_sorts (kl K) hk.2.2.2.2.2.2.2.2.2.2.2 X   m11 w m12 h) lk_X4_78 me_X4_sorts yf_X4_sorts (by decide) (by decide) rfl (Nat.le_of_ble_eq_true rfl) rfl (dtX4_move_0 48 (81, .invokevirtual 78, 3) rfl) hH hS hl) (fun _ m12 hF => ?_)
      refine r_aload_n hk 0 (dtX4_move_0 49 (84, .aload_n 0, 1) rfl) rfl ?_
      refine r_getR hk (k := 0) (fsX4 X) cbX4 (by decide) fl_X4_7 (in_mo 0 (by decide)) (fun _ => rfl) (fun _ _ => rfl) (dtX4_move_0 50 (85, .getfield 7, 3) rfl) ?_
      refine r_sipush (v := 1159) hk (dtX4_move_0 51 (88, .sipush 1159, 3) rfl) (by decide) ?_
      refine r_iload_n hk 1 (dtX4_move_0 52 (91, .iload_n 1, 1) rfl) rfl ?_
      refine r_iadd hk hF (dtX4_move_0 53 (92, .iadd, 1) rfl) (fun v13 hF => ?_)
      refine r_iald hk (in_mo 1 (by decide)) (fun _ => rfl) hF (dtX4_move_0 54 (93, .iaload, 1) rfl) (fun v14 hF => ?_)
      cases Option.some.inj hF
      exact hR _ _ (dtX4_move_0 55 (94, .ireturn, 1) rfl)
    refine r_icmp_ne hk 58 hF (dtX4_move_0 19 (33, .if_icmp .ne 25, 3) rfl) (by decide) (fun hF => ?_) (fun hF => ?_)
    · exact r_sub hk [0, 1] rfl (j58_6 hF)
    · refine r_aload_n hk 0 (dtX4_move_0 20 (36, .aload_n 0, 1) rfl) rfl ?_
      refine r_callI hF (fun v15 h H locs ls hH hS hl => run_V (y := yX4_inTable) hk (in_mo 0 (by decide)) rfl rfl (c_X4_inTable (kl K) hk.2.2.2.2.2.2.2.2.2.2.2 X   m3 v15 h) lk_X4_74 me_X4_inTable yf_X4_inTable (by decide) (by decide) rfl (Nat.le_of_ble_eq_true rfl) rfl (dtX4_move_0 21 (37, .invokevirtual 74, 3) rfl) hH hS hl) (fun v15 hF => ?_)
      refine r_aload_n hk 0 (dtX4_move_0 22 (40, .aload_n 0, 1) rfl) rfl ?_
      refine r_iload_n hk 1 (dtX4_move_0 23 (41, .iload_n 1, 1) rfl) rfl ?_
      refine r_callI hF (fun v16 h H locs ls hH hS hl => run_V (y := yX4_rowsOf) hk (in_mo 0 (by decide)) rfl rfl (c_X4_rowsOf (kl K) hk.2.2.2.2.2.2.2.2.2.2.2 X  p1 m3 v16 h) lk_X4_44 me_X4_rowsOf yf_X4_rowsOf (by decide) (by decide) rfl (Nat.le_of_ble_eq_true rfl) rfl (dtX4_move_0 24 (42, .invokevirtual 44, 3) rfl) hH hS hl) (fun v16 hF => ?_)
      refine r_iadd hk hF (dtX4_move_0 25 (45, .iadd, 1) rfl) (fun v17 hF => ?_)
      refine r_bipush (v := 40) hk (dtX4_move_0 26 (46, .bipush 40, 2) rfl) (by decide) ?_
      refine r_icmp_le hk 58 hF (dtX4_move_0 27 (48, .if_icmp .le 10, 3) rfl) (by decide) (fun hF => ?_) (fun hF => ?_)
      · exact r_sub hk [0, 1] rfl (j58_6 hF)
      · refine r_aload_n hk 0 (dtX4_move_0 28 (51, .aload_n 0, 1) rfl) rfl ?_
        refine r_iload_n hk 1 (dtX4_move_0 29 (52, .iload_n 1, 1) rfl) rfl ?_
        refine r_iconst (v := 2) hk (dtX4_move_0 30 (53, .iconst 2, 1) rfl) (by decide) ?_
        refine r_callIm hF (fun v18 m19 h H locs ls hH hS hl => run_V (y := yX4_refuses) hk (in_mo 0 (by decide)) rfl rfl (c_X4_refuses (kl K) hk.2.2.2.2.2.2.2.2.2.2.2 X  p1 2 m3 v18 m19 h) lk_X4_60 me_X4_refuses yf_X4_refuses (by decide) (by decide) rfl (Nat.le_of_ble_eq_true rfl) rfl (dtX4_move_0 31 (54, .invokevirtual 60, 3) rfl) hH hS hl) (fun v18 m19 hF => ?_)
        cases Option.some.inj hF
        exact hR _ _ (dtX4_move_0 32 (57, .ireturn, 1) rfl)
  · refine r_aload_n hk 0 (dtX4_move_0 6 (12, .aload_n 0, 1) rfl) rfl ?_
    refine r_iconst (v := 1) hk (dtX4_move_0 7 (13, .iconst 1, 1) rfl) (by decide) ?_
    refine r_callIm hF (fun v20 m21 h H locs ls hH hS hl => run_V (y := yX4_fails) hk (in_mo 0 (by decide)) rfl rfl (c_X4_fails (kl K) hk.2.2.2.2.2.2.2.2.2.2.2 X  1 m1 v20 m21 h) lk_X4_37 me_X4_fails yf_X4_fails (by decide) (by decide) rfl (Nat.le_of_ble_eq_true rfl) rfl (dtX4_move_0 8 (14, .invokevirtual 37, 3) rfl) hH hS hl) (fun v20 m21 hF => ?_)
    cases Option.some.inj hF
    exact hR _ _ (dtX4_move_0 9 (17, .ireturn, 1) rfl)
set_option maxHeartbeats 4000000 in
set_option maxRecDepth 100000 in
theorem c_X4_limit (l : Launch) (hlf : l.stackTraces = false) (X : XW)  (p1 : Int32) (p2 : Int32) (p3 : Int32) (m0 : Mem) (rv : Int32) (mE : Mem) (hF : F_X4_limit p1 p2 p3 m0 = some (rv, mE)) : MX X l yX4_limit cX4_limit 4 (some .int) 2 [.ref (xad X (3, 0, 0, 0)), .int p1, .int p2, .int p3] m0 (QI X rv mE) := by
  refine startI hlf (by decide +kernel) rfl [(0, .ref (xad X (3, 0, 0, 0))), (1, .int p1), (2, .int p2), (3, .int p3)] rfl (Nat.le_of_ble_eq_true rfl) (fun K hk hR => ?_)
  unfold F_X4_limit at hF
  refine r_aload_n hk 0 (dtX4_limit_0 0 (0, .aload_n 0, 1) rfl) rfl ?_
  refine r_iconst (v := 0) hk (dtX4_limit_0 1 (1, .iconst 0, 1) rfl) (by decide) ?_
  refine r_putI hk (k := 6) (fsX4 X) cbX4 (by decide) fl_X4_25 (in_mo 0 (by decide)) (fun _ => rfl) rfl rfl (fun _ _ _ => rfl) (fun _ _ => (by decide : 6 < 11)) hF (dtX4_limit_0 2 (2, .putfield 25, 3) rfl) (fun m1 hF => ?_)
  refine r_iload_n hk 1 (dtX4_limit_0 3 (5, .iload_n 1, 1) rfl) rfl ?_
  refine r_callI hF (fun v2 h H locs ls hH hS hl => run_S hk (c_X4_isTenant (kl K) hk.2.2.2.2.2.2.2.2.2.2.2 X  p1 m1 v2 h) lk_X4_47 me_X4_isTenant yf_X4_isTenant (by decide) (by decide) rfl (Nat.le_of_ble_eq_true rfl) rfl (dtX4_limit_0 4 (6, .invokestatic 47, 3) rfl) hH hS hl) (fun v2 hF => ?_)
  have j31_3 : (J_X4_limit_31 m1) = some (rv, mE) → G X K 31 [(0, .ref (xad X (3, 0, 0, 0)))] [] m1 := by
    intro hF
    unfold J_X4_limit_31 at hF
    refine r_aload_n hk 0 (dtX4_limit_0 15 (31, .aload_n 0, 1) rfl) rfl ?_
    refine r_iconst (v := 1) hk (dtX4_limit_0 16 (32, .iconst 1, 1) rfl) (by decide) ?_
    refine r_callIm hF (fun v4 m5 h H locs ls hH hS hl => run_V (y := yX4_fails) hk (in_mo 0 (by decide)) rfl rfl (c_X4_fails (kl K) hk.2.2.2.2.2.2.2.2.2.2.2 X  1 m1 v4 m5 h) lk_X4_37 me_X4_fails yf_X4_fails (by decide) (by decide) rfl (Nat.le_of_ble_eq_true rfl) rfl (dtX4_limit_0 17 (33, .invokevirtual 37, 3) rfl) hH hS hl) (fun v4 m5 hF => ?_)
    cases Option.some.inj hF
    exact hR _ _ (dtX4_limit_0 18 (36, .ireturn, 1) rfl)
  refine r_if_eq hk 31 hF (dtX4_limit_0 5 (9, .ifCond .eq 22, 3) rfl) (by decide) (fun hF => ?_) (fun hF => ?_)
  · exact r_sub hk [0] rfl (j31_3 hF)
  · refine r_iload_n hk 3 (dtX4_limit_0 6 (12, .iload_n 3, 1) rfl) rfl ?_
    refine r_iconst (v := 0) hk (dtX4_limit_0 7 (13, .iconst 0, 1) rfl) (by decide) ?_
    refine r_iload_n hk 2 (dtX4_limit_0 8 (14, .iload_n 2, 1) rfl) rfl ?_
    have j25_7 : ∀ (v6 : Int32), (J_X4_limit_25 p1 p2 p3 m1) v6 = some (rv, mE) → G X K 25 [(0, .ref (xad X (3, 0, 0, 0))), (1, .int p1), (2, .int p2), (3, .int p3)] [.int v6, .int 0, .int p3] m1 := by
      intro v6 hF
      unfold J_X4_limit_25 at hF
      refine r_callI hF (fun v8 h H locs ls hH hS hl => run_S hk (c_X4_in (kl K) hk.2.2.2.2.2.2.2.2.2.2.2 X  p3 0 v6 m1 v8 h) lk_X4_29 me_X4_in yf_X4_in (by decide) (by decide) rfl (Nat.le_of_ble_eq_true rfl) rfl (dtX4_limit_0 13 (25, .invokestatic 29, 3) rfl) hH hS hl) (fun v8 hF => ?_)
      refine r_if_ne hk 37 hF (dtX4_limit_0 14 (28, .ifCond .ne 9, 3) rfl) (by decide) (fun hF => ?_) (fun hF => ?_)
      · refine r_aload_n hk 0 (dtX4_limit_0 19 (37, .aload_n 0, 1) rfl) rfl ?_
        refine r_callVm hF (fun w m9 h H locs ls hH hS hl => run_V (y := yX4_saves) hk (in_mo 0 (by decide)) rfl rfl (c_X4_saves (kl K) hk.2.2.2.2.2.2.2.2.2.2.2 X   m1 w m9 h) lk_X4_54 me_X4_saves yf_X4_saves (by decide) (by decide) rfl (Nat.le_of_ble_eq_true rfl) rfl (dtX4_limit_0 20 (38, .invokevirtual 54, 3) rfl) hH hS hl) (fun _ m9 hF => ?_)
        refine r_aload_n hk 0 (dtX4_limit_0 21 (41, .aload_n 0, 1) rfl) rfl ?_
        refine r_iload_n hk 2 (dtX4_limit_0 22 (42, .iload_n 2, 1) rfl) rfl ?_
        have j55_11 : ∀ (v10 : Int32), (J_X4_limit_55 p1 p3 m9) v10 = some (rv, mE) → G X K 55 [(1, .int p1), (3, .int p3)] [.int v10, .ref (xad X (3, 0, 0, 0))] m9 := by
          intro v10 hF
          unfold J_X4_limit_55 at hF
          refine r_iload_n hk 0 (dtX4_limit_0 27 (55, .iload_n 1, 1) rfl) rfl ?_
          refine r_iadd hk hF (dtX4_limit_0 28 (56, .iadd, 1) rfl) (fun v12 hF => ?_)
          refine r_iload_n hk 1 (dtX4_limit_0 29 (57, .iload_n 3, 1) rfl) rfl ?_
          refine r_callIm hF (fun v13 m14 h H locs ls hH hS hl => run_V (y := yX4_changes) hk (in_mo 0 (by decide)) rfl rfl (c_X4_changes (kl K) hk.2.2.2.2.2.2.2.2.2.2.2 X  v12 p3 m9 v13 m14 h) lk_X4_67 me_X4_changes yf_X4_changes (by decide) (by decide) rfl (Nat.le_of_ble_eq_true rfl) rfl (dtX4_limit_0 30 (58, .invokevirtual 67, 3) rfl) hH hS hl) (fun v13 m14 hF => ?_)
          cases Option.some.inj hF
          exact hR _ _ (dtX4_limit_0 31 (61, .ireturn, 1) rfl)
        refine r_if_eq hk 52 hF (dtX4_limit_0 23 (43, .ifCond .eq 9, 3) rfl) (by decide) (fun hF => ?_) (fun hF => ?_)
        · refine r_sipush (v := 1153) hk (dtX4_limit_0 26 (52, .sipush 1153, 3) rfl) (by decide) ?_
          exact r_sub hk [1, 3] rfl (j55_11 1153 hF)
        · refine r_sipush (v := 1156) hk (dtX4_limit_0 24 (46, .sipush 1156, 3) rfl) (by decide) ?_
          refine r_goto hk 55 (dtX4_limit_0 25 (49, .goto 6, 3) rfl) (by decide) ?_
          exact r_sub hk [1, 3] rfl (j55_11 1156 hF)
      · exact r_sub hk [0] rfl (j31_3 hF)
    refine r_if_eq hk 23 hF (dtX4_limit_0 9 (15, .ifCond .eq 8, 3) rfl) (by decide) (fun hF => ?_) (fun hF => ?_)
    · refine r_bipush (v := 40) hk (dtX4_limit_0 12 (23, .bipush 40, 2) rfl) (by decide) ?_
      exact r_sub hk [0, 1, 2, 3] rfl (j25_7 40 hF)
    · refine r_bipush (v := 8) hk (dtX4_limit_0 10 (18, .bipush 8, 2) rfl) (by decide) ?_
      refine r_goto hk 25 (dtX4_limit_0 11 (20, .goto 5, 3) rfl) (by decide) ?_
      exact r_sub hk [0, 1, 2, 3] rfl (j25_7 8 hF)
set_option maxHeartbeats 4000000 in
set_option maxRecDepth 100000 in
theorem c_X4_append (l : Launch) (hlf : l.stackTraces = false) (X : XW)  (p1 : Int32) (m0 : Mem) (rv : Int32) (mE : Mem) (hF : F_X4_append p1 m0 = some (rv, mE)) : MX X l yX4_append cX4_append 2 (some .int) 1 [.ref (xad X (3, 0, 0, 0)), .int p1] m0 (QI X rv mE) := by
  refine startI hlf (by decide +kernel) rfl [(0, .ref (xad X (3, 0, 0, 0))), (1, .int p1)] rfl (Nat.le_of_ble_eq_true rfl) (fun K hk hR => ?_)
  unfold F_X4_append at hF
  refine r_aload_n hk 0 (dtX4_append_0 0 (0, .aload_n 0, 1) rfl) rfl ?_
  refine r_iconst (v := 0) hk (dtX4_append_0 1 (1, .iconst 0, 1) rfl) (by decide) ?_
  refine r_putI hk (k := 6) (fsX4 X) cbX4 (by decide) fl_X4_25 (in_mo 0 (by decide)) (fun _ => rfl) rfl rfl (fun _ _ _ => rfl) (fun _ _ => (by decide : 6 < 11)) hF (dtX4_append_0 2 (2, .putfield 25, 3) rfl) (fun m1 hF => ?_)
  refine r_iload_n hk 1 (dtX4_append_0 3 (5, .iload_n 1, 1) rfl) rfl ?_
  refine r_bipush (v := 33) hk (dtX4_append_0 4 (6, .bipush 33, 2) rfl) (by decide) ?_
  refine r_bipush (v := 126) hk (dtX4_append_0 5 (8, .bipush 126, 2) rfl) (by decide) ?_
  refine r_callI hF (fun v2 h H locs ls hH hS hl => run_S hk (c_X4_in (kl K) hk.2.2.2.2.2.2.2.2.2.2.2 X  p1 33 126 m1 v2 h) lk_X4_29 me_X4_in yf_X4_in (by decide) (by decide) rfl (Nat.le_of_ble_eq_true rfl) rfl (dtX4_append_0 6 (10, .invokestatic 29, 3) rfl) hH hS hl) (fun v2 hF => ?_)
  refine r_if_ne hk 22 hF (dtX4_append_0 7 (13, .ifCond .ne 9, 3) rfl) (by decide) (fun hF => ?_) (fun hF => ?_)
  · refine r_aload_n hk 0 (dtX4_append_0 12 (22, .aload_n 0, 1) rfl) rfl ?_
    refine r_getI hk (k := 5) (fsX4 X) cbX4 (by decide) fl_X4_92 (in_mo 0 (by decide)) (fun _ => rfl) (fun _ _ => rfl) hF (dtX4_append_0 13 (23, .getfield 92, 3) rfl) (fun v3 hF => ?_)
    refine r_bipush (v := 40) hk (dtX4_append_0 14 (26, .bipush 40, 2) rfl) (by decide) ?_
    refine r_icmp_ne hk 37 hF (dtX4_append_0 15 (28, .if_icmp .ne 9, 3) rfl) (by decide) (fun hF => ?_) (fun hF => ?_)
    · refine r_aload_n hk 0 (dtX4_append_0 20 (37, .aload_n 0, 1) rfl) rfl ?_
      refine r_getR hk (k := 4) (fsX4 X) cbX4 (by decide) fl_X4_19 (in_mo 0 (by decide)) (fun _ => rfl) (fun _ _ => rfl) (dtX4_append_0 21 (38, .getfield 19, 3) rfl) ?_
      refine r_aload_n hk 0 (dtX4_append_0 22 (41, .aload_n 0, 1) rfl) rfl ?_
      refine r_getI hk (k := 5) (fsX4 X) cbX4 (by decide) fl_X4_92 (in_mo 0 (by decide)) (fun _ => rfl) (fun _ _ => rfl) hF (dtX4_append_0 23 (42, .getfield 92, 3) rfl) (fun v4 hF => ?_)
      refine r_iload_n hk 1 (dtX4_append_0 24 (45, .iload_n 1, 1) rfl) rfl ?_
      refine r_iast hk (in_mo 4 (by decide)) (fun _ => rfl) hF (dtX4_append_0 25 (46, .iastore, 1) rfl) (fun m5 hF => ?_)
      refine r_aload_n hk 0 (dtX4_append_0 26 (47, .aload_n 0, 1) rfl) rfl ?_
      refine r_dup hk (dtX4_append_0 27 (48, .dup, 1) rfl) rfl ?_
      refine r_getI hk (k := 5) (fsX4 X) cbX4 (by decide) fl_X4_92 (in_mo 0 (by decide)) (fun _ => rfl) (fun _ _ => rfl) hF (dtX4_append_0 28 (49, .getfield 92, 3) rfl) (fun v6 hF => ?_)
      refine r_iconst (v := 1) hk (dtX4_append_0 29 (52, .iconst 1, 1) rfl) (by decide) ?_
      refine r_iadd hk hF (dtX4_append_0 30 (53, .iadd, 1) rfl) (fun v7 hF => ?_)
      refine r_putI hk (k := 5) (fsX4 X) cbX4 (by decide) fl_X4_92 (in_mo 0 (by decide)) (fun _ => rfl) rfl rfl (fun _ _ _ => rfl) (fun _ _ => (by decide : 5 < 11)) hF (dtX4_append_0 31 (54, .putfield 92, 3) rfl) (fun m8 hF => ?_)
      refine r_aload_n hk 0 (dtX4_append_0 32 (57, .aload_n 0, 1) rfl) rfl ?_
      refine r_getI hk (k := 5) (fsX4 X) cbX4 (by decide) fl_X4_92 (in_mo 0 (by decide)) (fun _ => rfl) (fun _ _ => rfl) hF (dtX4_append_0 33 (58, .getfield 92, 3) rfl) (fun v9 hF => ?_)
      cases Option.some.inj hF
      exact hR _ _ (dtX4_append_0 34 (61, .ireturn, 1) rfl)
    · refine r_aload_n hk 0 (dtX4_append_0 16 (31, .aload_n 0, 1) rfl) rfl ?_
      refine r_iconst (v := 2) hk (dtX4_append_0 17 (32, .iconst 2, 1) rfl) (by decide) ?_
      refine r_callIm hF (fun v10 m11 h H locs ls hH hS hl => run_V (y := yX4_fails) hk (in_mo 0 (by decide)) rfl rfl (c_X4_fails (kl K) hk.2.2.2.2.2.2.2.2.2.2.2 X  2 m1 v10 m11 h) lk_X4_37 me_X4_fails yf_X4_fails (by decide) (by decide) rfl (Nat.le_of_ble_eq_true rfl) rfl (dtX4_append_0 18 (33, .invokevirtual 37, 3) rfl) hH hS hl) (fun v10 m11 hF => ?_)
      cases Option.some.inj hF
      exact hR _ _ (dtX4_append_0 19 (36, .ireturn, 1) rfl)
  · refine r_aload_n hk 0 (dtX4_append_0 8 (16, .aload_n 0, 1) rfl) rfl ?_
    refine r_iconst (v := 1) hk (dtX4_append_0 9 (17, .iconst 1, 1) rfl) (by decide) ?_
    refine r_callIm hF (fun v12 m13 h H locs ls hH hS hl => run_V (y := yX4_fails) hk (in_mo 0 (by decide)) rfl rfl (c_X4_fails (kl K) hk.2.2.2.2.2.2.2.2.2.2.2 X  1 m1 v12 m13 h) lk_X4_37 me_X4_fails yf_X4_fails (by decide) (by decide) rfl (Nat.le_of_ble_eq_true rfl) rfl (dtX4_append_0 10 (18, .invokevirtual 37, 3) rfl) hH hS hl) (fun v12 m13 hF => ?_)
    cases Option.some.inj hF
    exact hR _ _ (dtX4_append_0 11 (21, .ireturn, 1) rfl)
