/-! the walks (written by dec.py) -/
set_option maxHeartbeats 4000000 in
set_option maxRecDepth 100000 in
theorem c_X3_purge (l : Launch) (hlf : l.stackTraces = false) (X : XW)  (p1 : Int32) (m0 : Mem) (rv : Int32 ⊕ Nat) (mE : Mem) (hF : F_X3_purge p1 m0 = some (rv, mE)) : MT X l yX3_purge cX3_purge 3 (some .int) 8 [.ref (xad X (0, 0, 0, 0)), .int p1] m0 rv mE (QTI X rv mE) := by
  refine startTI hlf (by decide +kernel) rfl [(0, .ref (xad X (0, 0, 0, 0))), (1, .int p1)] rfl (Nat.le_of_ble_eq_true rfl) (fun K hk hR hX => ?_)
  unfold F_X3_purge at hF
  refine r_iload_n hk 1 (dtX3_purge_0 0 (0, .iload_n 1, 1) rfl) rfl ?_
  refine r_callI hF (fun v1 h H locs ls hH hS hl => run_S hk (c_X3_isTenant (kl K) hk.2.2.2.2.2.2.2.2.2.2.2 X  p1 m0 v1 h) lk_X3_34 me_X3_isTenant yf_X3_isTenant (by decide) (by decide) rfl (Nat.le_of_ble_eq_true rfl) rfl (dtX3_purge_0 1 (1, .invokestatic 34, 3) rfl) hH hS hl) (fun v1 hF => ?_)
  have j19_4 : ∀ (v2 : Int32) (m3 : Mem), (J_X3_purge_19 p1) v2 m3 = some (rv, mE) → G X K 19 [(0, .ref (xad X (0, 0, 0, 0))), (1, .int p1)] [.int v2] m3 := by
    intro v2 m3 hF
    unfold J_X3_purge_19 at hF
    refine r_callVts hk hF (fun c h => by cases Option.some.inj h; exact hX c rfl) (fun R h hf H locs ls hH hS hl => runT_S hk (c_X3_require (kl K) hk.2.2.2.2.2.2.2.2.2.2.2 X  v2 m3 R h) lk_X3_41 me_X3_require yf_X3_require (by decide) (by decide) rfl (Nat.le_of_ble_eq_true rfl) rfl (dtX3_purge_0 9 (19, .invokestatic 41, 3) rfl) hf hH hS hl) (fun _ hF => ?_)
    refine r_aload_n hk 0 (dtX3_purge_0 10 (22, .aload_n 0, 1) rfl) rfl ?_
    refine r_callRm (fun q => xad X (1, q, 0, 0)) hF (fun q5 m6 h H locs ls hH hS hl => run_V (y := yX3_save) hk (in_main 0 (by decide)) rfl rfl (c_X3_save (kl K) hk.2.2.2.2.2.2.2.2.2.2.2 X   m3 q5 m6 h) lk_X3_45 me_X3_save yf_X3_save (by decide) (by decide) rfl (Nat.le_of_ble_eq_true rfl) rfl (dtX3_purge_0 11 (23, .invokevirtual 45, 3) rfl) hH hS hl) (fun q5 m6 _ hF => ?_)
    obtain ⟨hq5, hF⟩ := bp_some hF
    refine r_pop hk (dtX3_purge_0 12 (26, .pop, 1) rfl) rfl ?_
    refine r_aload_n hk 0 (dtX3_purge_0 13 (27, .aload_n 0, 1) rfl) rfl ?_
    refine r_iload_n hk 1 (dtX3_purge_0 14 (28, .iload_n 1, 1) rfl) rfl ?_
    refine r_callIm hF (fun v7 m8 h H locs ls hH hS hl => run_V (y := yX3_collectAnswers) hk (in_main 0 (by decide)) rfl rfl (c_X3_collectAnswers (kl K) hk.2.2.2.2.2.2.2.2.2.2.2 X  p1 m6 v7 m8 h) lk_X3_163 me_X3_collectAnswers yf_X3_collectAnswers (by decide) (by decide) rfl (Nat.le_of_ble_eq_true rfl) rfl (dtX3_purge_0 15 (29, .invokevirtual 163, 3) rfl) hH hS hl) (fun v7 m8 hF => ?_)
    refine r_istore_n hk [(2, .int v7), (0, .ref (xad X (0, 0, 0, 0))), (1, .int p1)] (dtX3_purge_0 16 (32, .istore_n 2, 1) rfl) (by decide) rfl ?_
    refine r_aload_n hk 1 (dtX3_purge_0 17 (33, .aload_n 0, 1) rfl) rfl ?_
    refine r_getS hk fl_X3_30 hF (dtX3_purge_0 18 (34, .getfield 30, 3) rfl) (fun q9 hq9 hF => ?_)
    refine r_aload_n hk 1 (dtX3_purge_0 19 (37, .aload_n 0, 1) rfl) rfl ?_
    refine r_getR hk (k := 3) (fsX3 X) cbX3 (by decide) fl_X3_26 (in_main 0 (by decide)) (fun _ => rfl) (fun _ _ => rfl) (dtX3_purge_0 20 (38, .getfield 26, 3) rfl) ?_
    refine r_iload_n hk 0 (dtX3_purge_0 21 (41, .iload_n 2, 1) rfl) rfl ?_
    refine r_callVm hF (fun w m10 h H locs ls hH hS hl => run_V (y := yX1_removeRows) hk (in_st q9 hq9 0 (by decide)) rfl rfl (c_X1_removeRows (kl K) hk.2.2.2.2.2.2.2.2.2.2.2 X q9 hq9 v7 m8 w m10 h) lk_X3_137 me_X1_removeRows yf_X1_removeRows (by decide) (by decide) rfl (Nat.le_of_ble_eq_true rfl) rfl (dtX3_purge_0 22 (42, .invokevirtual 137, 3) rfl) hH hS hl) (fun _ m10 hF => ?_)
    refine r_iload_n hk 0 (dtX3_purge_0 23 (45, .iload_n 2, 1) rfl) rfl ?_
    cases Option.some.inj hF
    exact hR v7 rfl _ _ (dtX3_purge_0 24 (46, .ireturn, 1) rfl)
  have j18_12 : ∀ (m11 : Mem), (J_X3_purge_18 p1) m11 = some (rv, mE) → G X K 18 [(0, .ref (xad X (0, 0, 0, 0))), (1, .int p1)] [] m11 := by
    intro m11 hF
    unfold J_X3_purge_18 at hF
    refine r_iconst (v := 0) hk (dtX3_purge_0 8 (18, .iconst 0, 1) rfl) (by decide) ?_
    exact r_sub hk [0, 1] rfl (j19_4 0 m11 hF)
  refine r_if_eq hk 18 hF (dtX3_purge_0 2 (4, .ifCond .eq 14, 3) rfl) (by decide) (fun hF => ?_) (fun hF => ?_)
  · exact r_sub hk [0, 1] rfl (j18_12 m0 hF)
  · refine r_aload_n hk 0 (dtX3_purge_0 3 (7, .aload_n 0, 1) rfl) rfl ?_
    refine r_callIm hF (fun v13 m14 h H locs ls hH hS hl => run_V (y := yX3_readQuestion) hk (in_main 0 (by decide)) rfl rfl (c_X3_readQuestion (kl K) hk.2.2.2.2.2.2.2.2.2.2.2 X   m0 v13 m14 h) lk_X3_159 me_X3_readQuestion yf_X3_readQuestion (by decide) (by decide) rfl (Nat.le_of_ble_eq_true rfl) rfl (dtX3_purge_0 4 (8, .invokevirtual 159, 3) rfl) hH hS hl) (fun v13 m14 hF => ?_)
    refine r_if_eq hk 18 hF (dtX3_purge_0 5 (11, .ifCond .eq 7, 3) rfl) (by decide) (fun hF => ?_) (fun hF => ?_)
    · exact r_sub hk [0, 1] rfl (j18_12 m14 hF)
    · refine r_iconst (v := 1) hk (dtX3_purge_0 6 (14, .iconst 1, 1) rfl) (by decide) ?_
      refine r_goto hk 19 (dtX3_purge_0 7 (15, .goto 4, 3) rfl) (by decide) ?_
      exact r_sub hk [0, 1] rfl (j19_4 1 m14 hF)
set_option maxHeartbeats 4000000 in
set_option maxRecDepth 100000 in
theorem c_X3_undo (l : Launch) (hlf : l.stackTraces = false) (X : XW)   (m0 : Mem) (rv : Int32 ⊕ Nat) (mE : Mem) (hF : F_X3_undo m0 = some (rv, mE)) : MT X l yX3_undo cX3_undo 2 (some .int) 7 [.ref (xad X (0, 0, 0, 0))] m0 rv mE (QTI X rv mE) := by
  refine startTI hlf (by decide +kernel) rfl [(0, .ref (xad X (0, 0, 0, 0)))] rfl (Nat.le_of_ble_eq_true rfl) (fun K hk hR hX => ?_)
  unfold F_X3_undo at hF
  refine r_aload_n hk 0 (dtX3_undo_0 0 (0, .aload_n 0, 1) rfl) rfl ?_
  refine r_getI hk (k := 5) (fsX3 X) cbX3 (by decide) fl_X3_179 (in_main 0 (by decide)) (fun _ => rfl) (fun _ _ => rfl) hF (dtX3_undo_0 1 (1, .getfield 179, 3) rfl) (fun v1 hF => ?_)
  refine r_if_gt hk 17 hF (dtX3_undo_0 2 (4, .ifCond .gt 13, 3) rfl) (by decide) (fun hF => ?_) (fun hF => ?_)
  · refine r_aload_n hk 0 (dtX3_undo_0 8 (17, .aload_n 0, 1) rfl) rfl ?_
    refine r_dup hk (dtX3_undo_0 9 (18, .dup, 1) rfl) rfl ?_
    refine r_getI hk (k := 5) (fsX3 X) cbX3 (by decide) fl_X3_179 (in_main 0 (by decide)) (fun _ => rfl) (fun _ _ => rfl) hF (dtX3_undo_0 10 (19, .getfield 179, 3) rfl) (fun v2 hF => ?_)
    refine r_iconst (v := 1) hk (dtX3_undo_0 11 (22, .iconst 1, 1) rfl) (by decide) ?_
    refine r_isub hk hF (dtX3_undo_0 12 (23, .isub, 1) rfl) (fun v3 hF => ?_)
    refine r_putI hk (k := 5) (fsX3 X) cbX3 (by decide) fl_X3_179 (in_main 0 (by decide)) (fun _ => rfl) rfl rfl (fun _ _ _ => rfl) (fun _ _ => (by decide : 5 < 7)) hF (dtX3_undo_0 13 (24, .putfield 179, 3) rfl) (fun m4 hF => ?_)
    refine r_aload_n hk 0 (dtX3_undo_0 14 (27, .aload_n 0, 1) rfl) rfl ?_
    refine r_getR hk (k := 0) (fsX3 X) cbX3 (by decide) fl_X3_11 (in_main 0 (by decide)) (fun _ => rfl) (fun _ _ => rfl) (dtX3_undo_0 15 (28, .getfield 11, 3) rfl) ?_
    refine r_aload_n hk 0 (dtX3_undo_0 16 (31, .aload_n 0, 1) rfl) rfl ?_
    refine r_getI hk (k := 5) (fsX3 X) cbX3 (by decide) fl_X3_179 (in_main 0 (by decide)) (fun _ => rfl) (fun _ _ => rfl) hF (dtX3_undo_0 17 (32, .getfield 179, 3) rfl) (fun v5 hF => ?_)
    refine r_aldS hk hF (dtX3_undo_0 18 (35, .aaload, 1) rfl) (fun q6 hq6 hF => ?_)
    refine r_astore_n hk [(1, .ref (xad X (1, q6, 0, 0))), (0, .ref (xad X (0, 0, 0, 0)))] (dtX3_undo_0 19 (36, .astore_n 1, 1) rfl) (by decide) rfl ?_
    refine r_aload_n hk 1 (dtX3_undo_0 20 (37, .aload_n 0, 1) rfl) rfl ?_
    refine r_getR hk (k := 0) (fsX3 X) cbX3 (by decide) fl_X3_11 (in_main 0 (by decide)) (fun _ => rfl) (fun _ _ => rfl) (dtX3_undo_0 21 (38, .getfield 11, 3) rfl) ?_
    refine r_aload_n hk 1 (dtX3_undo_0 22 (41, .aload_n 0, 1) rfl) rfl ?_
    refine r_getI hk (k := 5) (fsX3 X) cbX3 (by decide) fl_X3_179 (in_main 0 (by decide)) (fun _ => rfl) (fun _ _ => rfl) hF (dtX3_undo_0 23 (42, .getfield 179, 3) rfl) (fun v7 hF => ?_)
    refine r_aload_n hk 1 (dtX3_undo_0 24 (45, .aload_n 0, 1) rfl) rfl ?_
    refine r_getS hk fl_X3_30 hF (dtX3_undo_0 25 (46, .getfield 30, 3) rfl) (fun q8 hq8 hF => ?_)
    refine r_aastS hk hq8 hF (dtX3_undo_0 26 (49, .aastore, 1) rfl) (fun m9 hF => ?_)
    refine r_aload_n hk 1 (dtX3_undo_0 27 (50, .aload_n 0, 1) rfl) rfl ?_
    refine r_aload_n hk 0 (dtX3_undo_0 28 (51, .aload_n 1, 1) rfl) rfl ?_
    refine r_putS hk fl_X3_30 hF (dtX3_undo_0 29 (52, .putfield 30, 3) rfl) (fun m10 hF => ?_)
    refine r_aload_n hk 1 (dtX3_undo_0 30 (55, .aload_n 0, 1) rfl) rfl ?_
    refine r_getI hk (k := 5) (fsX3 X) cbX3 (by decide) fl_X3_179 (in_main 0 (by decide)) (fun _ => rfl) (fun _ _ => rfl) hF (dtX3_undo_0 31 (56, .getfield 179, 3) rfl) (fun v11 hF => ?_)
    cases Option.some.inj hF
    exact hR v11 rfl _ _ (dtX3_undo_0 32 (59, .ireturn, 1) rfl)
  · cases Option.some.inj hF
    exact (hX 1 rfl).2.2.1 _ _ _ _ _ _ _ th_X3_148_152 th_X3_148_152_g (hk.2.2.2.2.2.1.2.2.2.2.2.1) (by decide) (Nat.le_of_ble_eq_true rfl) (dtX3_undo_0 3 (7, .new 148, 3) rfl) (dtX3_undo_0 4 (10, .dup, 1) rfl) (dtX3_undo_0 5 (11, .ldc 182, 2) rfl) (dtX3_undo_0 6 (13, .invokespecial 152, 3) rfl) (dtX3_undo_0 7 (16, .athrow, 1) rfl)
set_option maxHeartbeats 4000000 in
set_option maxRecDepth 100000 in
theorem c_X3_answer (l : Launch) (hlf : l.stackTraces = false) (X : XW)  (p1 : Int32) (p2 : Int32) (p3 : Int32) (m0 : Mem) (rv : Int32 ⊕ Nat) (mE : Mem) (hF : F_X3_answer p1 p2 p3 m0 = some (rv, mE)) : MT X l yX3_answer cX3_answer 5 (some .int) 8 [.ref (xad X (0, 0, 0, 0)), .int p1, .int p2, .int p3] m0 rv mE (QTI X rv mE) := by
  refine startTI hlf (by decide +kernel) rfl [(0, .ref (xad X (0, 0, 0, 0))), (1, .int p1), (2, .int p2), (3, .int p3)] rfl (Nat.le_of_ble_eq_true rfl) (fun K hk hR hX => ?_)
  unfold F_X3_answer at hF
  refine r_iload_n hk 1 (dtX3_answer_0 0 (0, .iload_n 1, 1) rfl) rfl ?_
  refine r_callI hF (fun v1 h H locs ls hH hS hl => run_S hk (c_X3_isTenant (kl K) hk.2.2.2.2.2.2.2.2.2.2.2 X  p1 m0 v1 h) lk_X3_34 me_X3_isTenant yf_X3_isTenant (by decide) (by decide) rfl (Nat.le_of_ble_eq_true rfl) rfl (dtX3_answer_0 1 (1, .invokestatic 34, 3) rfl) hH hS hl) (fun v1 hF => ?_)
  have j28_3 : ∀ (v2 : Int32), (J_X3_answer_28 p1 p2 p3 m0) v2 = some (rv, mE) → G X K 28 [(0, .ref (xad X (0, 0, 0, 0))), (1, .int p1), (2, .int p2), (3, .int p3)] [.int v2] m0 := by
    intro v2 hF
    unfold J_X3_answer_28 at hF
    refine r_callVts hk hF (fun c h => by cases Option.some.inj h; exact hX c rfl) (fun R h hf H locs ls hH hS hl => runT_S hk (c_X3_require (kl K) hk.2.2.2.2.2.2.2.2.2.2.2 X  v2 m0 R h) lk_X3_41 me_X3_require yf_X3_require (by decide) (by decide) rfl (Nat.le_of_ble_eq_true rfl) rfl (dtX3_answer_0 14 (28, .invokestatic 41, 3) rfl) hf hH hS hl) (fun _ hF => ?_)
    refine r_aload_n hk 0 (dtX3_answer_0 15 (31, .aload_n 0, 1) rfl) rfl ?_
    refine r_callIm hF (fun v4 m5 h H locs ls hH hS hl => run_V (y := yX3_readQuestion) hk (in_main 0 (by decide)) rfl rfl (c_X3_readQuestion (kl K) hk.2.2.2.2.2.2.2.2.2.2.2 X   m0 v4 m5 h) lk_X3_159 me_X3_readQuestion yf_X3_readQuestion (by decide) (by decide) rfl (Nat.le_of_ble_eq_true rfl) rfl (dtX3_answer_0 16 (32, .invokevirtual 159, 3) rfl) hH hS hl) (fun v4 m5 hF => ?_)
    refine r_if_ne hk 40 hF (dtX3_answer_0 17 (35, .ifCond .ne 5, 3) rfl) (by decide) (fun hF => ?_) (fun hF => ?_)
    · refine r_aload_n hk 0 (dtX3_answer_0 20 (40, .aload_n 0, 1) rfl) rfl ?_
      refine r_iload_n hk 1 (dtX3_answer_0 21 (41, .iload_n 1, 1) rfl) rfl ?_
      refine r_callIm hF (fun v6 m7 h H locs ls hH hS hl => run_V (y := yX3_collectAnswers) hk (in_main 0 (by decide)) rfl rfl (c_X3_collectAnswers (kl K) hk.2.2.2.2.2.2.2.2.2.2.2 X  p1 m5 v6 m7 h) lk_X3_163 me_X3_collectAnswers yf_X3_collectAnswers (by decide) (by decide) rfl (Nat.le_of_ble_eq_true rfl) rfl (dtX3_answer_0 22 (42, .invokevirtual 163, 3) rfl) hH hS hl) (fun v6 m7 hF => ?_)
      refine r_istore hk [(4, .int v6), (0, .ref (xad X (0, 0, 0, 0))), (1, .int p1), (2, .int p2), (3, .int p3)] (dtX3_answer_0 23 (45, .istore 4, 2) rfl) (by decide) rfl ?_
      refine r_iload_n hk 3 (dtX3_answer_0 24 (47, .iload_n 2, 1) rfl) rfl ?_
      refine r_iconst (v := (-1)) hk (dtX3_answer_0 25 (48, .iconst (-1), 1) rfl) (by decide) ?_
      have j71_9 : ∀ (m8 : Mem), (J_X3_answer_71 p3 v6) m8 = some (rv, mE) → G X K 71 [(0, .ref (xad X (0, 0, 0, 0))), (3, .int p3), (4, .int v6)] [] m8 := by
        intro m8 hF
        unfold J_X3_answer_71 at hF
        refine r_aload_n hk 0 (dtX3_answer_0 37 (71, .aload_n 0, 1) rfl) rfl ?_
        refine r_iload_n hk 1 (dtX3_answer_0 38 (72, .iload_n 3, 1) rfl) rfl ?_
        refine r_iload hk 2 (dtX3_answer_0 39 (73, .iload 4, 2) rfl) rfl ?_
        refine r_callI hF (fun v10 h H locs ls hH hS hl => run_V (y := yX3_answerAt) hk (in_main 0 (by decide)) rfl rfl (c_X3_answerAt (kl K) hk.2.2.2.2.2.2.2.2.2.2.2 X  p3 v6 m8 v10 h) lk_X3_201 me_X3_answerAt yf_X3_answerAt (by decide) (by decide) rfl (Nat.le_of_ble_eq_true rfl) rfl (dtX3_answer_0 40 (75, .invokevirtual 201, 3) rfl) hH hS hl) (fun v10 hF => ?_)
        cases Option.some.inj hF
        exact hR v10 rfl _ _ (dtX3_answer_0 41 (78, .ireturn, 1) rfl)
      refine r_icmp_eq hk 71 hF (dtX3_answer_0 26 (49, .if_icmp .eq 22, 3) rfl) (by decide) (fun hF => ?_) (fun hF => ?_)
      · exact r_sub hk [1, 4, 0] rfl (j71_9 m7 hF)
      · refine r_aload_n hk 1 (dtX3_answer_0 27 (52, .aload_n 0, 1) rfl) rfl ?_
        refine r_iload hk 0 (dtX3_answer_0 28 (53, .iload 4, 2) rfl) rfl ?_
        refine r_aload_n hk 1 (dtX3_answer_0 29 (55, .aload_n 0, 1) rfl) rfl ?_
        refine r_getS hk fl_X3_30 hF (dtX3_answer_0 30 (56, .getfield 30, 3) rfl) (fun q11 hq11 hF => ?_)
        refine r_getR hk (k := 0) (fsX1 X q11) cbX1 (by decide) fl_X3_49 (in_st q11 hq11 0 (by decide)) (fun _ => rfl) (fun _ _ => rfl) (dtX3_answer_0 31 (59, .getfield 49, 3) rfl) ?_
        refine r_iload_n hk 2 (dtX3_answer_0 32 (62, .iload_n 1, 1) rfl) rfl ?_
        refine r_aldT hk hq11 hF (dtX3_answer_0 33 (63, .aaload, 1) rfl) (fun q12 hq12 hF => ?_)
        refine r_iload_n hk 3 (dtX3_answer_0 34 (64, .iload_n 2, 1) rfl) rfl ?_
        refine r_callI hF (fun v13 h H locs ls hH hS hl => run_V (y := yX2_columnOf) hk (in_tn q11 hq11 q12 hq12 0 (by decide)) rfl rfl (c_X2_columnOf (kl K) hk.2.2.2.2.2.2.2.2.2.2.2 X q11 hq11 q12 hq12 p2 m7 v13 h) lk_X3_67 me_X2_columnOf yf_X2_columnOf (by decide) (by decide) rfl (Nat.le_of_ble_eq_true rfl) rfl (dtX3_answer_0 35 (65, .invokevirtual 67, 3) rfl) hH hS hl) (fun v13 hF => ?_)
        refine r_callVm hF (fun w m14 h H locs ls hH hS hl => run_V (y := yX3_sortAnswers) hk (in_main 0 (by decide)) rfl rfl (c_X3_sortAnswers (kl K) hk.2.2.2.2.2.2.2.2.2.2.2 X  v6 v13 m7 w m14 h) lk_X3_197 me_X3_sortAnswers yf_X3_sortAnswers (by decide) (by decide) rfl (Nat.le_of_ble_eq_true rfl) rfl (dtX3_answer_0 36 (68, .invokevirtual 197, 3) rfl) hH hS hl) (fun _ m14 hF => ?_)
        exact r_sub hk [1, 4, 0] rfl (j71_9 m14 hF)
    · refine r_iconst (v := (-1)) hk (dtX3_answer_0 18 (38, .iconst (-1), 1) rfl) (by decide) ?_
      cases Option.some.inj hF
      exact hR (-1) rfl _ _ (dtX3_answer_0 19 (39, .ireturn, 1) rfl)
  have j27_15 : (J_X3_answer_27 p1 p2 p3 m0) = some (rv, mE) → G X K 27 [(0, .ref (xad X (0, 0, 0, 0))), (1, .int p1), (2, .int p2), (3, .int p3)] [] m0 := by
    intro hF
    unfold J_X3_answer_27 at hF
    refine r_iconst (v := 0) hk (dtX3_answer_0 13 (27, .iconst 0, 1) rfl) (by decide) ?_
    exact r_sub hk [0, 1, 2, 3] rfl (j28_3 0 hF)
  refine r_if_eq hk 27 hF (dtX3_answer_0 2 (4, .ifCond .eq 23, 3) rfl) (by decide) (fun hF => ?_) (fun hF => ?_)
  · exact r_sub hk [0, 1, 2, 3] rfl (j27_15 hF)
  · refine r_iload_n hk 2 (dtX3_answer_0 3 (7, .iload_n 2, 1) rfl) rfl ?_
    refine r_iconst (v := (-1)) hk (dtX3_answer_0 4 (8, .iconst (-1), 1) rfl) (by decide) ?_
    have j19_16 : (J_X3_answer_19 p1 p2 p3 m0) = some (rv, mE) → G X K 19 [(0, .ref (xad X (0, 0, 0, 0))), (1, .int p1), (2, .int p2), (3, .int p3)] [] m0 := by
      intro hF
      unfold J_X3_answer_19 at hF
      refine r_iload_n hk 3 (dtX3_answer_0 9 (19, .iload_n 3, 1) rfl) rfl ?_
      refine r_if_lt hk 27 hF (dtX3_answer_0 10 (20, .ifCond .lt 7, 3) rfl) (by decide) (fun hF => ?_) (fun hF => ?_)
      · exact r_sub hk [0, 1, 2, 3] rfl (j27_15 hF)
      · refine r_iconst (v := 1) hk (dtX3_answer_0 11 (23, .iconst 1, 1) rfl) (by decide) ?_
        refine r_goto hk 28 (dtX3_answer_0 12 (24, .goto 4, 3) rfl) (by decide) ?_
        exact r_sub hk [0, 1, 2, 3] rfl (j28_3 1 hF)
    refine r_icmp_eq hk 19 hF (dtX3_answer_0 5 (9, .if_icmp .eq 10, 3) rfl) (by decide) (fun hF => ?_) (fun hF => ?_)
    · exact r_sub hk [0, 1, 2, 3] rfl (j19_16 hF)
    · refine r_iload_n hk 2 (dtX3_answer_0 6 (12, .iload_n 2, 1) rfl) rfl ?_
      refine r_callI hF (fun v17 h H locs ls hH hS hl => run_S hk (c_X3_isLetter (kl K) hk.2.2.2.2.2.2.2.2.2.2.2 X  p2 m0 v17 h) lk_X3_38 me_X3_isLetter yf_X3_isLetter (by decide) (by decide) rfl (Nat.le_of_ble_eq_true rfl) rfl (dtX3_answer_0 7 (13, .invokestatic 38, 3) rfl) hH hS hl) (fun v17 hF => ?_)
      refine r_if_eq hk 27 hF (dtX3_answer_0 8 (16, .ifCond .eq 11, 3) rfl) (by decide) (fun hF => ?_) (fun hF => ?_)
      · exact r_sub hk [0, 1, 2, 3] rfl (j27_15 hF)
      · exact r_sub hk [0, 1, 2, 3] rfl (j19_16 hF)
set_option maxHeartbeats 4000000 in
set_option maxRecDepth 100000 in
theorem c_X3_looked (l : Launch) (hlf : l.stackTraces = false) (X : XW)  (p1 : Int32) (p2 : Int32) (m0 : Mem) (rv : Int32 ⊕ Nat) (mE : Mem) (hF : F_X3_looked p1 p2 m0 = some (rv, mE)) : MT X l yX3_looked cX3_looked 3 (some .int) 8 [.ref (xad X (0, 0, 0, 0)), .int p1, .int p2] m0 rv mE (QTI X rv mE) := by
  refine startTI hlf (by decide +kernel) rfl [(0, .ref (xad X (0, 0, 0, 0))), (1, .int p1), (2, .int p2)] rfl (Nat.le_of_ble_eq_true rfl) (fun K hk hR hX => ?_)
  unfold F_X3_looked at hF
  refine r_iload_n hk 1 (dtX3_looked_0 0 (0, .iload_n 1, 1) rfl) rfl ?_
  refine r_callI hF (fun v1 h H locs ls hH hS hl => run_S hk (c_X3_isTenant (kl K) hk.2.2.2.2.2.2.2.2.2.2.2 X  p1 m0 v1 h) lk_X3_34 me_X3_isTenant yf_X3_isTenant (by decide) (by decide) rfl (Nat.le_of_ble_eq_true rfl) rfl (dtX3_looked_0 1 (1, .invokestatic 34, 3) rfl) hH hS hl) (fun v1 hF => ?_)
  refine r_callVts hk hF (fun c h => by cases Option.some.inj h; exact hX c rfl) (fun R h hf H locs ls hH hS hl => runT_S hk (c_X3_require (kl K) hk.2.2.2.2.2.2.2.2.2.2.2 X  v1 m0 R h) lk_X3_41 me_X3_require yf_X3_require (by decide) (by decide) rfl (Nat.le_of_ble_eq_true rfl) rfl (dtX3_looked_0 2 (4, .invokestatic 41, 3) rfl) hf hH hS hl) (fun _ hF => ?_)
  refine r_aload_n hk 0 (dtX3_looked_0 3 (7, .aload_n 0, 1) rfl) rfl ?_
  refine r_callIm hF (fun v2 m3 h H locs ls hH hS hl => run_V (y := yX3_readQuestion) hk (in_main 0 (by decide)) rfl rfl (c_X3_readQuestion (kl K) hk.2.2.2.2.2.2.2.2.2.2.2 X   m0 v2 m3 h) lk_X3_159 me_X3_readQuestion yf_X3_readQuestion (by decide) (by decide) rfl (Nat.le_of_ble_eq_true rfl) rfl (dtX3_looked_0 4 (8, .invokevirtual 159, 3) rfl) hH hS hl) (fun v2 m3 hF => ?_)
  refine r_if_ne hk 16 hF (dtX3_looked_0 5 (11, .ifCond .ne 5, 3) rfl) (by decide) (fun hF => ?_) (fun hF => ?_)
  · refine r_aload_n hk 0 (dtX3_looked_0 8 (16, .aload_n 0, 1) rfl) rfl ?_
    refine r_iload_n hk 1 (dtX3_looked_0 9 (17, .iload_n 1, 1) rfl) rfl ?_
    refine r_iload_n hk 2 (dtX3_looked_0 10 (18, .iload_n 2, 1) rfl) rfl ?_
    have j42_5 : ∀ (v4 : Int32), (J_X3_looked_42 p1 m3) v4 = some (rv, mE) → G X K 42 [] [.int v4, .int p1, .ref (xad X (0, 0, 0, 0))] m3 := by
      intro v4 hF
      unfold J_X3_looked_42 at hF
      refine r_iconst (v := (-1)) hk (dtX3_looked_0 22 (42, .iconst (-1), 1) rfl) (by decide) ?_
      refine r_callI hF (fun v6 h H locs ls hH hS hl => run_V (y := yX3_rowsToLookAt) hk (in_main 0 (by decide)) rfl rfl (c_X3_rowsToLookAt (kl K) hk.2.2.2.2.2.2.2.2.2.2.2 X  p1 v4 (-1) m3 v6 h) lk_X3_172 me_X3_rowsToLookAt yf_X3_rowsToLookAt (by decide) (by decide) rfl (Nat.le_of_ble_eq_true rfl) rfl (dtX3_looked_0 23 (43, .invokevirtual 172, 3) rfl) hH hS hl) (fun v6 hF => ?_)
      cases Option.some.inj hF
      exact hR v6 rfl _ _ (dtX3_looked_0 24 (46, .ireturn, 1) rfl)
    have j37_7 : (J_X3_looked_37 p1 m3) = some (rv, mE) → G X K 37 [] [.int p1, .ref (xad X (0, 0, 0, 0))] m3 := by
      intro hF
      unfold J_X3_looked_37 at hF
      refine r_iconst (v := 1) hk (dtX3_looked_0 19 (37, .iconst 1, 1) rfl) (by decide) ?_
      refine r_goto hk 42 (dtX3_looked_0 20 (38, .goto 4, 3) rfl) (by decide) ?_
      exact r_sub hk [] rfl (j42_5 1 hF)
    refine r_if_ne hk 37 hF (dtX3_looked_0 11 (19, .ifCond .ne 18, 3) rfl) (by decide) (fun hF => ?_) (fun hF => ?_)
    · exact r_sub hk [] rfl (j37_7 hF)
    · refine r_aload_n hk 0 (dtX3_looked_0 12 (22, .aload_n 0, 1) rfl) rfl ?_
      refine r_getS hk fl_X3_30 hF (dtX3_looked_0 13 (23, .getfield 30, 3) rfl) (fun q8 hq8 hF => ?_)
      refine r_getR hk (k := 0) (fsX1 X q8) cbX1 (by decide) fl_X3_49 (in_st q8 hq8 0 (by decide)) (fun _ => rfl) (fun _ _ => rfl) (dtX3_looked_0 14 (26, .getfield 49, 3) rfl) ?_
      refine r_iload_n hk 1 (dtX3_looked_0 15 (29, .iload_n 1, 1) rfl) rfl ?_
      refine r_aldT hk hq8 hF (dtX3_looked_0 16 (30, .aaload, 1) rfl) (fun q9 hq9 hF => ?_)
      refine r_getI hk (k := 5) (fsX2 X q8 q9) cbX2 (by decide) fl_X3_106 (in_tn q8 hq8 q9 hq9 0 (by decide)) (fun _ => rfl) (fun _ _ => rfl) hF (dtX3_looked_0 17 (31, .getfield 106, 3) rfl) (fun v10 hF => ?_)
      refine r_if_eq hk 41 hF (dtX3_looked_0 18 (34, .ifCond .eq 7, 3) rfl) (by decide) (fun hF => ?_) (fun hF => ?_)
      · refine r_iconst (v := 0) hk (dtX3_looked_0 21 (41, .iconst 0, 1) rfl) (by decide) ?_
        exact r_sub hk [] rfl (j42_5 0 hF)
      · exact r_sub hk [] rfl (j37_7 hF)
  · refine r_iconst (v := (-1)) hk (dtX3_looked_0 6 (14, .iconst (-1), 1) rfl) (by decide) ?_
    cases Option.some.inj hF
    exact hR (-1) rfl _ _ (dtX3_looked_0 7 (15, .ireturn, 1) rfl)
set_option maxHeartbeats 4000000 in
set_option maxRecDepth 100000 in
theorem c_X3_bestIndex (l : Launch) (hlf : l.stackTraces = false) (X : XW)  (p1 : Int32) (m0 : Mem) (rv : Int32 ⊕ Nat) (mE : Mem) (hF : F_X3_bestIndex p1 m0 = some (rv, mE)) : MT X l yX3_bestIndex cX3_bestIndex 2 (some .int) 8 [.ref (xad X (0, 0, 0, 0)), .int p1] m0 rv mE (QTI X rv mE) := by
  refine startTI hlf (by decide +kernel) rfl [(0, .ref (xad X (0, 0, 0, 0))), (1, .int p1)] rfl (Nat.le_of_ble_eq_true rfl) (fun K hk hR hX => ?_)
  unfold F_X3_bestIndex at hF
  refine r_iload_n hk 1 (dtX3_bestIndex_0 0 (0, .iload_n 1, 1) rfl) rfl ?_
  refine r_callI hF (fun v1 h H locs ls hH hS hl => run_S hk (c_X3_isTenant (kl K) hk.2.2.2.2.2.2.2.2.2.2.2 X  p1 m0 v1 h) lk_X3_34 me_X3_isTenant yf_X3_isTenant (by decide) (by decide) rfl (Nat.le_of_ble_eq_true rfl) rfl (dtX3_bestIndex_0 1 (1, .invokestatic 34, 3) rfl) hH hS hl) (fun v1 hF => ?_)
  refine r_callVts hk hF (fun c h => by cases Option.some.inj h; exact hX c rfl) (fun R h hf H locs ls hH hS hl => runT_S hk (c_X3_require (kl K) hk.2.2.2.2.2.2.2.2.2.2.2 X  v1 m0 R h) lk_X3_41 me_X3_require yf_X3_require (by decide) (by decide) rfl (Nat.le_of_ble_eq_true rfl) rfl (dtX3_bestIndex_0 2 (4, .invokestatic 41, 3) rfl) hf hH hS hl) (fun _ hF => ?_)
  refine r_aload_n hk 0 (dtX3_bestIndex_0 3 (7, .aload_n 0, 1) rfl) rfl ?_
  refine r_callIm hF (fun v2 m3 h H locs ls hH hS hl => run_V (y := yX3_readQuestion) hk (in_main 0 (by decide)) rfl rfl (c_X3_readQuestion (kl K) hk.2.2.2.2.2.2.2.2.2.2.2 X   m0 v2 m3 h) lk_X3_159 me_X3_readQuestion yf_X3_readQuestion (by decide) (by decide) rfl (Nat.le_of_ble_eq_true rfl) rfl (dtX3_bestIndex_0 4 (8, .invokevirtual 159, 3) rfl) hH hS hl) (fun v2 m3 hF => ?_)
  have j23_5 : ∀ (v4 : Int32), (J_X3_bestIndex_23 m3) v4 = some (rv, mE) → G X K 23 [] [.int v4] m3 := by
    intro v4 hF
    unfold J_X3_bestIndex_23 at hF
    cases Option.some.inj hF
    exact hR v4 rfl _ _ (dtX3_bestIndex_0 11 (23, .ireturn, 1) rfl)
  refine r_if_eq hk 22 hF (dtX3_bestIndex_0 5 (11, .ifCond .eq 11, 3) rfl) (by decide) (fun hF => ?_) (fun hF => ?_)
  · refine r_iconst (v := (-1)) hk (dtX3_bestIndex_0 10 (22, .iconst (-1), 1) rfl) (by decide) ?_
    exact r_sub hk [] rfl (j23_5 (-1) hF)
  · refine r_aload_n hk 0 (dtX3_bestIndex_0 6 (14, .aload_n 0, 1) rfl) rfl ?_
    refine r_iload_n hk 1 (dtX3_bestIndex_0 7 (15, .iload_n 1, 1) rfl) rfl ?_
    refine r_callI hF (fun v6 h H locs ls hH hS hl => run_V (y := yX3_bestLetter) hk (in_main 0 (by decide)) rfl rfl (c_X3_bestLetter (kl K) hk.2.2.2.2.2.2.2.2.2.2.2 X  p1 m3 v6 h) lk_X3_219 me_X3_bestLetter yf_X3_bestLetter (by decide) (by decide) rfl (Nat.le_of_ble_eq_true rfl) rfl (dtX3_bestIndex_0 8 (16, .invokevirtual 219, 3) rfl) hH hS hl) (fun v6 hF => ?_)
    refine r_goto hk 23 (dtX3_bestIndex_0 9 (19, .goto 4, 3) rfl) (by decide) ?_
    exact r_sub hk [] rfl (j23_5 v6 hF)
set_option maxHeartbeats 4000000 in
set_option maxRecDepth 100000 in
theorem c_X4_thrown (l : Launch) (hlf : l.stackTraces = false) (X : XW)   (m0 : Mem) (rv : Int32) (hF : F_X4_thrown m0 = some rv) : MX X l yX4_thrown cX4_thrown 1 (some .int) 0 [.ref (xad X (3, 0, 0, 0))] m0 (QI X rv m0) := by
  refine startI hlf (by decide +kernel) rfl [(0, .ref (xad X (3, 0, 0, 0)))] rfl (Nat.le_of_ble_eq_true rfl) (fun K hk hR => ?_)
  unfold F_X4_thrown at hF
  refine r_aload_n hk 0 (dtX4_thrown_0 0 (0, .aload_n 0, 1) rfl) rfl ?_
  refine r_getI hk (k := 6) (fsX4 X) cbX4 (by decide) fl_X4_25 (in_mo 0 (by decide)) (fun _ => rfl) (fun _ _ => rfl) hF (dtX4_thrown_0 1 (1, .getfield 25, 3) rfl) (fun v1 hF => ?_)
  cases Option.some.inj hF
  exact hR _ _ (dtX4_thrown_0 2 (4, .ireturn, 1) rfl)
set_option maxHeartbeats 4000000 in
set_option maxRecDepth 100000 in
theorem c_X4_fails (l : Launch) (hlf : l.stackTraces = false) (X : XW)  (p1 : Int32) (m0 : Mem) (rv : Int32) (mE : Mem) (hF : F_X4_fails p1 m0 = some (rv, mE)) : MX X l yX4_fails cX4_fails 2 (some .int) 0 [.ref (xad X (3, 0, 0, 0)), .int p1] m0 (QI X rv mE) := by
  refine startI hlf (by decide +kernel) rfl [(0, .ref (xad X (3, 0, 0, 0))), (1, .int p1)] rfl (Nat.le_of_ble_eq_true rfl) (fun K hk hR => ?_)
  unfold F_X4_fails at hF
  refine r_aload_n hk 0 (dtX4_fails_0 0 (0, .aload_n 0, 1) rfl) rfl ?_
  refine r_iload_n hk 1 (dtX4_fails_0 1 (1, .iload_n 1, 1) rfl) rfl ?_
  refine r_putI hk (k := 6) (fsX4 X) cbX4 (by decide) fl_X4_25 (in_mo 0 (by decide)) (fun _ => rfl) rfl rfl (fun _ _ _ => rfl) (fun _ _ => (by decide : 6 < 11)) hF (dtX4_fails_0 2 (2, .putfield 25, 3) rfl) (fun m1 hF => ?_)
  refine r_iconst (v := 0) hk (dtX4_fails_0 3 (5, .iconst 0, 1) rfl) (by decide) ?_
  cases Option.some.inj hF
  exact hR _ _ (dtX4_fails_0 4 (6, .ireturn, 1) rfl)
set_option maxHeartbeats 4000000 in
set_option maxRecDepth 100000 in
theorem c_X4_undo (l : Launch) (hlf : l.stackTraces = false) (X : XW)   (m0 : Mem) (rv : Int32) (mE : Mem) (hF : F_X4_undo m0 = some (rv, mE)) : MX X l yX4_undo cX4_undo 2 (some .int) 1 [.ref (xad X (3, 0, 0, 0))] m0 (QI X rv mE) := by
  refine startI hlf (by decide +kernel) rfl [(0, .ref (xad X (3, 0, 0, 0)))] rfl (Nat.le_of_ble_eq_true rfl) (fun K hk hR => ?_)
  unfold F_X4_undo at hF
  refine r_aload_n hk 0 (dtX4_undo_0 0 (0, .aload_n 0, 1) rfl) rfl ?_
  refine r_iconst (v := 0) hk (dtX4_undo_0 1 (1, .iconst 0, 1) rfl) (by decide) ?_
  refine r_putI hk (k := 6) (fsX4 X) cbX4 (by decide) fl_X4_25 (in_mo 0 (by decide)) (fun _ => rfl) rfl rfl (fun _ _ _ => rfl) (fun _ _ => (by decide : 6 < 11)) hF (dtX4_undo_0 2 (2, .putfield 25, 3) rfl) (fun m1 hF => ?_)
  refine r_aload_n hk 0 (dtX4_undo_0 3 (5, .aload_n 0, 1) rfl) rfl ?_
  refine r_getI hk (k := 3) (fsX4 X) cbX4 (by decide) fl_X4_34 (in_mo 0 (by decide)) (fun _ => rfl) (fun _ _ => rfl) hF (dtX4_undo_0 4 (6, .getfield 34, 3) rfl) (fun v2 hF => ?_)
  refine r_if_ne hk 18 hF (dtX4_undo_0 5 (9, .ifCond .ne 9, 3) rfl) (by decide) (fun hF => ?_) (fun hF => ?_)
  · refine r_aload_n hk 0 (dtX4_undo_0 10 (18, .aload_n 0, 1) rfl) rfl ?_
    refine r_dup hk (dtX4_undo_0 11 (19, .dup, 1) rfl) rfl ?_
    refine r_getI hk (k := 3) (fsX4 X) cbX4 (by decide) fl_X4_34 (in_mo 0 (by decide)) (fun _ => rfl) (fun _ _ => rfl) hF (dtX4_undo_0 12 (20, .getfield 34, 3) rfl) (fun v3 hF => ?_)
    refine r_iconst (v := 1) hk (dtX4_undo_0 13 (23, .iconst 1, 1) rfl) (by decide) ?_
    refine r_isub hk hF (dtX4_undo_0 14 (24, .isub, 1) rfl) (fun v4 hF => ?_)
    refine r_putI hk (k := 3) (fsX4 X) cbX4 (by decide) fl_X4_34 (in_mo 0 (by decide)) (fun _ => rfl) rfl rfl (fun _ _ _ => rfl) (fun _ _ => (by decide : 3 < 11)) hF (dtX4_undo_0 15 (25, .putfield 34, 3) rfl) (fun m5 hF => ?_)
    refine r_iconst (v := 0) hk (dtX4_undo_0 16 (28, .iconst 0, 1) rfl) (by decide) ?_
    refine r_istore_n hk [(1, .int 0), (0, .ref (xad X (3, 0, 0, 0)))] (dtX4_undo_0 17 (29, .istore_n 1, 1) rfl) (by decide) rfl ?_
    have e64_7 : ∀ (m6 : Mem), C_X4_undo_64 m6 = some (rv, mE) → G X K 64 [(0, .ref (xad X (3, 0, 0, 0)))] [] m6 := by
      intro m6 hF
      unfold C_X4_undo_64 at hF
      refine r_aload_n hk 0 (dtX4_undo_0 36 (64, .aload_n 0, 1) rfl) rfl ?_
      refine r_getI hk (k := 3) (fsX4 X) cbX4 (by decide) fl_X4_34 (in_mo 0 (by decide)) (fun _ => rfl) (fun _ _ => rfl) hF (dtX4_undo_0 37 (65, .getfield 34, 3) rfl) (fun v8 hF => ?_)
      cases Option.some.inj hF
      exact hR _ _ (dtX4_undo_0 38 (68, .ireturn, 1) rfl)
    have l12 : ∀ (n12 : Nat) (v9 : Int32) (m10 : Mem), L_X4_undo_30 n12 v9 m10 = some (rv, mE) → G X K 30 [(0, .ref (xad X (3, 0, 0, 0))), (1, .int v9)] [] m10 := by
      intro n12
      induction n12 with
      | zero => intro v9 m10 hF; exact nomatch (show (none : Option (Int32 × Mem)) = some (rv, mE) from hF)
      | succ n12 ih12 =>
        intro v9 m10 hF
        rw [L_X4_undo_30] at hF
        refine r_iload_n hk 1 (dtX4_undo_0 18 (30, .iload_n 1, 1) rfl) rfl ?_
        refine r_sipush (v := 1174) hk (dtX4_undo_0 19 (31, .sipush 1174, 3) rfl) (by decide) ?_
        refine r_icmp_ge hk 64 hF (dtX4_undo_0 20 (34, .if_icmp .ge 30, 3) rfl) (by decide) (fun hF => ?_) (fun hF => ?_)
        · exact r_sub hk [0] rfl (e64_7 m10 hF)
        · refine r_aload_n hk 0 (dtX4_undo_0 21 (37, .aload_n 0, 1) rfl) rfl ?_
          refine r_getR hk (k := 0) (fsX4 X) cbX4 (by decide) fl_X4_7 (in_mo 0 (by decide)) (fun _ => rfl) (fun _ _ => rfl) (dtX4_undo_0 22 (38, .getfield 7, 3) rfl) ?_
          refine r_iload_n hk 1 (dtX4_undo_0 23 (41, .iload_n 1, 1) rfl) rfl ?_
          refine r_aload_n hk 0 (dtX4_undo_0 24 (42, .aload_n 0, 1) rfl) rfl ?_
          refine r_getR hk (k := 1) (fsX4 X) cbX4 (by decide) fl_X4_13 (in_mo 0 (by decide)) (fun _ => rfl) (fun _ _ => rfl) (dtX4_undo_0 25 (43, .getfield 13, 3) rfl) ?_
          refine r_sipush (v := 1174) hk (dtX4_undo_0 26 (46, .sipush 1174, 3) rfl) (by decide) ?_
          refine r_aload_n hk 0 (dtX4_undo_0 27 (49, .aload_n 0, 1) rfl) rfl ?_
          refine r_getI hk (k := 3) (fsX4 X) cbX4 (by decide) fl_X4_34 (in_mo 0 (by decide)) (fun _ => rfl) (fun _ _ => rfl) hF (dtX4_undo_0 28 (50, .getfield 34, 3) rfl) (fun v13 hF => ?_)
          refine r_imul hk hF (dtX4_undo_0 29 (53, .imul, 1) rfl) (fun v14 hF => ?_)
          refine r_iload_n hk 1 (dtX4_undo_0 30 (54, .iload_n 1, 1) rfl) rfl ?_
          refine r_iadd hk hF (dtX4_undo_0 31 (55, .iadd, 1) rfl) (fun v15 hF => ?_)
          refine r_iald hk (in_mo 2 (by decide)) (fun _ => rfl) hF (dtX4_undo_0 32 (56, .iaload, 1) rfl) (fun v16 hF => ?_)
          refine r_iast hk (in_mo 1 (by decide)) (fun _ => rfl) hF (dtX4_undo_0 33 (57, .iastore, 1) rfl) (fun m17 hF => ?_)
          refine r_iinc hk 1 1 (fun v18 => [(1, .int v18), (0, .ref (xad X (3, 0, 0, 0)))]) hF (dtX4_undo_0 34 (58, .iinc 1 1, 3) rfl) rfl (by decide) (by decide) (fun _ => rfl) (fun v18 hF => ?_)
          refine r_goto hk 30 (dtX4_undo_0 35 (61, .goto (-31), 3) rfl) (by decide) ?_
          exact r_sub hk [1, 0] rfl (ih12 v18 m17 hF)
    exact r_sub hk [1, 0] rfl (l12 fu 0 m5 hF)
  · refine r_aload_n hk 0 (dtX4_undo_0 6 (12, .aload_n 0, 1) rfl) rfl ?_
    refine r_iconst (v := 1) hk (dtX4_undo_0 7 (13, .iconst 1, 1) rfl) (by decide) ?_
    refine r_callIm hF (fun v19 m20 h H locs ls hH hS hl => run_V (y := yX4_fails) hk (in_mo 0 (by decide)) rfl rfl (c_X4_fails (kl K) hk.2.2.2.2.2.2.2.2.2.2.2 X  1 m1 v19 m20 h) lk_X4_37 me_X4_fails yf_X4_fails (by decide) (by decide) rfl (Nat.le_of_ble_eq_true rfl) rfl (dtX4_undo_0 8 (14, .invokevirtual 37, 3) rfl) hH hS hl) (fun v19 m20 hF => ?_)
    cases Option.some.inj hF
    exact hR _ _ (dtX4_undo_0 9 (17, .ireturn, 1) rfl)
set_option maxHeartbeats 4000000 in
set_option maxRecDepth 100000 in
theorem c_X4_in (l : Launch) (hlf : l.stackTraces = false) (X : XW)  (p1 : Int32) (p2 : Int32) (p3 : Int32) (m0 : Mem) (rv : Int32) (hF : F_X4_in p1 p2 p3 m0 = some rv) : MX X l yX4_in cX4_in 3 (some .boolean) 0 [.int p1, .int p2, .int p3] m0 (QI X rv m0) := by
  refine startZ hlf (by decide +kernel) rfl [(0, .int p1), (1, .int p2), (2, .int p3)] rfl (Nat.le_of_ble_eq_true rfl) (fun K hk hR => ?_)
  unfold F_X4_in at hF
  refine r_iload_n hk 0 (dtX4_in_0 0 (0, .iload_n 0, 1) rfl) rfl ?_
  refine r_iload_n hk 1 (dtX4_in_0 1 (1, .iload_n 1, 1) rfl) rfl ?_
  have j15_2 : ∀ (v1 : Int32), J_X4_in_15 v1 = some rv → G X K 15 [] [.int v1] m0 := by
    intro v1 hF
    unfold J_X4_in_15 at hF
    obtain ⟨hz, hF⟩ := ck_some hF
    cases Option.some.inj hF
    exact hR _ _ hz (dtX4_in_0 9 (15, .ireturn, 1) rfl)
  have j14_3 : J_X4_in_14 = some rv → G X K 14 [] [] m0 := by
    intro hF
    unfold J_X4_in_14 at hF
    refine r_iconst (v := 0) hk (dtX4_in_0 8 (14, .iconst 0, 1) rfl) (by decide) ?_
    exact r_sub hk [] rfl (j15_2 0 hF)
  refine r_icmp_lt hk 14 hF (dtX4_in_0 2 (2, .if_icmp .lt 12, 3) rfl) (by decide) (fun hF => ?_) (fun hF => ?_)
  · exact r_sub hk [] rfl (j14_3 hF)
  · refine r_iload_n hk 0 (dtX4_in_0 3 (5, .iload_n 0, 1) rfl) rfl ?_
    refine r_iload_n hk 2 (dtX4_in_0 4 (6, .iload_n 2, 1) rfl) rfl ?_
    refine r_icmp_gt hk 14 hF (dtX4_in_0 5 (7, .if_icmp .gt 7, 3) rfl) (by decide) (fun hF => ?_) (fun hF => ?_)
    · exact r_sub hk [] rfl (j14_3 hF)
    · refine r_iconst (v := 1) hk (dtX4_in_0 6 (10, .iconst 1, 1) rfl) (by decide) ?_
      refine r_goto hk 15 (dtX4_in_0 7 (11, .goto 4, 3) rfl) (by decide) ?_
      exact r_sub hk [] rfl (j15_2 1 hF)
set_option maxHeartbeats 4000000 in
set_option maxRecDepth 100000 in
theorem c_X4_isTenant (l : Launch) (hlf : l.stackTraces = false) (X : XW)  (p1 : Int32) (m0 : Mem) (rv : Int32) (hF : F_X4_isTenant p1 m0 = some rv) : MX X l yX4_isTenant cX4_isTenant 1 (some .boolean) 1 [.int p1] m0 (QI X rv m0) := by
  refine startZ hlf (by decide +kernel) rfl [(0, .int p1)] rfl (Nat.le_of_ble_eq_true rfl) (fun K hk hR => ?_)
  unfold F_X4_isTenant at hF
  refine r_iload_n hk 0 (dtX4_isTenant_0 0 (0, .iload_n 0, 1) rfl) rfl ?_
  refine r_iconst (v := 0) hk (dtX4_isTenant_0 1 (1, .iconst 0, 1) rfl) (by decide) ?_
  refine r_iconst (v := 2) hk (dtX4_isTenant_0 2 (2, .iconst 2, 1) rfl) (by decide) ?_
  refine r_callI hF (fun v1 h H locs ls hH hS hl => run_S hk (c_X4_in (kl K) hk.2.2.2.2.2.2.2.2.2.2.2 X  p1 0 2 m0 v1 h) lk_X4_29 me_X4_in yf_X4_in (by decide) (by decide) rfl (Nat.le_of_ble_eq_true rfl) rfl (dtX4_isTenant_0 3 (3, .invokestatic 29, 3) rfl) hH hS hl) (fun v1 hF => ?_)
  obtain ⟨hz, hF⟩ := ck_some hF
  cases Option.some.inj hF
  exact hR _ _ hz (dtX4_isTenant_0 4 (6, .ireturn, 1) rfl)
set_option maxHeartbeats 4000000 in
set_option maxRecDepth 100000 in
theorem c_X4_isLetter (l : Launch) (hlf : l.stackTraces = false) (X : XW)  (p1 : Int32) (m0 : Mem) (rv : Int32) (hF : F_X4_isLetter p1 m0 = some rv) : MX X l yX4_isLetter cX4_isLetter 1 (some .boolean) 1 [.int p1] m0 (QI X rv m0) := by
  refine startZ hlf (by decide +kernel) rfl [(0, .int p1)] rfl (Nat.le_of_ble_eq_true rfl) (fun K hk hR => ?_)
  unfold F_X4_isLetter at hF
  refine r_iload_n hk 0 (dtX4_isLetter_0 0 (0, .iload_n 0, 1) rfl) rfl ?_
  refine r_iconst (v := 0) hk (dtX4_isLetter_0 1 (1, .iconst 0, 1) rfl) (by decide) ?_
  refine r_bipush (v := 7) hk (dtX4_isLetter_0 2 (2, .bipush 7, 2) rfl) (by decide) ?_
  refine r_callI hF (fun v1 h H locs ls hH hS hl => run_S hk (c_X4_in (kl K) hk.2.2.2.2.2.2.2.2.2.2.2 X  p1 0 7 m0 v1 h) lk_X4_29 me_X4_in yf_X4_in (by decide) (by decide) rfl (Nat.le_of_ble_eq_true rfl) rfl (dtX4_isLetter_0 3 (4, .invokestatic 29, 3) rfl) hH hS hl) (fun v1 hF => ?_)
  obtain ⟨hz, hF⟩ := ck_some hF
  cases Option.some.inj hF
  exact hR _ _ hz (dtX4_isLetter_0 4 (7, .ireturn, 1) rfl)
set_option maxHeartbeats 4000000 in
set_option maxRecDepth 100000 in
theorem c_X4_saves (l : Launch) (hlf : l.stackTraces = false) (X : XW)   (m0 : Mem) (rv : Unit) (mE : Mem) (hF : F_X4_saves m0 = some (rv, mE)) : MX X l yX4_saves cX4_saves 2 none 0 [.ref (xad X (3, 0, 0, 0))] m0 (QV X mE) := by
  refine startV hlf (by decide +kernel) rfl [(0, .ref (xad X (3, 0, 0, 0)))] rfl (Nat.le_of_ble_eq_true rfl) (fun K hk hR => ?_)
  unfold F_X4_saves at hF
  refine r_aload_n hk 0 (dtX4_saves_0 0 (0, .aload_n 0, 1) rfl) rfl ?_
  refine r_getI hk (k := 3) (fsX4 X) cbX4 (by decide) fl_X4_34 (in_mo 0 (by decide)) (fun _ => rfl) (fun _ _ => rfl) hF (dtX4_saves_0 1 (1, .getfield 34, 3) rfl) (fun v1 hF => ?_)
  refine r_bipush (v := 6) hk (dtX4_saves_0 2 (4, .bipush 6, 2) rfl) (by decide) ?_
  have j50_3 : ∀ (m2 : Mem), J_X4_saves_50 m2 = some (rv, mE) → G X K 50 [(0, .ref (xad X (3, 0, 0, 0)))] [] m2 := by
    intro m2 hF
    unfold J_X4_saves_50 at hF
    refine r_iconst (v := 0) hk (dtX4_saves_0 27 (50, .iconst 0, 1) rfl) (by decide) ?_
    refine r_istore_n hk [(1, .int 0), (0, .ref (xad X (3, 0, 0, 0)))] (dtX4_saves_0 28 (51, .istore_n 1, 1) rfl) (by decide) rfl ?_
    have e86_5 : ∀ (m4 : Mem), C_X4_saves_86 m4 = some (rv, mE) → G X K 86 [(0, .ref (xad X (3, 0, 0, 0)))] [] m4 := by
      intro m4 hF
      unfold C_X4_saves_86 at hF
      refine r_aload_n hk 0 (dtX4_saves_0 47 (86, .aload_n 0, 1) rfl) rfl ?_
      refine r_dup hk (dtX4_saves_0 48 (87, .dup, 1) rfl) rfl ?_
      refine r_getI hk (k := 3) (fsX4 X) cbX4 (by decide) fl_X4_34 (in_mo 0 (by decide)) (fun _ => rfl) (fun _ _ => rfl) hF (dtX4_saves_0 49 (88, .getfield 34, 3) rfl) (fun v6 hF => ?_)
      refine r_iconst (v := 1) hk (dtX4_saves_0 50 (91, .iconst 1, 1) rfl) (by decide) ?_
      refine r_iadd hk hF (dtX4_saves_0 51 (92, .iadd, 1) rfl) (fun v7 hF => ?_)
      refine r_putI hk (k := 3) (fsX4 X) cbX4 (by decide) fl_X4_34 (in_mo 0 (by decide)) (fun _ => rfl) rfl rfl (fun _ _ _ => rfl) (fun _ _ => (by decide : 3 < 11)) hF (dtX4_saves_0 52 (93, .putfield 34, 3) rfl) (fun m8 hF => ?_)
      cases Option.some.inj hF
      exact hR _ _ (dtX4_saves_0 53 (96, .return_, 1) rfl)
    have l12 : ∀ (n12 : Nat) (v9 : Int32) (m10 : Mem), L_X4_saves_52 n12 v9 m10 = some (rv, mE) → G X K 52 [(0, .ref (xad X (3, 0, 0, 0))), (1, .int v9)] [] m10 := by
      intro n12
      induction n12 with
      | zero => intro v9 m10 hF; exact nomatch (show (none : Option (Unit × Mem)) = some (rv, mE) from hF)
      | succ n12 ih12 =>
        intro v9 m10 hF
        rw [L_X4_saves_52] at hF
        refine r_iload_n hk 1 (dtX4_saves_0 29 (52, .iload_n 1, 1) rfl) rfl ?_
        refine r_sipush (v := 1174) hk (dtX4_saves_0 30 (53, .sipush 1174, 3) rfl) (by decide) ?_
        refine r_icmp_ge hk 86 hF (dtX4_saves_0 31 (56, .if_icmp .ge 30, 3) rfl) (by decide) (fun hF => ?_) (fun hF => ?_)
        · exact r_sub hk [0] rfl (e86_5 m10 hF)
        · refine r_aload_n hk 0 (dtX4_saves_0 32 (59, .aload_n 0, 1) rfl) rfl ?_
          refine r_getR hk (k := 1) (fsX4 X) cbX4 (by decide) fl_X4_13 (in_mo 0 (by decide)) (fun _ => rfl) (fun _ _ => rfl) (dtX4_saves_0 33 (60, .getfield 13, 3) rfl) ?_
          refine r_sipush (v := 1174) hk (dtX4_saves_0 34 (63, .sipush 1174, 3) rfl) (by decide) ?_
          refine r_aload_n hk 0 (dtX4_saves_0 35 (66, .aload_n 0, 1) rfl) rfl ?_
          refine r_getI hk (k := 3) (fsX4 X) cbX4 (by decide) fl_X4_34 (in_mo 0 (by decide)) (fun _ => rfl) (fun _ _ => rfl) hF (dtX4_saves_0 36 (67, .getfield 34, 3) rfl) (fun v13 hF => ?_)
          refine r_imul hk hF (dtX4_saves_0 37 (70, .imul, 1) rfl) (fun v14 hF => ?_)
          refine r_iload_n hk 1 (dtX4_saves_0 38 (71, .iload_n 1, 1) rfl) rfl ?_
          refine r_iadd hk hF (dtX4_saves_0 39 (72, .iadd, 1) rfl) (fun v15 hF => ?_)
          refine r_aload_n hk 0 (dtX4_saves_0 40 (73, .aload_n 0, 1) rfl) rfl ?_
          refine r_getR hk (k := 0) (fsX4 X) cbX4 (by decide) fl_X4_7 (in_mo 0 (by decide)) (fun _ => rfl) (fun _ _ => rfl) (dtX4_saves_0 41 (74, .getfield 7, 3) rfl) ?_
          refine r_iload_n hk 1 (dtX4_saves_0 42 (77, .iload_n 1, 1) rfl) rfl ?_
          refine r_iald hk (in_mo 1 (by decide)) (fun _ => rfl) hF (dtX4_saves_0 43 (78, .iaload, 1) rfl) (fun v16 hF => ?_)
          refine r_iast hk (in_mo 2 (by decide)) (fun _ => rfl) hF (dtX4_saves_0 44 (79, .iastore, 1) rfl) (fun m17 hF => ?_)
          refine r_iinc hk 1 1 (fun v18 => [(1, .int v18), (0, .ref (xad X (3, 0, 0, 0)))]) hF (dtX4_saves_0 45 (80, .iinc 1 1, 3) rfl) rfl (by decide) (by decide) (fun _ => rfl) (fun v18 hF => ?_)
          refine r_goto hk 52 (dtX4_saves_0 46 (83, .goto (-31), 3) rfl) (by decide) ?_
          exact r_sub hk [1, 0] rfl (ih12 v18 m17 hF)
    exact r_sub hk [1, 0] rfl (l12 fu 0 m2 hF)
  refine r_icmp_ne hk 50 hF (dtX4_saves_0 3 (6, .if_icmp .ne 44, 3) rfl) (by decide) (fun hF => ?_) (fun hF => ?_)
  · exact r_sub hk [0] rfl (j50_3 m0 hF)
  · refine r_iconst (v := 0) hk (dtX4_saves_0 4 (9, .iconst 0, 1) rfl) (by decide) ?_
    refine r_istore_n hk [(1, .int 0), (0, .ref (xad X (3, 0, 0, 0)))] (dtX4_saves_0 5 (10, .istore_n 1, 1) rfl) (by decide) rfl ?_
    have e40_20 : ∀ (m19 : Mem), C_X4_saves_40 m19 = some (rv, mE) → G X K 40 [(0, .ref (xad X (3, 0, 0, 0)))] [] m19 := by
      intro m19 hF
      unfold C_X4_saves_40 at hF
      refine r_aload_n hk 0 (dtX4_saves_0 21 (40, .aload_n 0, 1) rfl) rfl ?_
      refine r_dup hk (dtX4_saves_0 22 (41, .dup, 1) rfl) rfl ?_
      refine r_getI hk (k := 3) (fsX4 X) cbX4 (by decide) fl_X4_34 (in_mo 0 (by decide)) (fun _ => rfl) (fun _ _ => rfl) hF (dtX4_saves_0 23 (42, .getfield 34, 3) rfl) (fun v21 hF => ?_)
      refine r_iconst (v := 1) hk (dtX4_saves_0 24 (45, .iconst 1, 1) rfl) (by decide) ?_
      refine r_isub hk hF (dtX4_saves_0 25 (46, .isub, 1) rfl) (fun v22 hF => ?_)
      refine r_putI hk (k := 3) (fsX4 X) cbX4 (by decide) fl_X4_34 (in_mo 0 (by decide)) (fun _ => rfl) rfl rfl (fun _ _ _ => rfl) (fun _ _ => (by decide : 3 < 11)) hF (dtX4_saves_0 26 (47, .putfield 34, 3) rfl) (fun m23 hF => ?_)
      exact r_sub hk [0] rfl (j50_3 m23 hF)
    have l27 : ∀ (n27 : Nat) (v24 : Int32) (m25 : Mem), L_X4_saves_11 n27 v24 m25 = some (rv, mE) → G X K 11 [(0, .ref (xad X (3, 0, 0, 0))), (1, .int v24)] [] m25 := by
      intro n27
      induction n27 with
      | zero => intro v24 m25 hF; exact nomatch (show (none : Option (Unit × Mem)) = some (rv, mE) from hF)
      | succ n27 ih27 =>
        intro v24 m25 hF
        rw [L_X4_saves_11] at hF
        refine r_iload_n hk 1 (dtX4_saves_0 6 (11, .iload_n 1, 1) rfl) rfl ?_
        refine r_sipush (v := 5870) hk (dtX4_saves_0 7 (12, .sipush 5870, 3) rfl) (by decide) ?_
        refine r_icmp_ge hk 40 hF (dtX4_saves_0 8 (15, .if_icmp .ge 25, 3) rfl) (by decide) (fun hF => ?_) (fun hF => ?_)
        · exact r_sub hk [0] rfl (e40_20 m25 hF)
        · refine r_aload_n hk 0 (dtX4_saves_0 9 (18, .aload_n 0, 1) rfl) rfl ?_
          refine r_getR hk (k := 1) (fsX4 X) cbX4 (by decide) fl_X4_13 (in_mo 0 (by decide)) (fun _ => rfl) (fun _ _ => rfl) (dtX4_saves_0 10 (19, .getfield 13, 3) rfl) ?_
          refine r_iload_n hk 1 (dtX4_saves_0 11 (22, .iload_n 1, 1) rfl) rfl ?_
          refine r_aload_n hk 0 (dtX4_saves_0 12 (23, .aload_n 0, 1) rfl) rfl ?_
          refine r_getR hk (k := 1) (fsX4 X) cbX4 (by decide) fl_X4_13 (in_mo 0 (by decide)) (fun _ => rfl) (fun _ _ => rfl) (dtX4_saves_0 13 (24, .getfield 13, 3) rfl) ?_
          refine r_iload_n hk 1 (dtX4_saves_0 14 (27, .iload_n 1, 1) rfl) rfl ?_
          refine r_sipush (v := 1174) hk (dtX4_saves_0 15 (28, .sipush 1174, 3) rfl) (by decide) ?_
          refine r_iadd hk hF (dtX4_saves_0 16 (31, .iadd, 1) rfl) (fun v28 hF => ?_)
          refine r_iald hk (in_mo 2 (by decide)) (fun _ => rfl) hF (dtX4_saves_0 17 (32, .iaload, 1) rfl) (fun v29 hF => ?_)
          refine r_iast hk (in_mo 2 (by decide)) (fun _ => rfl) hF (dtX4_saves_0 18 (33, .iastore, 1) rfl) (fun m30 hF => ?_)
          refine r_iinc hk 1 1 (fun v31 => [(1, .int v31), (0, .ref (xad X (3, 0, 0, 0)))]) hF (dtX4_saves_0 19 (34, .iinc 1 1, 3) rfl) rfl (by decide) (by decide) (fun _ => rfl) (fun v31 hF => ?_)
          refine r_goto hk 11 (dtX4_saves_0 20 (37, .goto (-26), 3) rfl) (by decide) ?_
          exact r_sub hk [1, 0] rfl (ih27 v31 m30 hF)
    exact r_sub hk [1, 0] rfl (l27 fu 0 m0 hF)
set_option maxHeartbeats 4000000 in
set_option maxRecDepth 100000 in
theorem c_X4_meanings (l : Launch) (hlf : l.stackTraces = false) (X : XW)  (p1 : Int32) (m0 : Mem) (rv : Int32) (hF : F_X4_meanings p1 m0 = some rv) : MX X l yX4_meanings cX4_meanings 4 (some .int) 0 [.ref (xad X (3, 0, 0, 0)), .int p1] m0 (QI X rv m0) := by
  refine startI hlf (by decide +kernel) rfl [(0, .ref (xad X (3, 0, 0, 0))), (1, .int p1)] rfl (Nat.le_of_ble_eq_true rfl) (fun K hk hR => ?_)
  unfold F_X4_meanings at hF
  refine r_iconst (v := 0) hk (dtX4_meanings_0 0 (0, .iconst 0, 1) rfl) (by decide) ?_
  refine r_istore_n hk [(2, .int 0), (0, .ref (xad X (3, 0, 0, 0))), (1, .int p1)] (dtX4_meanings_0 1 (1, .istore_n 2, 1) rfl) (by decide) rfl ?_
  refine r_iconst (v := 0) hk (dtX4_meanings_0 2 (2, .iconst 0, 1) rfl) (by decide) ?_
  refine r_istore_n hk [(3, .int 0), (2, .int 0), (0, .ref (xad X (3, 0, 0, 0))), (1, .int p1)] (dtX4_meanings_0 3 (3, .istore_n 3, 1) rfl) (by decide) rfl ?_
  have e43_2 : ∀ (v1 : Int32), C_X4_meanings_43 v1 = some rv → G X K 43 [(2, .int v1)] [] m0 := by
    intro v1 hF
    unfold C_X4_meanings_43 at hF
    refine r_iload_n hk 0 (dtX4_meanings_0 27 (43, .iload_n 2, 1) rfl) rfl ?_
    cases Option.some.inj hF
    exact hR _ _ (dtX4_meanings_0 28 (44, .ireturn, 1) rfl)
  have l6 : ∀ (n6 : Nat) (v3 : Int32) (v4 : Int32), L_X4_meanings_4 p1 m0 n6 v3 v4 = some rv → G X K 4 [(0, .ref (xad X (3, 0, 0, 0))), (1, .int p1), (2, .int v3), (3, .int v4)] [] m0 := by
    intro n6
    induction n6 with
    | zero => intro v3 v4 hF; exact nomatch (show (none : Option Int32) = some rv from hF)
    | succ n6 ih6 =>
      intro v3 v4 hF
      rw [L_X4_meanings_4] at hF
      refine r_iload_n hk 3 (dtX4_meanings_0 4 (4, .iload_n 3, 1) rfl) rfl ?_
      refine r_bipush (v := 8) hk (dtX4_meanings_0 5 (5, .bipush 8, 2) rfl) (by decide) ?_
      refine r_icmp_ge hk 43 hF (dtX4_meanings_0 6 (7, .if_icmp .ge 36, 3) rfl) (by decide) (fun hF => ?_) (fun hF => ?_)
      · exact r_sub hk [2] rfl (e43_2 v3 hF)
      · refine r_iload_n hk 2 (dtX4_meanings_0 7 (10, .iload_n 2, 1) rfl) rfl ?_
        refine r_aload_n hk 0 (dtX4_meanings_0 8 (11, .aload_n 0, 1) rfl) rfl ?_
        refine r_getR hk (k := 0) (fsX4 X) cbX4 (by decide) fl_X4_7 (in_mo 0 (by decide)) (fun _ => rfl) (fun _ _ => rfl) (dtX4_meanings_0 9 (12, .getfield 7, 3) rfl) ?_
        refine r_sipush (v := 1081) hk (dtX4_meanings_0 10 (15, .sipush 1081, 3) rfl) (by decide) ?_
        refine r_bipush (v := 8) hk (dtX4_meanings_0 11 (18, .bipush 8, 2) rfl) (by decide) ?_
        refine r_iload_n hk 1 (dtX4_meanings_0 12 (20, .iload_n 1, 1) rfl) rfl ?_
        refine r_imul hk hF (dtX4_meanings_0 13 (21, .imul, 1) rfl) (fun v7 hF => ?_)
        refine r_iadd hk hF (dtX4_meanings_0 14 (22, .iadd, 1) rfl) (fun v8 hF => ?_)
        refine r_iload_n hk 3 (dtX4_meanings_0 15 (23, .iload_n 3, 1) rfl) rfl ?_
        refine r_iadd hk hF (dtX4_meanings_0 16 (24, .iadd, 1) rfl) (fun v9 hF => ?_)
        refine r_iald hk (in_mo 1 (by decide)) (fun _ => rfl) hF (dtX4_meanings_0 17 (25, .iaload, 1) rfl) (fun v10 hF => ?_)
        refine r_iconst (v := (-1)) hk (dtX4_meanings_0 18 (26, .iconst (-1), 1) rfl) (by decide) ?_
        have j35_12 : ∀ (v11 : Int32), (J_X4_meanings_35 v3 v4 (fun w0 w1 => L_X4_meanings_4 p1 m0 n6 w0 w1)) v11 = some rv → G X K 35 [(0, .ref (xad X (3, 0, 0, 0))), (1, .int p1), (3, .int v4)] [.int v11, .int v3] m0 := by
          intro v11 hF
          unfold J_X4_meanings_35 at hF
          refine r_iadd hk hF (dtX4_meanings_0 23 (35, .iadd, 1) rfl) (fun v13 hF => ?_)
          refine r_istore_n hk [(2, .int v13), (0, .ref (xad X (3, 0, 0, 0))), (1, .int p1), (3, .int v4)] (dtX4_meanings_0 24 (36, .istore_n 2, 1) rfl) (by decide) rfl ?_
          refine r_iinc hk 1 3 (fun v14 => [(3, .int v14), (2, .int v13), (0, .ref (xad X (3, 0, 0, 0))), (1, .int p1)]) hF (dtX4_meanings_0 25 (37, .iinc 3 1, 3) rfl) rfl (by decide) (by decide) (fun _ => rfl) (fun v14 hF => ?_)
          refine r_goto hk 4 (dtX4_meanings_0 26 (40, .goto (-36), 3) rfl) (by decide) ?_
          exact r_sub hk [2, 3, 1, 0] rfl (ih6 v13 v14 hF)
        refine r_icmp_ne hk 34 hF (dtX4_meanings_0 19 (27, .if_icmp .ne 7, 3) rfl) (by decide) (fun hF => ?_) (fun hF => ?_)
        · refine r_iconst (v := 1) hk (dtX4_meanings_0 22 (34, .iconst 1, 1) rfl) (by decide) ?_
          exact r_sub hk [0, 1, 3] rfl (j35_12 1 hF)
        · refine r_iconst (v := 0) hk (dtX4_meanings_0 20 (30, .iconst 0, 1) rfl) (by decide) ?_
          refine r_goto hk 35 (dtX4_meanings_0 21 (31, .goto 4, 3) rfl) (by decide) ?_
          exact r_sub hk [0, 1, 3] rfl (j35_12 0 hF)
  exact r_sub hk [2, 3, 1, 0] rfl (l6 fu 0 0 hF)
set_option maxHeartbeats 4000000 in
set_option maxRecDepth 100000 in
theorem c_X4_refuses (l : Launch) (hlf : l.stackTraces = false) (X : XW)  (p1 : Int32) (p2 : Int32) (m0 : Mem) (rv : Int32) (mE : Mem) (hF : F_X4_refuses p1 p2 m0 = some (rv, mE)) : MX X l yX4_refuses cX4_refuses 3 (some .int) 0 [.ref (xad X (3, 0, 0, 0)), .int p1, .int p2] m0 (QI X rv mE) := by
  refine startI hlf (by decide +kernel) rfl [(0, .ref (xad X (3, 0, 0, 0))), (1, .int p1), (2, .int p2)] rfl (Nat.le_of_ble_eq_true rfl) (fun K hk hR => ?_)
  unfold F_X4_refuses at hF
  refine r_aload_n hk 0 (dtX4_refuses_0 0 (0, .aload_n 0, 1) rfl) rfl ?_
  refine r_getR hk (k := 0) (fsX4 X) cbX4 (by decide) fl_X4_7 (in_mo 0 (by decide)) (fun _ => rfl) (fun _ _ => rfl) (dtX4_refuses_0 1 (1, .getfield 7, 3) rfl) ?_
  refine r_sipush (v := 1171) hk (dtX4_refuses_0 2 (4, .sipush 1171, 3) rfl) (by decide) ?_
  refine r_iload_n hk 1 (dtX4_refuses_0 3 (7, .iload_n 1, 1) rfl) rfl ?_
  refine r_iadd hk hF (dtX4_refuses_0 4 (8, .iadd, 1) rfl) (fun v1 hF => ?_)
  refine r_dup2 hk (dtX4_refuses_0 5 (9, .dup2, 1) rfl) rfl rfl ?_
  refine r_iald hk (in_mo 1 (by decide)) (fun _ => rfl) hF (dtX4_refuses_0 6 (10, .iaload, 1) rfl) (fun v2 hF => ?_)
  refine r_iconst (v := 1) hk (dtX4_refuses_0 7 (11, .iconst 1, 1) rfl) (by decide) ?_
  refine r_iadd hk hF (dtX4_refuses_0 8 (12, .iadd, 1) rfl) (fun v3 hF => ?_)
  refine r_iast hk (in_mo 1 (by decide)) (fun _ => rfl) hF (dtX4_refuses_0 9 (13, .iastore, 1) rfl) (fun m4 hF => ?_)
  refine r_iload_n hk 2 (dtX4_refuses_0 10 (14, .iload_n 2, 1) rfl) rfl ?_
  refine r_ineg hk hF (dtX4_refuses_0 11 (15, .ineg, 1) rfl) (fun v5 hF => ?_)
  refine r_iconst (v := 1) hk (dtX4_refuses_0 12 (16, .iconst 1, 1) rfl) (by decide) ?_
  refine r_isub hk hF (dtX4_refuses_0 13 (17, .isub, 1) rfl) (fun v6 hF => ?_)
  cases Option.some.inj hF
  exact hR _ _ (dtX4_refuses_0 14 (18, .ireturn, 1) rfl)
set_option maxHeartbeats 4000000 in
set_option maxRecDepth 100000 in
theorem c_X4_columnOf (l : Launch) (hlf : l.stackTraces = false) (X : XW)  (p1 : Int32) (p2 : Int32) (m0 : Mem) (rv : Int32) (hF : F_X4_columnOf p1 p2 m0 = some rv) : MX X l yX4_columnOf cX4_columnOf 5 (some .int) 0 [.ref (xad X (3, 0, 0, 0)), .int p1, .int p2] m0 (QI X rv m0) := by
  refine startI hlf (by decide +kernel) rfl [(0, .ref (xad X (3, 0, 0, 0))), (1, .int p1), (2, .int p2)] rfl (Nat.le_of_ble_eq_true rfl) (fun K hk hR => ?_)
  unfold F_X4_columnOf at hF
  refine r_iconst (v := (-1)) hk (dtX4_columnOf_0 0 (0, .iconst (-1), 1) rfl) (by decide) ?_
  refine r_istore_n hk [(3, .int (-1)), (0, .ref (xad X (3, 0, 0, 0))), (1, .int p1), (2, .int p2)] (dtX4_columnOf_0 1 (1, .istore_n 3, 1) rfl) (by decide) rfl ?_
  refine r_iconst (v := 0) hk (dtX4_columnOf_0 2 (2, .iconst 0, 1) rfl) (by decide) ?_
  refine r_istore hk [(4, .int 0), (3, .int (-1)), (0, .ref (xad X (3, 0, 0, 0))), (1, .int p1), (2, .int p2)] (dtX4_columnOf_0 3 (3, .istore 4, 2) rfl) (by decide) rfl ?_
  have e45_2 : ∀ (v1 : Int32), C_X4_columnOf_45 v1 = some rv → G X K 45 [(3, .int v1)] [] m0 := by
    intro v1 hF
    unfold C_X4_columnOf_45 at hF
    refine r_iload_n hk 0 (dtX4_columnOf_0 25 (45, .iload_n 3, 1) rfl) rfl ?_
    cases Option.some.inj hF
    exact hR _ _ (dtX4_columnOf_0 26 (46, .ireturn, 1) rfl)
  have l6 : ∀ (n6 : Nat) (v3 : Int32) (v4 : Int32), L_X4_columnOf_5 p1 p2 m0 n6 v3 v4 = some rv → G X K 5 [(0, .ref (xad X (3, 0, 0, 0))), (1, .int p1), (2, .int p2), (3, .int v3), (4, .int v4)] [] m0 := by
    intro n6
    induction n6 with
    | zero => intro v3 v4 hF; exact nomatch (show (none : Option Int32) = some rv from hF)
    | succ n6 ih6 =>
      intro v3 v4 hF
      rw [L_X4_columnOf_5] at hF
      refine r_iload hk 4 (dtX4_columnOf_0 4 (5, .iload 4, 2) rfl) rfl ?_
      refine r_bipush (v := 8) hk (dtX4_columnOf_0 5 (7, .bipush 8, 2) rfl) (by decide) ?_
      refine r_icmp_ge hk 45 hF (dtX4_columnOf_0 6 (9, .if_icmp .ge 36, 3) rfl) (by decide) (fun hF => ?_) (fun hF => ?_)
      · exact r_sub hk [3] rfl (e45_2 v3 hF)
      · refine r_aload_n hk 0 (dtX4_columnOf_0 7 (12, .aload_n 0, 1) rfl) rfl ?_
        refine r_getR hk (k := 0) (fsX4 X) cbX4 (by decide) fl_X4_7 (in_mo 0 (by decide)) (fun _ => rfl) (fun _ _ => rfl) (dtX4_columnOf_0 8 (13, .getfield 7, 3) rfl) ?_
        refine r_sipush (v := 1081) hk (dtX4_columnOf_0 9 (16, .sipush 1081, 3) rfl) (by decide) ?_
        refine r_bipush (v := 8) hk (dtX4_columnOf_0 10 (19, .bipush 8, 2) rfl) (by decide) ?_
        refine r_iload_n hk 1 (dtX4_columnOf_0 11 (21, .iload_n 1, 1) rfl) rfl ?_
        refine r_imul hk hF (dtX4_columnOf_0 12 (22, .imul, 1) rfl) (fun v7 hF => ?_)
        refine r_iadd hk hF (dtX4_columnOf_0 13 (23, .iadd, 1) rfl) (fun v8 hF => ?_)
        refine r_iload hk 4 (dtX4_columnOf_0 14 (24, .iload 4, 2) rfl) rfl ?_
        refine r_iadd hk hF (dtX4_columnOf_0 15 (26, .iadd, 1) rfl) (fun v9 hF => ?_)
        refine r_iald hk (in_mo 1 (by decide)) (fun _ => rfl) hF (dtX4_columnOf_0 16 (27, .iaload, 1) rfl) (fun v10 hF => ?_)
        refine r_iload_n hk 2 (dtX4_columnOf_0 17 (28, .iload_n 2, 1) rfl) rfl ?_
        have j38_12 : ∀ (v11 : Int32), (J_X4_columnOf_38 v4 (fun w0 w1 => L_X4_columnOf_5 p1 p2 m0 n6 w0 w1)) v11 = some rv → G X K 38 [(0, .ref (xad X (3, 0, 0, 0))), (1, .int p1), (2, .int p2), (4, .int v4)] [.int v11] m0 := by
          intro v11 hF
          unfold J_X4_columnOf_38 at hF
          refine r_istore_n hk [(3, .int v11), (0, .ref (xad X (3, 0, 0, 0))), (1, .int p1), (2, .int p2), (4, .int v4)] (dtX4_columnOf_0 22 (38, .istore_n 3, 1) rfl) (by decide) rfl ?_
          refine r_iinc hk 1 4 (fun v13 => [(4, .int v13), (3, .int v11), (0, .ref (xad X (3, 0, 0, 0))), (1, .int p1), (2, .int p2)]) hF (dtX4_columnOf_0 23 (39, .iinc 4 1, 3) rfl) rfl (by decide) (by decide) (fun _ => rfl) (fun v13 hF => ?_)
          refine r_goto hk 5 (dtX4_columnOf_0 24 (42, .goto (-37), 3) rfl) (by decide) ?_
          exact r_sub hk [2, 3, 4, 1, 0] rfl (ih6 v11 v13 hF)
        refine r_icmp_ne hk 37 hF (dtX4_columnOf_0 18 (29, .if_icmp .ne 8, 3) rfl) (by decide) (fun hF => ?_) (fun hF => ?_)
        · refine r_iload_n hk 3 (dtX4_columnOf_0 21 (37, .iload_n 3, 1) rfl) rfl ?_
          exact r_sub hk [0, 1, 2, 4] rfl (j38_12 v3 hF)
        · refine r_iload hk 4 (dtX4_columnOf_0 19 (32, .iload 4, 2) rfl) rfl ?_
          refine r_goto hk 38 (dtX4_columnOf_0 20 (34, .goto 4, 3) rfl) (by decide) ?_
          exact r_sub hk [0, 1, 2, 4] rfl (j38_12 v4 hF)
  exact r_sub hk [2, 3, 4, 1, 0] rfl (l6 fu (-1) 0 hF)
set_option maxHeartbeats 4000000 in
set_option maxRecDepth 100000 in
theorem c_X4_mean (l : Launch) (hlf : l.stackTraces = false) (X : XW)  (p1 : Int32) (p2 : Int32) (p3 : Int32) (m0 : Mem) (rv : Int32) (mE : Mem) (hF : F_X4_mean p1 p2 p3 m0 = some (rv, mE)) : MX X l yX4_mean cX4_mean 5 (some .int) 2 [.ref (xad X (3, 0, 0, 0)), .int p1, .int p2, .int p3] m0 (QI X rv mE) := by
  refine startI hlf (by decide +kernel) rfl [(0, .ref (xad X (3, 0, 0, 0))), (1, .int p1), (2, .int p2), (3, .int p3)] rfl (Nat.le_of_ble_eq_true rfl) (fun K hk hR => ?_)
  unfold F_X4_mean at hF
  refine r_aload_n hk 0 (dtX4_mean_0 0 (0, .aload_n 0, 1) rfl) rfl ?_
  refine r_iconst (v := 0) hk (dtX4_mean_0 1 (1, .iconst 0, 1) rfl) (by decide) ?_
  refine r_putI hk (k := 6) (fsX4 X) cbX4 (by decide) fl_X4_25 (in_mo 0 (by decide)) (fun _ => rfl) rfl rfl (fun _ _ _ => rfl) (fun _ _ => (by decide : 6 < 11)) hF (dtX4_mean_0 2 (2, .putfield 25, 3) rfl) (fun m1 hF => ?_)
  refine r_iload_n hk 1 (dtX4_mean_0 3 (5, .iload_n 1, 1) rfl) rfl ?_
  refine r_callI hF (fun v2 h H locs ls hH hS hl => run_S hk (c_X4_isTenant (kl K) hk.2.2.2.2.2.2.2.2.2.2.2 X  p1 m1 v2 h) lk_X4_47 me_X4_isTenant yf_X4_isTenant (by decide) (by decide) rfl (Nat.le_of_ble_eq_true rfl) rfl (dtX4_mean_0 4 (6, .invokestatic 47, 3) rfl) hH hS hl) (fun v2 hF => ?_)
  have j28_3 : (J_X4_mean_28 m1) = some (rv, mE) → G X K 28 [(0, .ref (xad X (3, 0, 0, 0)))] [] m1 := by
    intro hF
    unfold J_X4_mean_28 at hF
    refine r_aload_n hk 0 (dtX4_mean_0 14 (28, .aload_n 0, 1) rfl) rfl ?_
    refine r_iconst (v := 1) hk (dtX4_mean_0 15 (29, .iconst 1, 1) rfl) (by decide) ?_
    refine r_callIm hF (fun v4 m5 h H locs ls hH hS hl => run_V (y := yX4_fails) hk (in_mo 0 (by decide)) rfl rfl (c_X4_fails (kl K) hk.2.2.2.2.2.2.2.2.2.2.2 X  1 m1 v4 m5 h) lk_X4_37 me_X4_fails yf_X4_fails (by decide) (by decide) rfl (Nat.le_of_ble_eq_true rfl) rfl (dtX4_mean_0 16 (30, .invokevirtual 37, 3) rfl) hH hS hl) (fun v4 m5 hF => ?_)
    cases Option.some.inj hF
    exact hR _ _ (dtX4_mean_0 17 (33, .ireturn, 1) rfl)
  refine r_if_eq hk 28 hF (dtX4_mean_0 5 (9, .ifCond .eq 19, 3) rfl) (by decide) (fun hF => ?_) (fun hF => ?_)
  · exact r_sub hk [0] rfl (j28_3 hF)
  · refine r_iload_n hk 2 (dtX4_mean_0 6 (12, .iload_n 2, 1) rfl) rfl ?_
    refine r_callI hF (fun v6 h H locs ls hH hS hl => run_S hk (c_X4_isLetter (kl K) hk.2.2.2.2.2.2.2.2.2.2.2 X  p2 m1 v6 h) lk_X4_51 me_X4_isLetter yf_X4_isLetter (by decide) (by decide) rfl (Nat.le_of_ble_eq_true rfl) rfl (dtX4_mean_0 7 (13, .invokestatic 51, 3) rfl) hH hS hl) (fun v6 hF => ?_)
    refine r_if_eq hk 28 hF (dtX4_mean_0 8 (16, .ifCond .eq 12, 3) rfl) (by decide) (fun hF => ?_) (fun hF => ?_)
    · exact r_sub hk [0] rfl (j28_3 hF)
    · refine r_iload_n hk 3 (dtX4_mean_0 9 (19, .iload_n 3, 1) rfl) rfl ?_
      refine r_iconst (v := 0) hk (dtX4_mean_0 10 (20, .iconst 0, 1) rfl) (by decide) ?_
      refine r_iconst (v := 2) hk (dtX4_mean_0 11 (21, .iconst 2, 1) rfl) (by decide) ?_
      refine r_callI hF (fun v7 h H locs ls hH hS hl => run_S hk (c_X4_in (kl K) hk.2.2.2.2.2.2.2.2.2.2.2 X  p3 0 2 m1 v7 h) lk_X4_29 me_X4_in yf_X4_in (by decide) (by decide) rfl (Nat.le_of_ble_eq_true rfl) rfl (dtX4_mean_0 12 (22, .invokestatic 29, 3) rfl) hH hS hl) (fun v7 hF => ?_)
      refine r_if_ne hk 34 hF (dtX4_mean_0 13 (25, .ifCond .ne 9, 3) rfl) (by decide) (fun hF => ?_) (fun hF => ?_)
      · refine r_aload_n hk 0 (dtX4_mean_0 18 (34, .aload_n 0, 1) rfl) rfl ?_
        refine r_callVm hF (fun w m8 h H locs ls hH hS hl => run_V (y := yX4_saves) hk (in_mo 0 (by decide)) rfl rfl (c_X4_saves (kl K) hk.2.2.2.2.2.2.2.2.2.2.2 X   m1 w m8 h) lk_X4_54 me_X4_saves yf_X4_saves (by decide) (by decide) rfl (Nat.le_of_ble_eq_true rfl) rfl (dtX4_mean_0 19 (35, .invokevirtual 54, 3) rfl) hH hS hl) (fun _ m8 hF => ?_)
        refine r_aload_n hk 0 (dtX4_mean_0 20 (38, .aload_n 0, 1) rfl) rfl ?_
        refine r_iload_n hk 1 (dtX4_mean_0 21 (39, .iload_n 1, 1) rfl) rfl ?_
        refine r_callI hF (fun v9 h H locs ls hH hS hl => run_V (y := yX4_meanings) hk (in_mo 0 (by decide)) rfl rfl (c_X4_meanings (kl K) hk.2.2.2.2.2.2.2.2.2.2.2 X  p1 m8 v9 h) lk_X4_57 me_X4_meanings yf_X4_meanings (by decide) (by decide) rfl (Nat.le_of_ble_eq_true rfl) rfl (dtX4_mean_0 22 (40, .invokevirtual 57, 3) rfl) hH hS hl) (fun v9 hF => ?_)
        refine r_aload_n hk 0 (dtX4_mean_0 23 (43, .aload_n 0, 1) rfl) rfl ?_
        refine r_getR hk (k := 0) (fsX4 X) cbX4 (by decide) fl_X4_7 (in_mo 0 (by decide)) (fun _ => rfl) (fun _ _ => rfl) (dtX4_mean_0 24 (44, .getfield 7, 3) rfl) ?_
        refine r_sipush (v := 1156) hk (dtX4_mean_0 25 (47, .sipush 1156, 3) rfl) (by decide) ?_
        refine r_iload_n hk 1 (dtX4_mean_0 26 (50, .iload_n 1, 1) rfl) rfl ?_
        refine r_iadd hk hF (dtX4_mean_0 27 (51, .iadd, 1) rfl) (fun v10 hF => ?_)
        refine r_iald hk (in_mo 1 (by decide)) (fun _ => rfl) hF (dtX4_mean_0 28 (52, .iaload, 1) rfl) (fun v11 hF => ?_)
        refine r_icmp_lt hk 63 hF (dtX4_mean_0 29 (53, .if_icmp .lt 10, 3) rfl) (by decide) (fun hF => ?_) (fun hF => ?_)
        · refine r_aload_n hk 0 (dtX4_mean_0 35 (63, .aload_n 0, 1) rfl) rfl ?_
          refine r_iload_n hk 1 (dtX4_mean_0 36 (64, .iload_n 1, 1) rfl) rfl ?_
          refine r_iload_n hk 2 (dtX4_mean_0 37 (65, .iload_n 2, 1) rfl) rfl ?_
          refine r_callI hF (fun v12 h H locs ls hH hS hl => run_V (y := yX4_columnOf) hk (in_mo 0 (by decide)) rfl rfl (c_X4_columnOf (kl K) hk.2.2.2.2.2.2.2.2.2.2.2 X  p1 p2 m8 v12 h) lk_X4_64 me_X4_columnOf yf_X4_columnOf (by decide) (by decide) rfl (Nat.le_of_ble_eq_true rfl) rfl (dtX4_mean_0 38 (66, .invokevirtual 64, 3) rfl) hH hS hl) (fun v12 hF => ?_)
          refine r_iconst (v := (-1)) hk (dtX4_mean_0 39 (69, .iconst (-1), 1) rfl) (by decide) ?_
          refine r_icmp_eq hk 80 hF (dtX4_mean_0 40 (70, .if_icmp .eq 10, 3) rfl) (by decide) (fun hF => ?_) (fun hF => ?_)
          · refine r_iconst (v := 0) hk (dtX4_mean_0 46 (80, .iconst 0, 1) rfl) (by decide) ?_
            refine r_istore hk [(4, .int 0), (0, .ref (xad X (3, 0, 0, 0))), (1, .int p1), (2, .int p2), (3, .int p3)] (dtX4_mean_0 47 (81, .istore 4, 2) rfl) (by decide) rfl ?_
            have e116_14 : ∀ (v13 : Int32), (C_X4_mean_116 p1 p2 p3 m8) v13 = some (rv, mE) → G X K 116 [(0, .ref (xad X (3, 0, 0, 0))), (1, .int p1), (2, .int p2), (3, .int p3), (4, .int v13)] [] m8 := by
              intro v13 hF
              unfold C_X4_mean_116 at hF
              refine r_iload hk 4 (dtX4_mean_1 1 (116, .iload 4, 2) rfl) rfl ?_
              refine r_bipush (v := 8) hk (dtX4_mean_1 2 (118, .bipush 8, 2) rfl) (by decide) ?_
              refine r_icmp_ne hk 130 hF (dtX4_mean_1 3 (120, .if_icmp .ne 10, 3) rfl) (by decide) (fun hF => ?_) (fun hF => ?_)
              · refine r_aload_n hk 0 (dtX4_mean_1 9 (130, .aload_n 0, 1) rfl) rfl ?_
                refine r_getR hk (k := 0) (fsX4 X) cbX4 (by decide) fl_X4_7 (in_mo 0 (by decide)) (fun _ => rfl) (fun _ _ => rfl) (dtX4_mean_1 10 (131, .getfield 7, 3) rfl) ?_
                refine r_sipush (v := 1081) hk (dtX4_mean_1 11 (134, .sipush 1081, 3) rfl) (by decide) ?_
                refine r_bipush (v := 8) hk (dtX4_mean_1 12 (137, .bipush 8, 2) rfl) (by decide) ?_
                refine r_iload_n hk 1 (dtX4_mean_1 13 (139, .iload_n 1, 1) rfl) rfl ?_
                refine r_imul hk hF (dtX4_mean_1 14 (140, .imul, 1) rfl) (fun v15 hF => ?_)
                refine r_iadd hk hF (dtX4_mean_1 15 (141, .iadd, 1) rfl) (fun v16 hF => ?_)
                refine r_iload hk 4 (dtX4_mean_1 16 (142, .iload 4, 2) rfl) rfl ?_
                refine r_iadd hk hF (dtX4_mean_1 17 (144, .iadd, 1) rfl) (fun v17 hF => ?_)
                refine r_iload_n hk 2 (dtX4_mean_1 18 (145, .iload_n 2, 1) rfl) rfl ?_
                refine r_iast hk (in_mo 1 (by decide)) (fun _ => rfl) hF (dtX4_mean_1 19 (146, .iastore, 1) rfl) (fun m18 hF => ?_)
                refine r_aload_n hk 0 (dtX4_mean_1 20 (147, .aload_n 0, 1) rfl) rfl ?_
                refine r_getR hk (k := 0) (fsX4 X) cbX4 (by decide) fl_X4_7 (in_mo 0 (by decide)) (fun _ => rfl) (fun _ _ => rfl) (dtX4_mean_1 21 (148, .getfield 7, 3) rfl) ?_
                refine r_sipush (v := 1105) hk (dtX4_mean_1 22 (151, .sipush 1105, 3) rfl) (by decide) ?_
                refine r_bipush (v := 8) hk (dtX4_mean_1 23 (154, .bipush 8, 2) rfl) (by decide) ?_
                refine r_iload_n hk 1 (dtX4_mean_1 24 (156, .iload_n 1, 1) rfl) rfl ?_
                refine r_imul hk hF (dtX4_mean_1 25 (157, .imul, 1) rfl) (fun v19 hF => ?_)
                refine r_iadd hk hF (dtX4_mean_1 26 (158, .iadd, 1) rfl) (fun v20 hF => ?_)
                refine r_iload hk 4 (dtX4_mean_1 27 (159, .iload 4, 2) rfl) rfl ?_
                refine r_iadd hk hF (dtX4_mean_1 28 (161, .iadd, 1) rfl) (fun v21 hF => ?_)
                refine r_iload_n hk 3 (dtX4_mean_1 29 (162, .iload_n 3, 1) rfl) rfl ?_
                refine r_iast hk (in_mo 1 (by decide)) (fun _ => rfl) hF (dtX4_mean_1 30 (163, .iastore, 1) rfl) (fun m22 hF => ?_)
                refine r_aload_n hk 0 (dtX4_mean_1 31 (164, .aload_n 0, 1) rfl) rfl ?_
                refine r_getR hk (k := 0) (fsX4 X) cbX4 (by decide) fl_X4_7 (in_mo 0 (by decide)) (fun _ => rfl) (fun _ _ => rfl) (dtX4_mean_1 32 (165, .getfield 7, 3) rfl) ?_
                refine r_sipush (v := 1129) hk (dtX4_mean_1 33 (168, .sipush 1129, 3) rfl) (by decide) ?_
                refine r_bipush (v := 8) hk (dtX4_mean_1 34 (171, .bipush 8, 2) rfl) (by decide) ?_
                refine r_iload_n hk 1 (dtX4_mean_1 35 (173, .iload_n 1, 1) rfl) rfl ?_
                refine r_imul hk hF (dtX4_mean_1 36 (174, .imul, 1) rfl) (fun v23 hF => ?_)
                refine r_iadd hk hF (dtX4_mean_1 37 (175, .iadd, 1) rfl) (fun v24 hF => ?_)
                refine r_iload hk 4 (dtX4_mean_1 38 (176, .iload 4, 2) rfl) rfl ?_
                refine r_iadd hk hF (dtX4_mean_1 39 (178, .iadd, 1) rfl) (fun v25 hF => ?_)
                refine r_iconst (v := 0) hk (dtX4_mean_1 40 (179, .iconst 0, 1) rfl) (by decide) ?_
                refine r_iast hk (in_mo 1 (by decide)) (fun _ => rfl) hF (dtX4_mean_1 41 (180, .iastore, 1) rfl) (fun m26 hF => ?_)
                refine r_iload hk 4 (dtX4_mean_1 42 (181, .iload 4, 2) rfl) rfl ?_
                cases Option.some.inj hF
                exact hR _ _ (dtX4_mean_1 43 (183, .ireturn, 1) rfl)
              · refine r_aload_n hk 0 (dtX4_mean_1 4 (123, .aload_n 0, 1) rfl) rfl ?_
                refine r_iload_n hk 1 (dtX4_mean_1 5 (124, .iload_n 1, 1) rfl) rfl ?_
                refine r_iconst (v := 4) hk (dtX4_mean_1 6 (125, .iconst 4, 1) rfl) (by decide) ?_
                refine r_callIm hF (fun v27 m28 h H locs ls hH hS hl => run_V (y := yX4_refuses) hk (in_mo 0 (by decide)) rfl rfl (c_X4_refuses (kl K) hk.2.2.2.2.2.2.2.2.2.2.2 X  p1 4 m8 v27 m28 h) lk_X4_60 me_X4_refuses yf_X4_refuses (by decide) (by decide) rfl (Nat.le_of_ble_eq_true rfl) rfl (dtX4_mean_1 7 (126, .invokevirtual 60, 3) rfl) hH hS hl) (fun v27 m28 hF => ?_)
                cases Option.some.inj hF
                exact hR _ _ (dtX4_mean_1 8 (129, .ireturn, 1) rfl)
            have l31 : ∀ (n31 : Nat) (v29 : Int32), L_X4_mean_83 p1 p2 p3 m8 n31 v29 = some (rv, mE) → G X K 83 [(0, .ref (xad X (3, 0, 0, 0))), (1, .int p1), (2, .int p2), (3, .int p3), (4, .int v29)] [] m8 := by
              intro n31
              induction n31 with
              | zero => intro v29 hF; exact nomatch (show (none : Option (Int32 × Mem)) = some (rv, mE) from hF)
              | succ n31 ih31 =>
                intro v29 hF
                rw [L_X4_mean_83] at hF
                refine r_iload hk 4 (dtX4_mean_0 48 (83, .iload 4, 2) rfl) rfl ?_
                refine r_bipush (v := 8) hk (dtX4_mean_0 49 (85, .bipush 8, 2) rfl) (by decide) ?_
                refine r_icmp_ge hk 116 hF (dtX4_mean_0 50 (87, .if_icmp .ge 29, 3) rfl) (by decide) (fun hF => ?_) (fun hF => ?_)
                · exact r_sub hk [0, 1, 2, 3, 4] rfl (e116_14 v29 hF)
                · refine r_aload_n hk 0 (dtX4_mean_0 51 (90, .aload_n 0, 1) rfl) rfl ?_
                  refine r_getR hk (k := 0) (fsX4 X) cbX4 (by decide) fl_X4_7 (in_mo 0 (by decide)) (fun _ => rfl) (fun _ _ => rfl) (dtX4_mean_0 52 (91, .getfield 7, 3) rfl) ?_
                  refine r_sipush (v := 1081) hk (dtX4_mean_0 53 (94, .sipush 1081, 3) rfl) (by decide) ?_
                  refine r_bipush (v := 8) hk (dtX4_mean_0 54 (97, .bipush 8, 2) rfl) (by decide) ?_
                  refine r_iload_n hk 1 (dtX4_mean_0 55 (99, .iload_n 1, 1) rfl) rfl ?_
                  refine r_imul hk hF (dtX4_mean_0 56 (100, .imul, 1) rfl) (fun v32 hF => ?_)
                  refine r_iadd hk hF (dtX4_mean_0 57 (101, .iadd, 1) rfl) (fun v33 hF => ?_)
                  refine r_iload hk 4 (dtX4_mean_0 58 (102, .iload 4, 2) rfl) rfl ?_
                  refine r_iadd hk hF (dtX4_mean_0 59 (104, .iadd, 1) rfl) (fun v34 hF => ?_)
                  refine r_iald hk (in_mo 1 (by decide)) (fun _ => rfl) hF (dtX4_mean_0 60 (105, .iaload, 1) rfl) (fun v35 hF => ?_)
                  refine r_iconst (v := (-1)) hk (dtX4_mean_0 61 (106, .iconst (-1), 1) rfl) (by decide) ?_
                  refine r_icmp_eq hk 116 hF (dtX4_mean_0 62 (107, .if_icmp .eq 9, 3) rfl) (by decide) (fun hF => ?_) (fun hF => ?_)
                  · exact r_sub hk [0, 1, 2, 3, 4] rfl (e116_14 v29 hF)
                  · refine r_iinc hk 1 4 (fun v36 => [(4, .int v36), (0, .ref (xad X (3, 0, 0, 0))), (1, .int p1), (2, .int p2), (3, .int p3)]) hF (dtX4_mean_0 63 (110, .iinc 4 1, 3) rfl) rfl (by decide) (by decide) (fun _ => rfl) (fun v36 hF => ?_)
                    refine r_goto hk 83 (dtX4_mean_1 0 (113, .goto (-30), 3) rfl) (by decide) ?_
                    exact r_sub hk [1, 2, 3, 4, 0] rfl (ih31 v36 hF)
            exact r_sub hk [1, 2, 3, 4, 0] rfl (l31 fu 0 hF)
          · refine r_aload_n hk 0 (dtX4_mean_0 41 (73, .aload_n 0, 1) rfl) rfl ?_
            refine r_iload_n hk 1 (dtX4_mean_0 42 (74, .iload_n 1, 1) rfl) rfl ?_
            refine r_iconst (v := 3) hk (dtX4_mean_0 43 (75, .iconst 3, 1) rfl) (by decide) ?_
            refine r_callIm hF (fun v37 m38 h H locs ls hH hS hl => run_V (y := yX4_refuses) hk (in_mo 0 (by decide)) rfl rfl (c_X4_refuses (kl K) hk.2.2.2.2.2.2.2.2.2.2.2 X  p1 3 m8 v37 m38 h) lk_X4_60 me_X4_refuses yf_X4_refuses (by decide) (by decide) rfl (Nat.le_of_ble_eq_true rfl) rfl (dtX4_mean_0 44 (76, .invokevirtual 60, 3) rfl) hH hS hl) (fun v37 m38 hF => ?_)
            cases Option.some.inj hF
            exact hR _ _ (dtX4_mean_0 45 (79, .ireturn, 1) rfl)
        · refine r_aload_n hk 0 (dtX4_mean_0 30 (56, .aload_n 0, 1) rfl) rfl ?_
          refine r_iload_n hk 1 (dtX4_mean_0 31 (57, .iload_n 1, 1) rfl) rfl ?_
          refine r_iconst (v := 1) hk (dtX4_mean_0 32 (58, .iconst 1, 1) rfl) (by decide) ?_
          refine r_callIm hF (fun v39 m40 h H locs ls hH hS hl => run_V (y := yX4_refuses) hk (in_mo 0 (by decide)) rfl rfl (c_X4_refuses (kl K) hk.2.2.2.2.2.2.2.2.2.2.2 X  p1 1 m8 v39 m40 h) lk_X4_60 me_X4_refuses yf_X4_refuses (by decide) (by decide) rfl (Nat.le_of_ble_eq_true rfl) rfl (dtX4_mean_0 33 (59, .invokevirtual 60, 3) rfl) hH hS hl) (fun v39 m40 hF => ?_)
          cases Option.some.inj hF
          exact hR _ _ (dtX4_mean_0 34 (62, .ireturn, 1) rfl)
      · exact r_sub hk [0] rfl (j28_3 hF)
set_option maxHeartbeats 4000000 in
set_option maxRecDepth 100000 in
theorem c_X4_tenantOf (l : Launch) (hlf : l.stackTraces = false) (X : XW)  (p1 : Int32) (m0 : Mem) (rv : Int32) (hF : F_X4_tenantOf p1 m0 = some rv) : MX X l yX4_tenantOf cX4_tenantOf 2 (some .int) 0 [.ref (xad X (3, 0, 0, 0)), .int p1] m0 (QI X rv m0) := by
  refine startI hlf (by decide +kernel) rfl [(0, .ref (xad X (3, 0, 0, 0))), (1, .int p1)] rfl (Nat.le_of_ble_eq_true rfl) (fun K hk hR => ?_)
  unfold F_X4_tenantOf at hF
  refine r_aload_n hk 0 (dtX4_tenantOf_0 0 (0, .aload_n 0, 1) rfl) rfl ?_
  refine r_getR hk (k := 0) (fsX4 X) cbX4 (by decide) fl_X4_7 (in_mo 0 (by decide)) (fun _ => rfl) (fun _ _ => rfl) (dtX4_tenantOf_0 1 (1, .getfield 7, 3) rfl) ?_
  refine r_bipush (v := 9) hk (dtX4_tenantOf_0 2 (4, .bipush 9, 2) rfl) (by decide) ?_
  refine r_iload_n hk 1 (dtX4_tenantOf_0 3 (6, .iload_n 1, 1) rfl) rfl ?_
  refine r_imul hk hF (dtX4_tenantOf_0 4 (7, .imul, 1) rfl) (fun v1 hF => ?_)
  refine r_iald hk (in_mo 1 (by decide)) (fun _ => rfl) hF (dtX4_tenantOf_0 5 (8, .iaload, 1) rfl) (fun v2 hF => ?_)
  cases Option.some.inj hF
  exact hR _ _ (dtX4_tenantOf_0 6 (9, .ireturn, 1) rfl)
set_option maxHeartbeats 4000000 in
set_option maxRecDepth 100000 in
theorem c_X4_changes (l : Launch) (hlf : l.stackTraces = false) (X : XW)  (p1 : Int32) (p2 : Int32) (m0 : Mem) (rv : Int32) (mE : Mem) (hF : F_X4_changes p1 p2 m0 = some (rv, mE)) : MX X l yX4_changes cX4_changes 4 (some .int) 0 [.ref (xad X (3, 0, 0, 0)), .int p1, .int p2] m0 (QI X rv mE) := by
  refine startI hlf (by decide +kernel) rfl [(0, .ref (xad X (3, 0, 0, 0))), (1, .int p1), (2, .int p2)] rfl (Nat.le_of_ble_eq_true rfl) (fun K hk hR => ?_)
  unfold F_X4_changes at hF
  refine r_aload_n hk 0 (dtX4_changes_0 0 (0, .aload_n 0, 1) rfl) rfl ?_
  refine r_getR hk (k := 0) (fsX4 X) cbX4 (by decide) fl_X4_7 (in_mo 0 (by decide)) (fun _ => rfl) (fun _ _ => rfl) (dtX4_changes_0 1 (1, .getfield 7, 3) rfl) ?_
  refine r_iload_n hk 1 (dtX4_changes_0 2 (4, .iload_n 1, 1) rfl) rfl ?_
  refine r_iald hk (in_mo 1 (by decide)) (fun _ => rfl) hF (dtX4_changes_0 3 (5, .iaload, 1) rfl) (fun v1 hF => ?_)
  refine r_istore_n hk [(3, .int v1), (0, .ref (xad X (3, 0, 0, 0))), (1, .int p1), (2, .int p2)] (dtX4_changes_0 4 (6, .istore_n 3, 1) rfl) (by decide) rfl ?_
  refine r_aload_n hk 1 (dtX4_changes_0 5 (7, .aload_n 0, 1) rfl) rfl ?_
  refine r_getR hk (k := 0) (fsX4 X) cbX4 (by decide) fl_X4_7 (in_mo 0 (by decide)) (fun _ => rfl) (fun _ _ => rfl) (dtX4_changes_0 6 (8, .getfield 7, 3) rfl) ?_
  refine r_iload_n hk 2 (dtX4_changes_0 7 (11, .iload_n 1, 1) rfl) rfl ?_
  refine r_iload_n hk 3 (dtX4_changes_0 8 (12, .iload_n 2, 1) rfl) rfl ?_
  refine r_iast hk (in_mo 1 (by decide)) (fun _ => rfl) hF (dtX4_changes_0 9 (13, .iastore, 1) rfl) (fun m2 hF => ?_)
  refine r_iload_n hk 0 (dtX4_changes_0 10 (14, .iload_n 3, 1) rfl) rfl ?_
  cases Option.some.inj hF
  exact hR _ _ (dtX4_changes_0 11 (15, .ireturn, 1) rfl)
set_option maxHeartbeats 4000000 in
set_option maxRecDepth 100000 in
theorem c_X4_forget (l : Launch) (hlf : l.stackTraces = false) (X : XW)  (p1 : Int32) (p2 : Int32) (m0 : Mem) (rv : Int32) (mE : Mem) (hF : F_X4_forget p1 p2 m0 = some (rv, mE)) : MX X l yX4_forget cX4_forget 6 (some .int) 2 [.ref (xad X (3, 0, 0, 0)), .int p1, .int p2] m0 (QI X rv mE) := by
  refine startI hlf (by decide +kernel) rfl [(0, .ref (xad X (3, 0, 0, 0))), (1, .int p1), (2, .int p2)] rfl (Nat.le_of_ble_eq_true rfl) (fun K hk hR => ?_)
  unfold F_X4_forget at hF
  refine r_aload_n hk 0 (dtX4_forget_0 0 (0, .aload_n 0, 1) rfl) rfl ?_
  refine r_iconst (v := 0) hk (dtX4_forget_0 1 (1, .iconst 0, 1) rfl) (by decide) ?_
  refine r_putI hk (k := 6) (fsX4 X) cbX4 (by decide) fl_X4_25 (in_mo 0 (by decide)) (fun _ => rfl) rfl rfl (fun _ _ _ => rfl) (fun _ _ => (by decide : 6 < 11)) hF (dtX4_forget_0 2 (2, .putfield 25, 3) rfl) (fun m1 hF => ?_)
  refine r_iload_n hk 1 (dtX4_forget_0 3 (5, .iload_n 1, 1) rfl) rfl ?_
  refine r_callI hF (fun v2 h H locs ls hH hS hl => run_S hk (c_X4_isTenant (kl K) hk.2.2.2.2.2.2.2.2.2.2.2 X  p1 m1 v2 h) lk_X4_47 me_X4_isTenant yf_X4_isTenant (by decide) (by decide) rfl (Nat.le_of_ble_eq_true rfl) rfl (dtX4_forget_0 4 (6, .invokestatic 47, 3) rfl) hH hS hl) (fun v2 hF => ?_)
  have j19_3 : (J_X4_forget_19 m1) = some (rv, mE) → G X K 19 [(0, .ref (xad X (3, 0, 0, 0)))] [] m1 := by
    intro hF
    unfold J_X4_forget_19 at hF
    refine r_aload_n hk 0 (dtX4_forget_0 9 (19, .aload_n 0, 1) rfl) rfl ?_
    refine r_iconst (v := 1) hk (dtX4_forget_0 10 (20, .iconst 1, 1) rfl) (by decide) ?_
    refine r_callIm hF (fun v4 m5 h H locs ls hH hS hl => run_V (y := yX4_fails) hk (in_mo 0 (by decide)) rfl rfl (c_X4_fails (kl K) hk.2.2.2.2.2.2.2.2.2.2.2 X  1 m1 v4 m5 h) lk_X4_37 me_X4_fails yf_X4_fails (by decide) (by decide) rfl (Nat.le_of_ble_eq_true rfl) rfl (dtX4_forget_0 11 (21, .invokevirtual 37, 3) rfl) hH hS hl) (fun v4 m5 hF => ?_)
    cases Option.some.inj hF
    exact hR _ _ (dtX4_forget_0 12 (24, .ireturn, 1) rfl)
  refine r_if_eq hk 19 hF (dtX4_forget_0 5 (9, .ifCond .eq 10, 3) rfl) (by decide) (fun hF => ?_) (fun hF => ?_)
  · exact r_sub hk [0] rfl (j19_3 hF)
  · refine r_iload_n hk 2 (dtX4_forget_0 6 (12, .iload_n 2, 1) rfl) rfl ?_
    refine r_callI hF (fun v6 h H locs ls hH hS hl => run_S hk (c_X4_isLetter (kl K) hk.2.2.2.2.2.2.2.2.2.2.2 X  p2 m1 v6 h) lk_X4_51 me_X4_isLetter yf_X4_isLetter (by decide) (by decide) rfl (Nat.le_of_ble_eq_true rfl) rfl (dtX4_forget_0 7 (13, .invokestatic 51, 3) rfl) hH hS hl) (fun v6 hF => ?_)
    refine r_if_ne hk 25 hF (dtX4_forget_0 8 (16, .ifCond .ne 9, 3) rfl) (by decide) (fun hF => ?_) (fun hF => ?_)
    · refine r_aload_n hk 0 (dtX4_forget_0 13 (25, .aload_n 0, 1) rfl) rfl ?_
      refine r_callVm hF (fun w m7 h H locs ls hH hS hl => run_V (y := yX4_saves) hk (in_mo 0 (by decide)) rfl rfl (c_X4_saves (kl K) hk.2.2.2.2.2.2.2.2.2.2.2 X   m1 w m7 h) lk_X4_54 me_X4_saves yf_X4_saves (by decide) (by decide) rfl (Nat.le_of_ble_eq_true rfl) rfl (dtX4_forget_0 14 (26, .invokevirtual 54, 3) rfl) hH hS hl) (fun _ m7 hF => ?_)
      refine r_aload_n hk 0 (dtX4_forget_0 15 (29, .aload_n 0, 1) rfl) rfl ?_
      refine r_iload_n hk 1 (dtX4_forget_0 16 (30, .iload_n 1, 1) rfl) rfl ?_
      refine r_iload_n hk 2 (dtX4_forget_0 17 (31, .iload_n 2, 1) rfl) rfl ?_
      refine r_callI hF (fun v8 h H locs ls hH hS hl => run_V (y := yX4_columnOf) hk (in_mo 0 (by decide)) rfl rfl (c_X4_columnOf (kl K) hk.2.2.2.2.2.2.2.2.2.2.2 X  p1 p2 m7 v8 h) lk_X4_64 me_X4_columnOf yf_X4_columnOf (by decide) (by decide) rfl (Nat.le_of_ble_eq_true rfl) rfl (dtX4_forget_0 18 (32, .invokevirtual 64, 3) rfl) hH hS hl) (fun v8 hF => ?_)
      refine r_istore_n hk [(3, .int v8), (0, .ref (xad X (3, 0, 0, 0))), (1, .int p1), (2, .int p2)] (dtX4_forget_0 19 (35, .istore_n 3, 1) rfl) (by decide) rfl ?_
      refine r_iload_n hk 0 (dtX4_forget_0 20 (36, .iload_n 3, 1) rfl) rfl ?_
      refine r_iconst (v := (-1)) hk (dtX4_forget_0 21 (37, .iconst (-1), 1) rfl) (by decide) ?_
      refine r_icmp_ne hk 48 hF (dtX4_forget_0 22 (38, .if_icmp .ne 10, 3) rfl) (by decide) (fun hF => ?_) (fun hF => ?_)
      · refine r_iconst (v := 0) hk (dtX4_forget_0 28 (48, .iconst 0, 1) rfl) (by decide) ?_
        refine r_istore hk [(4, .int 0), (3, .int v8), (0, .ref (xad X (3, 0, 0, 0))), (1, .int p1), (2, .int p2)] (dtX4_forget_0 29 (49, .istore 4, 2) rfl) (by decide) rfl ?_
        refine r_iconst (v := 0) hk (dtX4_forget_0 30 (51, .iconst 0, 1) rfl) (by decide) ?_
        refine r_istore hk [(5, .int 0), (4, .int 0), (3, .int v8), (0, .ref (xad X (3, 0, 0, 0))), (1, .int p1), (2, .int p2)] (dtX4_forget_0 31 (52, .istore 5, 2) rfl) (by decide) rfl ?_
        have e113_11 : ∀ (v9 : Int32) (m10 : Mem), (C_X4_forget_113 p1 v8) v9 m10 = some (rv, mE) → G X K 113 [(0, .ref (xad X (3, 0, 0, 0))), (1, .int p1), (3, .int v8), (4, .int v9)] [] m10 := by
          intro v9 m10 hF
          unfold C_X4_forget_113 at hF
          refine r_aload_n hk 0 (dtX4_forget_0 63 (113, .aload_n 0, 1) rfl) rfl ?_
          refine r_getR hk (k := 0) (fsX4 X) cbX4 (by decide) fl_X4_7 (in_mo 0 (by decide)) (fun _ => rfl) (fun _ _ => rfl) (dtX4_forget_1 0 (114, .getfield 7, 3) rfl) ?_
          refine r_sipush (v := 1081) hk (dtX4_forget_1 1 (117, .sipush 1081, 3) rfl) (by decide) ?_
          refine r_bipush (v := 8) hk (dtX4_forget_1 2 (120, .bipush 8, 2) rfl) (by decide) ?_
          refine r_iload_n hk 1 (dtX4_forget_1 3 (122, .iload_n 1, 1) rfl) rfl ?_
          refine r_imul hk hF (dtX4_forget_1 4 (123, .imul, 1) rfl) (fun v12 hF => ?_)
          refine r_iadd hk hF (dtX4_forget_1 5 (124, .iadd, 1) rfl) (fun v13 hF => ?_)
          refine r_iload_n hk 2 (dtX4_forget_1 6 (125, .iload_n 3, 1) rfl) rfl ?_
          refine r_iadd hk hF (dtX4_forget_1 7 (126, .iadd, 1) rfl) (fun v14 hF => ?_)
          refine r_iconst (v := (-1)) hk (dtX4_forget_1 8 (127, .iconst (-1), 1) rfl) (by decide) ?_
          refine r_iast hk (in_mo 1 (by decide)) (fun _ => rfl) hF (dtX4_forget_1 9 (128, .iastore, 1) rfl) (fun m15 hF => ?_)
          refine r_aload_n hk 0 (dtX4_forget_1 10 (129, .aload_n 0, 1) rfl) rfl ?_
          refine r_getR hk (k := 0) (fsX4 X) cbX4 (by decide) fl_X4_7 (in_mo 0 (by decide)) (fun _ => rfl) (fun _ _ => rfl) (dtX4_forget_1 11 (130, .getfield 7, 3) rfl) ?_
          refine r_sipush (v := 1129) hk (dtX4_forget_1 12 (133, .sipush 1129, 3) rfl) (by decide) ?_
          refine r_bipush (v := 8) hk (dtX4_forget_1 13 (136, .bipush 8, 2) rfl) (by decide) ?_
          refine r_iload_n hk 1 (dtX4_forget_1 14 (138, .iload_n 1, 1) rfl) rfl ?_
          refine r_imul hk hF (dtX4_forget_1 15 (139, .imul, 1) rfl) (fun v16 hF => ?_)
          refine r_iadd hk hF (dtX4_forget_1 16 (140, .iadd, 1) rfl) (fun v17 hF => ?_)
          refine r_iload_n hk 2 (dtX4_forget_1 17 (141, .iload_n 3, 1) rfl) rfl ?_
          refine r_iadd hk hF (dtX4_forget_1 18 (142, .iadd, 1) rfl) (fun v18 hF => ?_)
          refine r_iconst (v := 0) hk (dtX4_forget_1 19 (143, .iconst 0, 1) rfl) (by decide) ?_
          refine r_iast hk (in_mo 1 (by decide)) (fun _ => rfl) hF (dtX4_forget_1 20 (144, .iastore, 1) rfl) (fun m19 hF => ?_)
          refine r_iload hk 3 (dtX4_forget_1 21 (145, .iload 4, 2) rfl) rfl ?_
          cases Option.some.inj hF
          exact hR _ _ (dtX4_forget_1 22 (147, .ireturn, 1) rfl)
        have l24 : ∀ (n24 : Nat) (v20 : Int32) (v21 : Int32) (m22 : Mem), L_X4_forget_54 p1 v8 n24 v20 v21 m22 = some (rv, mE) → G X K 54 [(0, .ref (xad X (3, 0, 0, 0))), (1, .int p1), (3, .int v8), (4, .int v20), (5, .int v21)] [] m22 := by
          intro n24
          induction n24 with
          | zero => intro v20 v21 m22 hF; exact nomatch (show (none : Option (Int32 × Mem)) = some (rv, mE) from hF)
          | succ n24 ih24 =>
            intro v20 v21 m22 hF
            rw [L_X4_forget_54] at hF
            refine r_iload hk 4 (dtX4_forget_0 32 (54, .iload 5, 2) rfl) rfl ?_
            refine r_aload_n hk 0 (dtX4_forget_0 33 (56, .aload_n 0, 1) rfl) rfl ?_
            refine r_getR hk (k := 0) (fsX4 X) cbX4 (by decide) fl_X4_7 (in_mo 0 (by decide)) (fun _ => rfl) (fun _ _ => rfl) (dtX4_forget_0 34 (57, .getfield 7, 3) rfl) ?_
            refine r_sipush (v := 1080) hk (dtX4_forget_0 35 (60, .sipush 1080, 3) rfl) (by decide) ?_
            refine r_iald hk (in_mo 1 (by decide)) (fun _ => rfl) hF (dtX4_forget_0 36 (63, .iaload, 1) rfl) (fun v25 hF => ?_)
            refine r_icmp_ge hk 113 hF (dtX4_forget_0 37 (64, .if_icmp .ge 49, 3) rfl) (by decide) (fun hF => ?_) (fun hF => ?_)
            · exact r_sub hk [0, 1, 2, 3] rfl (e113_11 v20 m22 hF)
            · refine r_aload_n hk 0 (dtX4_forget_0 38 (67, .aload_n 0, 1) rfl) rfl ?_
              refine r_iload hk 4 (dtX4_forget_0 39 (68, .iload 5, 2) rfl) rfl ?_
              refine r_callI hF (fun v26 h H locs ls hH hS hl => run_V (y := yX4_tenantOf) hk (in_mo 0 (by decide)) rfl rfl (c_X4_tenantOf (kl K) hk.2.2.2.2.2.2.2.2.2.2.2 X  v21 m22 v26 h) lk_X4_41 me_X4_tenantOf yf_X4_tenantOf (by decide) (by decide) rfl (Nat.le_of_ble_eq_true rfl) rfl (dtX4_forget_0 40 (70, .invokevirtual 41, 3) rfl) hH hS hl) (fun v26 hF => ?_)
              refine r_iload_n hk 1 (dtX4_forget_0 41 (73, .iload_n 1, 1) rfl) rfl ?_
              have j107_29 : ∀ (v27 : Int32) (m28 : Mem), (J_X4_forget_107 v21 (fun w0 w1 w2 => L_X4_forget_54 p1 v8 n24 w0 w1 w2)) v27 m28 = some (rv, mE) → G X K 107 [(0, .ref (xad X (3, 0, 0, 0))), (1, .int p1), (3, .int v8), (4, .int v27), (5, .int v21)] [] m28 := by
                intro v27 m28 hF
                unfold J_X4_forget_107 at hF
                refine r_iinc hk 1 4 (fun v30 => [(5, .int v30), (0, .ref (xad X (3, 0, 0, 0))), (1, .int p1), (3, .int v8), (4, .int v27)]) hF (dtX4_forget_0 61 (107, .iinc 5 1, 3) rfl) rfl (by decide) (by decide) (fun _ => rfl) (fun v30 hF => ?_)
                refine r_goto hk 54 (dtX4_forget_0 62 (110, .goto (-56), 3) rfl) (by decide) ?_
                exact r_sub hk [1, 2, 3, 4, 0] rfl (ih24 v27 v30 m28 hF)
              refine r_icmp_ne hk 107 hF (dtX4_forget_0 42 (74, .if_icmp .ne 33, 3) rfl) (by decide) (fun hF => ?_) (fun hF => ?_)
              · exact r_sub hk [0, 1, 2, 3, 4] rfl (j107_29 v20 m22 hF)
              · refine r_iload hk 3 (dtX4_forget_0 43 (77, .iload 4, 2) rfl) rfl ?_
                refine r_aload_n hk 0 (dtX4_forget_0 44 (79, .aload_n 0, 1) rfl) rfl ?_
                refine r_bipush (v := 9) hk (dtX4_forget_0 45 (80, .bipush 9, 2) rfl) (by decide) ?_
                refine r_iload hk 4 (dtX4_forget_0 46 (82, .iload 5, 2) rfl) rfl ?_
                refine r_imul hk hF (dtX4_forget_0 47 (84, .imul, 1) rfl) (fun v31 hF => ?_)
                refine r_iconst (v := 1) hk (dtX4_forget_0 48 (85, .iconst 1, 1) rfl) (by decide) ?_
                refine r_iadd hk hF (dtX4_forget_0 49 (86, .iadd, 1) rfl) (fun v32 hF => ?_)
                refine r_iload_n hk 2 (dtX4_forget_0 50 (87, .iload_n 3, 1) rfl) rfl ?_
                refine r_iadd hk hF (dtX4_forget_0 51 (88, .iadd, 1) rfl) (fun v33 hF => ?_)
                refine r_ldc hk cn_X4_33 (dtX4_forget_0 52 (89, .ldc 33, 2) rfl) ?_
                refine r_callIm hF (fun v34 m35 h H locs ls hH hS hl => run_V (y := yX4_changes) hk (in_mo 0 (by decide)) rfl rfl (c_X4_changes (kl K) hk.2.2.2.2.2.2.2.2.2.2.2 X  v33 (-100000) m22 v34 m35 h) lk_X4_67 me_X4_changes yf_X4_changes (by decide) (by decide) rfl (Nat.le_of_ble_eq_true rfl) rfl (dtX4_forget_0 53 (91, .invokevirtual 67, 3) rfl) hH hS hl) (fun v34 m35 hF => ?_)
                refine r_ldc hk cn_X4_33 (dtX4_forget_0 54 (94, .ldc 33, 2) rfl) ?_
                have j104_37 : ∀ (v36 : Int32), (J_X4_forget_104 v20 v21 (fun w0 w1 w2 => L_X4_forget_54 p1 v8 n24 w0 w1 w2) m35) v36 = some (rv, mE) → G X K 104 [(0, .ref (xad X (3, 0, 0, 0))), (1, .int p1), (3, .int v8), (5, .int v21)] [.int v36, .int v20] m35 := by
                  intro v36 hF
                  unfold J_X4_forget_104 at hF
                  refine r_iadd hk hF (dtX4_forget_0 59 (104, .iadd, 1) rfl) (fun v38 hF => ?_)
                  refine r_istore hk [(4, .int v38), (0, .ref (xad X (3, 0, 0, 0))), (1, .int p1), (3, .int v8), (5, .int v21)] (dtX4_forget_0 60 (105, .istore 4, 2) rfl) (by decide) rfl ?_
                  exact r_sub hk [1, 2, 3, 0, 4] rfl (j107_29 v38 m35 hF)
                refine r_icmp_ne hk 103 hF (dtX4_forget_0 55 (96, .if_icmp .ne 7, 3) rfl) (by decide) (fun hF => ?_) (fun hF => ?_)
                · refine r_iconst (v := 1) hk (dtX4_forget_0 58 (103, .iconst 1, 1) rfl) (by decide) ?_
                  exact r_sub hk [0, 1, 2, 4] rfl (j104_37 1 hF)
                · refine r_iconst (v := 0) hk (dtX4_forget_0 56 (99, .iconst 0, 1) rfl) (by decide) ?_
                  refine r_goto hk 104 (dtX4_forget_0 57 (100, .goto 4, 3) rfl) (by decide) ?_
                  exact r_sub hk [0, 1, 2, 4] rfl (j104_37 0 hF)
        exact r_sub hk [3, 4, 2, 1, 0] rfl (l24 fu 0 0 m7 hF)
      · refine r_aload_n hk 1 (dtX4_forget_0 23 (41, .aload_n 0, 1) rfl) rfl ?_
        refine r_iload_n hk 2 (dtX4_forget_0 24 (42, .iload_n 1, 1) rfl) rfl ?_
        refine r_iconst (v := 5) hk (dtX4_forget_0 25 (43, .iconst 5, 1) rfl) (by decide) ?_
        refine r_callIm hF (fun v39 m40 h H locs ls hH hS hl => run_V (y := yX4_refuses) hk (in_mo 0 (by decide)) rfl rfl (c_X4_refuses (kl K) hk.2.2.2.2.2.2.2.2.2.2.2 X  p1 5 m7 v39 m40 h) lk_X4_60 me_X4_refuses yf_X4_refuses (by decide) (by decide) rfl (Nat.le_of_ble_eq_true rfl) rfl (dtX4_forget_0 26 (44, .invokevirtual 60, 3) rfl) hH hS hl) (fun v39 m40 hF => ?_)
        cases Option.some.inj hF
        exact hR _ _ (dtX4_forget_0 27 (47, .ireturn, 1) rfl)
    · exact r_sub hk [0] rfl (j19_3 hF)
set_option maxHeartbeats 4000000 in
set_option maxRecDepth 100000 in
theorem c_X4_shifts (l : Launch) (hlf : l.stackTraces = false) (X : XW)  (p1 : Int32) (p2 : Int32) (p3 : Int32) (m0 : Mem) (rv : Unit) (mE : Mem) (hF : F_X4_shifts p1 p2 p3 m0 = some (rv, mE)) : MX X l yX4_shifts cX4_shifts 6 none 1 [.ref (xad X (3, 0, 0, 0)), .int p1, .int p2, .int p3] m0 (QV X mE) := by
  refine startV hlf (by decide +kernel) rfl [(0, .ref (xad X (3, 0, 0, 0))), (1, .int p1), (2, .int p2), (3, .int p3)] rfl (Nat.le_of_ble_eq_true rfl) (fun K hk hR => ?_)
  unfold F_X4_shifts at hF
  refine r_bipush (v := 8) hk (dtX4_shifts_0 0 (0, .bipush 8, 2) rfl) (by decide) ?_
  refine r_iload_n hk 1 (dtX4_shifts_0 1 (2, .iload_n 1, 1) rfl) rfl ?_
  refine r_imul hk hF (dtX4_shifts_0 2 (3, .imul, 1) rfl) (fun v1 hF => ?_)
  refine r_istore hk [(4, .int v1), (0, .ref (xad X (3, 0, 0, 0))), (1, .int p1), (2, .int p2), (3, .int p3)] (dtX4_shifts_0 3 (4, .istore 4, 2) rfl) (by decide) rfl ?_
  refine r_aload_n hk 1 (dtX4_shifts_0 4 (6, .aload_n 0, 1) rfl) rfl ?_
  refine r_getR hk (k := 0) (fsX4 X) cbX4 (by decide) fl_X4_7 (in_mo 0 (by decide)) (fun _ => rfl) (fun _ _ => rfl) (dtX4_shifts_0 5 (7, .getfield 7, 3) rfl) ?_
  refine r_sipush (v := 1081) hk (dtX4_shifts_0 6 (10, .sipush 1081, 3) rfl) (by decide) ?_
  refine r_iload hk 0 (dtX4_shifts_0 7 (13, .iload 4, 2) rfl) rfl ?_
  refine r_iadd hk hF (dtX4_shifts_0 8 (15, .iadd, 1) rfl) (fun v2 hF => ?_)
  refine r_iload_n hk 4 (dtX4_shifts_0 9 (16, .iload_n 3, 1) rfl) rfl ?_
  refine r_iadd hk hF (dtX4_shifts_0 10 (17, .iadd, 1) rfl) (fun v3 hF => ?_)
  refine r_aload_n hk 1 (dtX4_shifts_0 11 (18, .aload_n 0, 1) rfl) rfl ?_
  refine r_sipush (v := 1081) hk (dtX4_shifts_0 12 (19, .sipush 1081, 3) rfl) (by decide) ?_
  refine r_iload hk 0 (dtX4_shifts_0 13 (22, .iload 4, 2) rfl) rfl ?_
  refine r_iadd hk hF (dtX4_shifts_0 14 (24, .iadd, 1) rfl) (fun v4 hF => ?_)
  refine r_iload_n hk 3 (dtX4_shifts_0 15 (25, .iload_n 2, 1) rfl) rfl ?_
  refine r_iadd hk hF (dtX4_shifts_0 16 (26, .iadd, 1) rfl) (fun v5 hF => ?_)
  refine r_iconst (v := (-1)) hk (dtX4_shifts_0 17 (27, .iconst (-1), 1) rfl) (by decide) ?_
  refine r_callIm hF (fun v6 m7 h H locs ls hH hS hl => run_V (y := yX4_changes) hk (in_mo 0 (by decide)) rfl rfl (c_X4_changes (kl K) hk.2.2.2.2.2.2.2.2.2.2.2 X  v5 (-1) m0 v6 m7 h) lk_X4_67 me_X4_changes yf_X4_changes (by decide) (by decide) rfl (Nat.le_of_ble_eq_true rfl) rfl (dtX4_shifts_0 18 (28, .invokevirtual 67, 3) rfl) hH hS hl) (fun v6 m7 hF => ?_)
  refine r_iast hk (in_mo 1 (by decide)) (fun _ => rfl) hF (dtX4_shifts_0 19 (31, .iastore, 1) rfl) (fun m8 hF => ?_)
  refine r_aload_n hk 1 (dtX4_shifts_0 20 (32, .aload_n 0, 1) rfl) rfl ?_
  refine r_getR hk (k := 0) (fsX4 X) cbX4 (by decide) fl_X4_7 (in_mo 0 (by decide)) (fun _ => rfl) (fun _ _ => rfl) (dtX4_shifts_0 21 (33, .getfield 7, 3) rfl) ?_
  refine r_sipush (v := 1105) hk (dtX4_shifts_0 22 (36, .sipush 1105, 3) rfl) (by decide) ?_
  refine r_iload hk 0 (dtX4_shifts_0 23 (39, .iload 4, 2) rfl) rfl ?_
  refine r_iadd hk hF (dtX4_shifts_0 24 (41, .iadd, 1) rfl) (fun v9 hF => ?_)
  refine r_iload_n hk 4 (dtX4_shifts_0 25 (42, .iload_n 3, 1) rfl) rfl ?_
  refine r_iadd hk hF (dtX4_shifts_0 26 (43, .iadd, 1) rfl) (fun v10 hF => ?_)
  refine r_aload_n hk 1 (dtX4_shifts_0 27 (44, .aload_n 0, 1) rfl) rfl ?_
  refine r_getR hk (k := 0) (fsX4 X) cbX4 (by decide) fl_X4_7 (in_mo 0 (by decide)) (fun _ => rfl) (fun _ _ => rfl) (dtX4_shifts_0 28 (45, .getfield 7, 3) rfl) ?_
  refine r_sipush (v := 1105) hk (dtX4_shifts_0 29 (48, .sipush 1105, 3) rfl) (by decide) ?_
  refine r_iload hk 0 (dtX4_shifts_0 30 (51, .iload 4, 2) rfl) rfl ?_
  refine r_iadd hk hF (dtX4_shifts_0 31 (53, .iadd, 1) rfl) (fun v11 hF => ?_)
  refine r_iload_n hk 3 (dtX4_shifts_0 32 (54, .iload_n 2, 1) rfl) rfl ?_
  refine r_iadd hk hF (dtX4_shifts_0 33 (55, .iadd, 1) rfl) (fun v12 hF => ?_)
  refine r_iald hk (in_mo 1 (by decide)) (fun _ => rfl) hF (dtX4_shifts_0 34 (56, .iaload, 1) rfl) (fun v13 hF => ?_)
  refine r_iast hk (in_mo 1 (by decide)) (fun _ => rfl) hF (dtX4_shifts_0 35 (57, .iastore, 1) rfl) (fun m14 hF => ?_)
  refine r_aload_n hk 1 (dtX4_shifts_0 36 (58, .aload_n 0, 1) rfl) rfl ?_
  refine r_getR hk (k := 0) (fsX4 X) cbX4 (by decide) fl_X4_7 (in_mo 0 (by decide)) (fun _ => rfl) (fun _ _ => rfl) (dtX4_shifts_0 37 (59, .getfield 7, 3) rfl) ?_
  refine r_sipush (v := 1129) hk (dtX4_shifts_0 38 (62, .sipush 1129, 3) rfl) (by decide) ?_
  refine r_iload hk 0 (dtX4_shifts_0 39 (65, .iload 4, 2) rfl) rfl ?_
  refine r_iadd hk hF (dtX4_shifts_0 40 (67, .iadd, 1) rfl) (fun v15 hF => ?_)
  refine r_iload_n hk 4 (dtX4_shifts_0 41 (68, .iload_n 3, 1) rfl) rfl ?_
  refine r_iadd hk hF (dtX4_shifts_0 42 (69, .iadd, 1) rfl) (fun v16 hF => ?_)
  refine r_aload_n hk 1 (dtX4_shifts_0 43 (70, .aload_n 0, 1) rfl) rfl ?_
  refine r_sipush (v := 1129) hk (dtX4_shifts_0 44 (71, .sipush 1129, 3) rfl) (by decide) ?_
  refine r_iload hk 0 (dtX4_shifts_0 45 (74, .iload 4, 2) rfl) rfl ?_
  refine r_iadd hk hF (dtX4_shifts_0 46 (76, .iadd, 1) rfl) (fun v17 hF => ?_)
  refine r_iload_n hk 3 (dtX4_shifts_0 47 (77, .iload_n 2, 1) rfl) rfl ?_
  refine r_iadd hk hF (dtX4_shifts_0 48 (78, .iadd, 1) rfl) (fun v18 hF => ?_)
  refine r_iconst (v := 0) hk (dtX4_shifts_0 49 (79, .iconst 0, 1) rfl) (by decide) ?_
  refine r_callIm hF (fun v19 m20 h H locs ls hH hS hl => run_V (y := yX4_changes) hk (in_mo 0 (by decide)) rfl rfl (c_X4_changes (kl K) hk.2.2.2.2.2.2.2.2.2.2.2 X  v18 0 m14 v19 m20 h) lk_X4_67 me_X4_changes yf_X4_changes (by decide) (by decide) rfl (Nat.le_of_ble_eq_true rfl) rfl (dtX4_shifts_0 50 (80, .invokevirtual 67, 3) rfl) hH hS hl) (fun v19 m20 hF => ?_)
  refine r_iast hk (in_mo 1 (by decide)) (fun _ => rfl) hF (dtX4_shifts_0 51 (83, .iastore, 1) rfl) (fun m21 hF => ?_)
  refine r_iconst (v := 0) hk (dtX4_shifts_0 52 (84, .iconst 0, 1) rfl) (by decide) ?_
  refine r_istore hk [(5, .int 0), (4, .int v1), (0, .ref (xad X (3, 0, 0, 0))), (1, .int p1), (2, .int p2), (3, .int p3)] (dtX4_shifts_0 53 (85, .istore 5, 2) rfl) (by decide) rfl ?_
  have e145_23 : ∀ (m22 : Mem), C_X4_shifts_145 m22 = some (rv, mE) → G X K 145 [] [] m22 := by
    intro m22 hF
    unfold C_X4_shifts_145 at hF
    cases Option.some.inj hF
    exact hR _ _ (dtX4_shifts_1 23 (145, .return_, 1) rfl)
  have l27 : ∀ (n27 : Nat) (v24 : Int32) (m25 : Mem), L_X4_shifts_87 p1 p2 p3 n27 v24 m25 = some (rv, mE) → G X K 87 [(0, .ref (xad X (3, 0, 0, 0))), (1, .int p1), (2, .int p2), (3, .int p3), (5, .int v24)] [] m25 := by
    intro n27
    induction n27 with
    | zero => intro v24 m25 hF; exact nomatch (show (none : Option (Unit × Mem)) = some (rv, mE) from hF)
    | succ n27 ih27 =>
      intro v24 m25 hF
      rw [L_X4_shifts_87] at hF
      refine r_iload hk 4 (dtX4_shifts_0 54 (87, .iload 5, 2) rfl) rfl ?_
      refine r_aload_n hk 0 (dtX4_shifts_0 55 (89, .aload_n 0, 1) rfl) rfl ?_
      refine r_getR hk (k := 0) (fsX4 X) cbX4 (by decide) fl_X4_7 (in_mo 0 (by decide)) (fun _ => rfl) (fun _ _ => rfl) (dtX4_shifts_0 56 (90, .getfield 7, 3) rfl) ?_
      refine r_sipush (v := 1080) hk (dtX4_shifts_0 57 (93, .sipush 1080, 3) rfl) (by decide) ?_
      refine r_iald hk (in_mo 1 (by decide)) (fun _ => rfl) hF (dtX4_shifts_0 58 (96, .iaload, 1) rfl) (fun v28 hF => ?_)
      refine r_icmp_ge hk 145 hF (dtX4_shifts_0 59 (97, .if_icmp .ge 48, 3) rfl) (by decide) (fun hF => ?_) (fun hF => ?_)
      · exact r_sub hk [] rfl (e145_23 m25 hF)
      · refine r_aload_n hk 0 (dtX4_shifts_0 60 (100, .aload_n 0, 1) rfl) rfl ?_
        refine r_iload hk 4 (dtX4_shifts_0 61 (101, .iload 5, 2) rfl) rfl ?_
        refine r_callI hF (fun v29 h H locs ls hH hS hl => run_V (y := yX4_tenantOf) hk (in_mo 0 (by decide)) rfl rfl (c_X4_tenantOf (kl K) hk.2.2.2.2.2.2.2.2.2.2.2 X  v24 m25 v29 h) lk_X4_41 me_X4_tenantOf yf_X4_tenantOf (by decide) (by decide) rfl (Nat.le_of_ble_eq_true rfl) rfl (dtX4_shifts_0 62 (103, .invokevirtual 41, 3) rfl) hH hS hl) (fun v29 hF => ?_)
        refine r_iload_n hk 1 (dtX4_shifts_0 63 (106, .iload_n 1, 1) rfl) rfl ?_
        have j139_31 : ∀ (m30 : Mem), (J_X4_shifts_139 v24 (fun w0 w1 => L_X4_shifts_87 p1 p2 p3 n27 w0 w1)) m30 = some (rv, mE) → G X K 139 [(0, .ref (xad X (3, 0, 0, 0))), (1, .int p1), (2, .int p2), (3, .int p3), (5, .int v24)] [] m30 := by
          intro m30 hF
          unfold J_X4_shifts_139 at hF
          refine r_iinc hk 1 4 (fun v32 => [(5, .int v32), (0, .ref (xad X (3, 0, 0, 0))), (1, .int p1), (2, .int p2), (3, .int p3)]) hF (dtX4_shifts_1 21 (139, .iinc 5 1, 3) rfl) rfl (by decide) (by decide) (fun _ => rfl) (fun v32 hF => ?_)
          refine r_goto hk 87 (dtX4_shifts_1 22 (142, .goto (-55), 3) rfl) (by decide) ?_
          exact r_sub hk [1, 2, 3, 4, 0] rfl (ih27 v32 m30 hF)
        refine r_icmp_ne hk 139 hF (dtX4_shifts_1 0 (107, .if_icmp .ne 32, 3) rfl) (by decide) (fun hF => ?_) (fun hF => ?_)
        · exact r_sub hk [0, 1, 2, 3, 4] rfl (j139_31 m25 hF)
        · refine r_aload_n hk 0 (dtX4_shifts_1 1 (110, .aload_n 0, 1) rfl) rfl ?_
          refine r_getR hk (k := 0) (fsX4 X) cbX4 (by decide) fl_X4_7 (in_mo 0 (by decide)) (fun _ => rfl) (fun _ _ => rfl) (dtX4_shifts_1 2 (111, .getfield 7, 3) rfl) ?_
          refine r_bipush (v := 9) hk (dtX4_shifts_1 3 (114, .bipush 9, 2) rfl) (by decide) ?_
          refine r_iload hk 4 (dtX4_shifts_1 4 (116, .iload 5, 2) rfl) rfl ?_
          refine r_imul hk hF (dtX4_shifts_1 5 (118, .imul, 1) rfl) (fun v33 hF => ?_)
          refine r_iconst (v := 1) hk (dtX4_shifts_1 6 (119, .iconst 1, 1) rfl) (by decide) ?_
          refine r_iadd hk hF (dtX4_shifts_1 7 (120, .iadd, 1) rfl) (fun v34 hF => ?_)
          refine r_iload_n hk 3 (dtX4_shifts_1 8 (121, .iload_n 3, 1) rfl) rfl ?_
          refine r_iadd hk hF (dtX4_shifts_1 9 (122, .iadd, 1) rfl) (fun v35 hF => ?_)
          refine r_aload_n hk 0 (dtX4_shifts_1 10 (123, .aload_n 0, 1) rfl) rfl ?_
          refine r_bipush (v := 9) hk (dtX4_shifts_1 11 (124, .bipush 9, 2) rfl) (by decide) ?_
          refine r_iload hk 4 (dtX4_shifts_1 12 (126, .iload 5, 2) rfl) rfl ?_
          refine r_imul hk hF (dtX4_shifts_1 13 (128, .imul, 1) rfl) (fun v36 hF => ?_)
          refine r_iconst (v := 1) hk (dtX4_shifts_1 14 (129, .iconst 1, 1) rfl) (by decide) ?_
          refine r_iadd hk hF (dtX4_shifts_1 15 (130, .iadd, 1) rfl) (fun v37 hF => ?_)
          refine r_iload_n hk 2 (dtX4_shifts_1 16 (131, .iload_n 2, 1) rfl) rfl ?_
          refine r_iadd hk hF (dtX4_shifts_1 17 (132, .iadd, 1) rfl) (fun v38 hF => ?_)
          refine r_ldc hk cn_X4_33 (dtX4_shifts_1 18 (133, .ldc 33, 2) rfl) ?_
          refine r_callIm hF (fun v39 m40 h H locs ls hH hS hl => run_V (y := yX4_changes) hk (in_mo 0 (by decide)) rfl rfl (c_X4_changes (kl K) hk.2.2.2.2.2.2.2.2.2.2.2 X  v38 (-100000) m25 v39 m40 h) lk_X4_67 me_X4_changes yf_X4_changes (by decide) (by decide) rfl (Nat.le_of_ble_eq_true rfl) rfl (dtX4_shifts_1 19 (135, .invokevirtual 67, 3) rfl) hH hS hl) (fun v39 m40 hF => ?_)
          refine r_iast hk (in_mo 1 (by decide)) (fun _ => rfl) hF (dtX4_shifts_1 20 (138, .iastore, 1) rfl) (fun m41 hF => ?_)
          exact r_sub hk [0, 1, 2, 3, 4] rfl (j139_31 m41 hF)
  exact r_sub hk [2, 3, 4, 5, 0] rfl (l27 fu 0 m21 hF)
