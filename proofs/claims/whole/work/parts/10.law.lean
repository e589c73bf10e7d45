/-! the law's loop (written by mklaw.py) -/
section LAWROWS
variable {X : XW} {K : MC} {own : String} {cc : ByteArray} {n d pc : Nat} {lv : List (Nat × Value)} {rest stk : List Value} {mm : Mem} {α : Type} {r : α}
variable {y : MethodName} {b : ByteArray} {nL k ix d1 : Nat} {As : List Value} {hh : List (Nat × Nat × Nat × Nat)}
theorem run_SW (hk : Ok X K own cc n d) (hroom : kce K + 1 ≤ (kR K).cells ∧ ksl K + 6 ≤ (kR K).slots) {v : Int32} {m1 : Mem} (hM : MH X (kl K) y b nL hh d1 As mm v m1) (hL : Lk own ix y) (hm : ∀ (a : Array Value) (U : State), Wd U → (Cond.static y).before a U = true ∧ (Cond.initialized y.cls).before a U = true ∧ (Cond.codeWith y b nL (some .int) hh).before a U = true) (hy : YF y k) (hdd : d1 + 1 ≤ d) (hnL : nL ≤ 17) (hn : As.length = k) (hst : (rest.map fun v => v.category).sum ≤ 8) (hs : stk = As.reverse ++ rest) (hd : decode cc pc = .ok (.invokestatic ix, 3)) {H : Heap} {locs : List Loc} {ls : Array Slot} (hH : Hp X mm H) (hS : va_S (xA X) (ks K).heap H locs) (hl : lv_has ls (kn K) lv) : va_Run (kp K) (kl K) (ke K) (kR K) (ks K) (km K) (ka K) (kb K) (kmt K) (kc K) H locs (kce K) (ksl K) 1 6 (F0 (km K) pc ls stk) rest (QI X v m1 As.toArray) (xA X) := by
  obtain ⟨m2, m3, m4⟩ := hm (ka K) (ks K) hk.2.2.2.2.2.1.1
  have hR1 := hk.2.2.2.2.2.2.2.1
  have hR2 := hk.2.2.2.2.2.2.2.2.1
  have hcw : vx_CSW (kR K) (ks K) (ka K) own ix y b nL (some .int) hh [.codeWith y b nL (some .int) hh] (rmd d1 1) 1 6 k := by
    refine ⟨⟨rfl, rfl, by show d1 + 1 ≤ _; omega, by show 8 + (nL + 11) + 36 * d1 ≤ _; omega, ?_, List.mem_cons_self⟩, m4, m3, hy.1, fun sig h => ?_, hL _ _ hk.2.2.2.2.2.1.1, m2⟩
    · intro w hw a' U hW
      rw [List.mem_singleton] at hw
      subst hw
      exact word_at hW (Or.inl rfl) m4
    · have h2 := hy.2
      rw [h] at h2
      exact (Option.some.inj h2).symm
  exact vx_runSW (fix_mk hk) hM hcw (preS_mk hk hH hS) rfl hn (by show ls.size = n; rw [hl.1, hk.2.2.2.1]) hs (lv_room hst) hd hroom
theorem r_callH (hroom : kce K + 1 ≤ (kR K).cells ∧ ksl K + 6 ≤ (kR K).slots) {a : Array Value} {F : Option (Int32 × Mem)} {f : Int32 → Mem → Option α} (hF : bm F f = some r) (run : ∀ v m1, F = some (v, m1) → ∀ H locs ls, Hp X mm H → va_S (xA X) (ks K).heap H locs → lv_has ls (kn K) lv → va_Run (kp K) (kl K) (ke K) (kR K) (ks K) (km K) (ka K) (kb K) (kmt K) (kc K) H locs (kce K) (ksl K) 1 6 (F0 (km K) pc ls stk) rest (QI X v m1 a) (xA X)) (g : ∀ v m1, f v m1 = some r → G X (setc K (kce K + 1) (ksl K + 6)) (pc + 3) lv (.int v :: rest) m1) : G X K pc lv stk mm := by
  intro H locs ls hH hS hl
  cases hv : F with
  | none => rw [hv] at hF; cases hF
  | some vm =>
    obtain ⟨v, m1⟩ := vm
    rw [hv] at hF
    refine va_calli (run v m1 hv H locs ls hH hS hl) hS (fun q _ h => h) (fun q h => h) (fun w u t H1 locs1 ht hvm hw hB hz hk1 hS1 => ?_)
    subst hw
    rw [ht] at hB
    exact g _ _ hF H1 locs1 ls hB hS1 hl
end LAWROWS
theorem yf_X4_mean : YF yX4_mean 3 := ⟨⟨by decide +kernel, by decide +kernel⟩, by decide +kernel⟩
theorem me_X4_mean : MeV yX4_mean cX4_mean 5 (some .int) := fun a U h => ⟨h.use a 774 (by decide +kernel) (by decide +kernel), h.use a 775 (by decide +kernel) (by decide +kernel), h.use a 63 (by decide +kernel) (by decide +kernel), h.use a 776 (by decide +kernel) (by decide +kernel)⟩
theorem lk_L_90 : Lk RL 90 yX4_mean := fun a U h => h.use a 773 (by decide +kernel) (by decide +kernel)
theorem yf_X4_thrown : YF yX4_thrown 0 := ⟨⟨by decide +kernel, by decide +kernel⟩, by decide +kernel⟩
theorem me_X4_thrown : MeV yX4_thrown cX4_thrown 1 (some .int) := fun a U h => ⟨h.use a 762 (by decide +kernel) (by decide +kernel), h.use a 763 (by decide +kernel) (by decide +kernel), h.use a 63 (by decide +kernel) (by decide +kernel), h.use a 764 (by decide +kernel) (by decide +kernel)⟩
theorem lk_L_91 : Lk RL 91 yX4_thrown := fun a U h => h.use a 761 (by decide +kernel) (by decide +kernel)
theorem lk_L_85 : Lk RL 85 yL_mean := fun a U h => h.use a 509 (by decide +kernel) (by decide +kernel)
theorem mh_L_mean : ∀ (a : Array Value) (U : State), Wd U → (Cond.static yL_mean).before a U = true ∧ (Cond.initialized yL_mean.cls).before a U = true ∧ (Cond.codeWith yL_mean cL_mean 6 (some .int) [(0, 12, 15, 13)]).before a U = true := fun a U h => ⟨h.use a 510 (by decide +kernel) (by decide +kernel), h.use a 58 (by decide +kernel) (by decide +kernel), h.use a 511 (by decide +kernel) (by decide +kernel)⟩
theorem yf_L_mean : YF yL_mean 5 := ⟨⟨by decide +kernel, by decide +kernel⟩, by decide +kernel⟩
theorem yf_X4_forget : YF yX4_forget 2 := ⟨⟨by decide +kernel, by decide +kernel⟩, by decide +kernel⟩
theorem me_X4_forget : MeV yX4_forget cX4_forget 6 (some .int) := fun a U h => ⟨h.use a 803 (by decide +kernel) (by decide +kernel), h.use a 804 (by decide +kernel) (by decide +kernel), h.use a 63 (by decide +kernel) (by decide +kernel), h.use a 805 (by decide +kernel) (by decide +kernel)⟩
theorem lk_L_97 : Lk RL 97 yX4_forget := fun a U h => h.use a 802 (by decide +kernel) (by decide +kernel)
theorem lk_L_94 : Lk RL 94 yL_forget := fun a U h => h.use a 544 (by decide +kernel) (by decide +kernel)
theorem mh_L_forget : ∀ (a : Array Value) (U : State), Wd U → (Cond.static yL_forget).before a U = true ∧ (Cond.initialized yL_forget.cls).before a U = true ∧ (Cond.codeWith yL_forget cL_forget 5 (some .int) [(0, 10, 13, 13)]).before a U = true := fun a U h => ⟨h.use a 545 (by decide +kernel) (by decide +kernel), h.use a 58 (by decide +kernel) (by decide +kernel), h.use a 546 (by decide +kernel) (by decide +kernel)⟩
theorem yf_L_forget : YF yL_forget 4 := ⟨⟨by decide +kernel, by decide +kernel⟩, by decide +kernel⟩
theorem yf_X4_pack : YF yX4_pack 1 := ⟨⟨by decide +kernel, by decide +kernel⟩, by decide +kernel⟩
theorem me_X4_pack : MeV yX4_pack cX4_pack 5 (some .int) := fun a U h => ⟨h.use a 816 (by decide +kernel) (by decide +kernel), h.use a 817 (by decide +kernel) (by decide +kernel), h.use a 63 (by decide +kernel) (by decide +kernel), h.use a 818 (by decide +kernel) (by decide +kernel)⟩
theorem lk_L_101 : Lk RL 101 yX4_pack := fun a U h => h.use a 815 (by decide +kernel) (by decide +kernel)
theorem lk_L_98 : Lk RL 98 yL_pack := fun a U h => h.use a 563 (by decide +kernel) (by decide +kernel)
theorem mh_L_pack : ∀ (a : Array Value) (U : State), Wd U → (Cond.static yL_pack).before a U = true ∧ (Cond.initialized yL_pack.cls).before a U = true ∧ (Cond.codeWith yL_pack cL_pack 4 (some .int) [(0, 9, 12, 13)]).before a U = true := fun a U h => ⟨h.use a 564 (by decide +kernel) (by decide +kernel), h.use a 58 (by decide +kernel) (by decide +kernel), h.use a 565 (by decide +kernel) (by decide +kernel)⟩
theorem yf_L_pack : YF yL_pack 3 := ⟨⟨by decide +kernel, by decide +kernel⟩, by decide +kernel⟩
theorem yf_X4_index : YF yX4_index 2 := ⟨⟨by decide +kernel, by decide +kernel⟩, by decide +kernel⟩
theorem me_X4_index : MeV yX4_index cX4_index 5 (some .int) := fun a U h => ⟨h.use a 824 (by decide +kernel) (by decide +kernel), h.use a 825 (by decide +kernel) (by decide +kernel), h.use a 63 (by decide +kernel) (by decide +kernel), h.use a 826 (by decide +kernel) (by decide +kernel)⟩
theorem lk_L_104 : Lk RL 104 yX4_index := fun a U h => h.use a 823 (by decide +kernel) (by decide +kernel)
theorem lk_L_102 : Lk RL 102 yL_index := fun a U h => h.use a 570 (by decide +kernel) (by decide +kernel)
theorem mh_L_index : ∀ (a : Array Value) (U : State), Wd U → (Cond.static yL_index).before a U = true ∧ (Cond.initialized yL_index.cls).before a U = true ∧ (Cond.codeWith yL_index cL_index 5 (some .int) [(0, 10, 13, 13)]).before a U = true := fun a U h => ⟨h.use a 571 (by decide +kernel) (by decide +kernel), h.use a 58 (by decide +kernel) (by decide +kernel), h.use a 572 (by decide +kernel) (by decide +kernel)⟩
theorem yf_L_index : YF yL_index 4 := ⟨⟨by decide +kernel, by decide +kernel⟩, by decide +kernel⟩
theorem yf_X4_row : YF yX4_row 1 := ⟨⟨by decide +kernel, by decide +kernel⟩, by decide +kernel⟩
theorem me_X4_row : MeV yX4_row cX4_row 4 (some .int) := fun a U h => ⟨h.use a 828 (by decide +kernel) (by decide +kernel), h.use a 829 (by decide +kernel) (by decide +kernel), h.use a 63 (by decide +kernel) (by decide +kernel), h.use a 830 (by decide +kernel) (by decide +kernel)⟩
theorem lk_L_107 : Lk RL 107 yX4_row := fun a U h => h.use a 827 (by decide +kernel) (by decide +kernel)
theorem lk_L_105 : Lk RL 105 yL_row := fun a U h => h.use a 577 (by decide +kernel) (by decide +kernel)
theorem mh_L_row : ∀ (a : Array Value) (U : State), Wd U → (Cond.static yL_row).before a U = true ∧ (Cond.initialized yL_row.cls).before a U = true ∧ (Cond.codeWith yL_row cL_row 4 (some .int) [(0, 9, 12, 13)]).before a U = true := fun a U h => ⟨h.use a 578 (by decide +kernel) (by decide +kernel), h.use a 58 (by decide +kernel) (by decide +kernel), h.use a 579 (by decide +kernel) (by decide +kernel)⟩
theorem yf_L_row : YF yL_row 3 := ⟨⟨by decide +kernel, by decide +kernel⟩, by decide +kernel⟩
theorem yf_X4_put : YF yX4_put 3 := ⟨⟨by decide +kernel, by decide +kernel⟩, by decide +kernel⟩
theorem me_X4_put : MeV yX4_put cX4_put 6 (some .int) := fun a U h => ⟨h.use a 844 (by decide +kernel) (by decide +kernel), h.use a 845 (by decide +kernel) (by decide +kernel), h.use a 63 (by decide +kernel) (by decide +kernel), h.use a 846 (by decide +kernel) (by decide +kernel)⟩
theorem lk_L_110 : Lk RL 110 yX4_put := fun a U h => h.use a 843 (by decide +kernel) (by decide +kernel)
theorem lk_L_108 : Lk RL 108 yL_put := fun a U h => h.use a 592 (by decide +kernel) (by decide +kernel)
theorem mh_L_put : ∀ (a : Array Value) (U : State), Wd U → (Cond.static yL_put).before a U = true ∧ (Cond.initialized yL_put.cls).before a U = true ∧ (Cond.codeWith yL_put cL_put 6 (some .int) [(0, 12, 15, 32), (0, 12, 19, 13)]).before a U = true := fun a U h => ⟨h.use a 593 (by decide +kernel) (by decide +kernel), h.use a 58 (by decide +kernel) (by decide +kernel), h.use a 594 (by decide +kernel) (by decide +kernel)⟩
theorem yf_L_put : YF yL_put 5 := ⟨⟨by decide +kernel, by decide +kernel⟩, by decide +kernel⟩
theorem yf_X4_remove : YF yX4_remove 1 := ⟨⟨by decide +kernel, by decide +kernel⟩, by decide +kernel⟩
theorem me_X4_remove : MeV yX4_remove cX4_remove 3 (some .int) := fun a U h => ⟨h.use a 855 (by decide +kernel) (by decide +kernel), h.use a 856 (by decide +kernel) (by decide +kernel), h.use a 63 (by decide +kernel) (by decide +kernel), h.use a 857 (by decide +kernel) (by decide +kernel)⟩
theorem lk_L_113 : Lk RL 113 yX4_remove := fun a U h => h.use a 854 (by decide +kernel) (by decide +kernel)
theorem lk_L_111 : Lk RL 111 yL_remove := fun a U h => h.use a 605 (by decide +kernel) (by decide +kernel)
theorem mh_L_remove : ∀ (a : Array Value) (U : State), Wd U → (Cond.static yL_remove).before a U = true ∧ (Cond.initialized yL_remove.cls).before a U = true ∧ (Cond.codeWith yL_remove cL_remove 4 (some .int) [(0, 9, 12, 32)]).before a U = true := fun a U h => ⟨h.use a 606 (by decide +kernel) (by decide +kernel), h.use a 58 (by decide +kernel) (by decide +kernel), h.use a 607 (by decide +kernel) (by decide +kernel)⟩
theorem yf_L_remove : YF yL_remove 3 := ⟨⟨by decide +kernel, by decide +kernel⟩, by decide +kernel⟩
theorem yf_X4_move : YF yX4_move 1 := ⟨⟨by decide +kernel, by decide +kernel⟩, by decide +kernel⟩
theorem me_X4_move : MeV yX4_move cX4_move 2 (some .int) := fun a U h => ⟨h.use a 863 (by decide +kernel) (by decide +kernel), h.use a 864 (by decide +kernel) (by decide +kernel), h.use a 63 (by decide +kernel) (by decide +kernel), h.use a 865 (by decide +kernel) (by decide +kernel)⟩
theorem lk_L_116 : Lk RL 116 yX4_move := fun a U h => h.use a 862 (by decide +kernel) (by decide +kernel)
theorem lk_L_114 : Lk RL 114 yL_move := fun a U h => h.use a 620 (by decide +kernel) (by decide +kernel)
theorem mh_L_move : ∀ (a : Array Value) (U : State), Wd U → (Cond.static yL_move).before a U = true ∧ (Cond.initialized yL_move.cls).before a U = true ∧ (Cond.codeWith yL_move cL_move 4 (some .int) [(0, 9, 12, 13)]).before a U = true := fun a U h => ⟨h.use a 621 (by decide +kernel) (by decide +kernel), h.use a 58 (by decide +kernel) (by decide +kernel), h.use a 622 (by decide +kernel) (by decide +kernel)⟩
theorem yf_L_move : YF yL_move 3 := ⟨⟨by decide +kernel, by decide +kernel⟩, by decide +kernel⟩
theorem yf_X4_limit : YF yX4_limit 3 := ⟨⟨by decide +kernel, by decide +kernel⟩, by decide +kernel⟩
theorem me_X4_limit : MeV yX4_limit cX4_limit 4 (some .int) := fun a U h => ⟨h.use a 867 (by decide +kernel) (by decide +kernel), h.use a 868 (by decide +kernel) (by decide +kernel), h.use a 63 (by decide +kernel) (by decide +kernel), h.use a 869 (by decide +kernel) (by decide +kernel)⟩
theorem lk_L_120 : Lk RL 120 yX4_limit := fun a U h => h.use a 866 (by decide +kernel) (by decide +kernel)
theorem lk_L_117 : Lk RL 117 yL_limit := fun a U h => h.use a 631 (by decide +kernel) (by decide +kernel)
theorem mh_L_limit : ∀ (a : Array Value) (U : State), Wd U → (Cond.static yL_limit).before a U = true ∧ (Cond.initialized yL_limit.cls).before a U = true ∧ (Cond.codeWith yL_limit cL_limit 6 (some .int) [(0, 12, 15, 13)]).before a U = true := fun a U h => ⟨h.use a 632 (by decide +kernel) (by decide +kernel), h.use a 58 (by decide +kernel) (by decide +kernel), h.use a 633 (by decide +kernel) (by decide +kernel)⟩
theorem yf_L_limit : YF yL_limit 5 := ⟨⟨by decide +kernel, by decide +kernel⟩, by decide +kernel⟩
theorem yf_X4_append : YF yX4_append 1 := ⟨⟨by decide +kernel, by decide +kernel⟩, by decide +kernel⟩
theorem me_X4_append : MeV yX4_append cX4_append 2 (some .int) := fun a U h => ⟨h.use a 871 (by decide +kernel) (by decide +kernel), h.use a 872 (by decide +kernel) (by decide +kernel), h.use a 63 (by decide +kernel) (by decide +kernel), h.use a 873 (by decide +kernel) (by decide +kernel)⟩
theorem lk_L_123 : Lk RL 123 yX4_append := fun a U h => h.use a 870 (by decide +kernel) (by decide +kernel)
theorem lk_L_121 : Lk RL 121 yL_append := fun a U h => h.use a 638 (by decide +kernel) (by decide +kernel)
theorem mh_L_append : ∀ (a : Array Value) (U : State), Wd U → (Cond.static yL_append).before a U = true ∧ (Cond.initialized yL_append.cls).before a U = true ∧ (Cond.codeWith yL_append cL_append 4 (some .int) [(0, 9, 12, 13), (0, 9, 15, 47)]).before a U = true := fun a U h => ⟨h.use a 639 (by decide +kernel) (by decide +kernel), h.use a 58 (by decide +kernel) (by decide +kernel), h.use a 640 (by decide +kernel) (by decide +kernel)⟩
theorem yf_L_append : YF yL_append 3 := ⟨⟨by decide +kernel, by decide +kernel⟩, by decide +kernel⟩
theorem yf_X3_clearBuffer : YF yX3_clearBuffer 0 := ⟨⟨by decide +kernel, by decide +kernel⟩, by decide +kernel⟩
theorem me_X3_clearBuffer : MeV yX3_clearBuffer cX3_clearBuffer 2 (some .int) := fun a U h => ⟨h.use a 209 (by decide +kernel) (by decide +kernel), h.use a 210 (by decide +kernel) (by decide +kernel), h.use a 59 (by decide +kernel) (by decide +kernel), h.use a 211 (by decide +kernel) (by decide +kernel)⟩
theorem lk_L_124 : Lk RL 124 yX3_clearBuffer := fun a U h => h.use a 208 (by decide +kernel) (by decide +kernel)
theorem yf_X4_clearBuffer : YF yX4_clearBuffer 0 := ⟨⟨by decide +kernel, by decide +kernel⟩, by decide +kernel⟩
theorem me_X4_clearBuffer : MeV yX4_clearBuffer cX4_clearBuffer 2 (some .int) := fun a U h => ⟨h.use a 875 (by decide +kernel) (by decide +kernel), h.use a 876 (by decide +kernel) (by decide +kernel), h.use a 63 (by decide +kernel) (by decide +kernel), h.use a 877 (by decide +kernel) (by decide +kernel)⟩
theorem lk_L_127 : Lk RL 127 yX4_clearBuffer := fun a U h => h.use a 874 (by decide +kernel) (by decide +kernel)
theorem yf_X3_firstError : YF yX3_firstError 0 := ⟨⟨by decide +kernel, by decide +kernel⟩, by decide +kernel⟩
theorem me_X3_firstError : MeV yX3_firstError cX3_firstError 1 (some .int) := fun a U h => ⟨h.use a 213 (by decide +kernel) (by decide +kernel), h.use a 214 (by decide +kernel) (by decide +kernel), h.use a 59 (by decide +kernel) (by decide +kernel), h.use a 215 (by decide +kernel) (by decide +kernel)⟩
theorem lk_L_128 : Lk RL 128 yX3_firstError := fun a U h => h.use a 212 (by decide +kernel) (by decide +kernel)
theorem yf_X4_firstError : YF yX4_firstError 0 := ⟨⟨by decide +kernel, by decide +kernel⟩, by decide +kernel⟩
theorem me_X4_firstError : MeV yX4_firstError cX4_firstError 2 (some .int) := fun a U h => ⟨h.use a 879 (by decide +kernel) (by decide +kernel), h.use a 880 (by decide +kernel) (by decide +kernel), h.use a 63 (by decide +kernel) (by decide +kernel), h.use a 881 (by decide +kernel) (by decide +kernel)⟩
theorem lk_L_131 : Lk RL 131 yX4_firstError := fun a U h => h.use a 878 (by decide +kernel) (by decide +kernel)
theorem yf_X4_ask : YF yX4_ask 1 := ⟨⟨by decide +kernel, by decide +kernel⟩, by decide +kernel⟩
theorem me_X4_ask : MeV yX4_ask cX4_ask 3 (some .int) := fun a U h => ⟨h.use a 899 (by decide +kernel) (by decide +kernel), h.use a 900 (by decide +kernel) (by decide +kernel), h.use a 63 (by decide +kernel) (by decide +kernel), h.use a 901 (by decide +kernel) (by decide +kernel)⟩
theorem lk_L_134 : Lk RL 134 yX4_ask := fun a U h => h.use a 898 (by decide +kernel) (by decide +kernel)
theorem lk_L_132 : Lk RL 132 yL_ask := fun a U h => h.use a 662 (by decide +kernel) (by decide +kernel)
theorem mh_L_ask : ∀ (a : Array Value) (U : State), Wd U → (Cond.static yL_ask).before a U = true ∧ (Cond.initialized yL_ask.cls).before a U = true ∧ (Cond.codeWith yL_ask cL_ask 4 (some .int) [(0, 9, 12, 13)]).before a U = true := fun a U h => ⟨h.use a 663 (by decide +kernel) (by decide +kernel), h.use a 58 (by decide +kernel) (by decide +kernel), h.use a 664 (by decide +kernel) (by decide +kernel)⟩
theorem yf_L_ask : YF yL_ask 3 := ⟨⟨by decide +kernel, by decide +kernel⟩, by decide +kernel⟩
theorem yf_X4_purge : YF yX4_purge 1 := ⟨⟨by decide +kernel, by decide +kernel⟩, by decide +kernel⟩
theorem me_X4_purge : MeV yX4_purge cX4_purge 4 (some .int) := fun a U h => ⟨h.use a 923 (by decide +kernel) (by decide +kernel), h.use a 924 (by decide +kernel) (by decide +kernel), h.use a 63 (by decide +kernel) (by decide +kernel), h.use a 925 (by decide +kernel) (by decide +kernel)⟩
theorem lk_L_137 : Lk RL 137 yX4_purge := fun a U h => h.use a 922 (by decide +kernel) (by decide +kernel)
theorem lk_L_135 : Lk RL 135 yL_purge := fun a U h => h.use a 669 (by decide +kernel) (by decide +kernel)
theorem mh_L_purge : ∀ (a : Array Value) (U : State), Wd U → (Cond.static yL_purge).before a U = true ∧ (Cond.initialized yL_purge.cls).before a U = true ∧ (Cond.codeWith yL_purge cL_purge 4 (some .int) [(0, 9, 12, 13)]).before a U = true := fun a U h => ⟨h.use a 670 (by decide +kernel) (by decide +kernel), h.use a 58 (by decide +kernel) (by decide +kernel), h.use a 671 (by decide +kernel) (by decide +kernel)⟩
theorem yf_L_purge : YF yL_purge 3 := ⟨⟨by decide +kernel, by decide +kernel⟩, by decide +kernel⟩
theorem yf_X4_undo : YF yX4_undo 0 := ⟨⟨by decide +kernel, by decide +kernel⟩, by decide +kernel⟩
theorem me_X4_undo : MeV yX4_undo cX4_undo 2 (some .int) := fun a U h => ⟨h.use a 766 (by decide +kernel) (by decide +kernel), h.use a 767 (by decide +kernel) (by decide +kernel), h.use a 63 (by decide +kernel) (by decide +kernel), h.use a 768 (by decide +kernel) (by decide +kernel)⟩
theorem lk_L_141 : Lk RL 141 yX4_undo := fun a U h => h.use a 765 (by decide +kernel) (by decide +kernel)
theorem lk_L_138 : Lk RL 138 yL_undo := fun a U h => h.use a 676 (by decide +kernel) (by decide +kernel)
theorem mh_L_undo : ∀ (a : Array Value) (U : State), Wd U → (Cond.static yL_undo).before a U = true ∧ (Cond.initialized yL_undo.cls).before a U = true ∧ (Cond.codeWith yL_undo cL_undo 3 (some .int) [(0, 8, 11, 47)]).before a U = true := fun a U h => ⟨h.use a 677 (by decide +kernel) (by decide +kernel), h.use a 58 (by decide +kernel) (by decide +kernel), h.use a 678 (by decide +kernel) (by decide +kernel)⟩
theorem yf_L_undo : YF yL_undo 2 := ⟨⟨by decide +kernel, by decide +kernel⟩, by decide +kernel⟩
theorem yf_X4_rowOf : YF yX4_rowOf 2 := ⟨⟨by decide +kernel, by decide +kernel⟩, by decide +kernel⟩
theorem me_X4_rowOf : MeV yX4_rowOf cX4_rowOf 3 (some .int) := fun a U h => ⟨h.use a 927 (by decide +kernel) (by decide +kernel), h.use a 928 (by decide +kernel) (by decide +kernel), h.use a 63 (by decide +kernel) (by decide +kernel), h.use a 929 (by decide +kernel) (by decide +kernel)⟩
theorem lk_L_144 : Lk RL 144 yX4_rowOf := fun a U h => h.use a 926 (by decide +kernel) (by decide +kernel)
theorem lk_L_142 : Lk RL 142 yL_rowOf := fun a U h => h.use a 684 (by decide +kernel) (by decide +kernel)
theorem mh_L_rowOf : ∀ (a : Array Value) (U : State), Wd U → (Cond.static yL_rowOf).before a U = true ∧ (Cond.initialized yL_rowOf.cls).before a U = true ∧ (Cond.codeWith yL_rowOf cL_rowOf 5 (some .int) [(0, 10, 13, 32), (0, 10, 17, 13)]).before a U = true := fun a U h => ⟨h.use a 685 (by decide +kernel) (by decide +kernel), h.use a 58 (by decide +kernel) (by decide +kernel), h.use a 686 (by decide +kernel) (by decide +kernel)⟩
theorem yf_L_rowOf : YF yL_rowOf 4 := ⟨⟨by decide +kernel, by decide +kernel⟩, by decide +kernel⟩
theorem yf_X4_column : YF yX4_column 3 := ⟨⟨by decide +kernel, by decide +kernel⟩, by decide +kernel⟩
theorem me_X4_column : MeV yX4_column cX4_column 4 (some .int) := fun a U h => ⟨h.use a 939 (by decide +kernel) (by decide +kernel), h.use a 940 (by decide +kernel) (by decide +kernel), h.use a 63 (by decide +kernel) (by decide +kernel), h.use a 941 (by decide +kernel) (by decide +kernel)⟩
theorem lk_L_147 : Lk RL 147 yX4_column := fun a U h => h.use a 938 (by decide +kernel) (by decide +kernel)
theorem lk_L_145 : Lk RL 145 yL_column := fun a U h => h.use a 688 (by decide +kernel) (by decide +kernel)
theorem mh_L_column : ∀ (a : Array Value) (U : State), Wd U → (Cond.static yL_column).before a U = true ∧ (Cond.initialized yL_column.cls).before a U = true ∧ (Cond.codeWith yL_column cL_column 6 (some .int) [(0, 12, 15, 13)]).before a U = true := fun a U h => ⟨h.use a 689 (by decide +kernel) (by decide +kernel), h.use a 58 (by decide +kernel) (by decide +kernel), h.use a 690 (by decide +kernel) (by decide +kernel)⟩
theorem yf_L_column : YF yL_column 5 := ⟨⟨by decide +kernel, by decide +kernel⟩, by decide +kernel⟩
theorem yf_X4_tenant : YF yX4_tenant 2 := ⟨⟨by decide +kernel, by decide +kernel⟩, by decide +kernel⟩
theorem me_X4_tenant : MeV yX4_tenant cX4_tenant 3 (some .int) := fun a U h => ⟨h.use a 952 (by decide +kernel) (by decide +kernel), h.use a 953 (by decide +kernel) (by decide +kernel), h.use a 63 (by decide +kernel) (by decide +kernel), h.use a 954 (by decide +kernel) (by decide +kernel)⟩
theorem lk_L_150 : Lk RL 150 yX4_tenant := fun a U h => h.use a 951 (by decide +kernel) (by decide +kernel)
theorem lk_L_148 : Lk RL 148 yL_tenant := fun a U h => h.use a 692 (by decide +kernel) (by decide +kernel)
theorem mh_L_tenant : ∀ (a : Array Value) (U : State), Wd U → (Cond.static yL_tenant).before a U = true ∧ (Cond.initialized yL_tenant.cls).before a U = true ∧ (Cond.codeWith yL_tenant cL_tenant 5 (some .int) [(0, 10, 13, 13)]).before a U = true := fun a U h => ⟨h.use a 693 (by decide +kernel) (by decide +kernel), h.use a 58 (by decide +kernel) (by decide +kernel), h.use a 694 (by decide +kernel) (by decide +kernel)⟩
theorem yf_L_tenant : YF yL_tenant 4 := ⟨⟨by decide +kernel, by decide +kernel⟩, by decide +kernel⟩
theorem yf_X4_answer : YF yX4_answer 3 := ⟨⟨by decide +kernel, by decide +kernel⟩, by decide +kernel⟩
theorem me_X4_answer : MeV yX4_answer cX4_answer 4 (some .int) := fun a U h => ⟨h.use a 960 (by decide +kernel) (by decide +kernel), h.use a 961 (by decide +kernel) (by decide +kernel), h.use a 63 (by decide +kernel) (by decide +kernel), h.use a 962 (by decide +kernel) (by decide +kernel)⟩
theorem lk_L_153 : Lk RL 153 yX4_answer := fun a U h => h.use a 959 (by decide +kernel) (by decide +kernel)
theorem lk_L_151 : Lk RL 151 yL_answer := fun a U h => h.use a 696 (by decide +kernel) (by decide +kernel)
theorem mh_L_answer : ∀ (a : Array Value) (U : State), Wd U → (Cond.static yL_answer).before a U = true ∧ (Cond.initialized yL_answer.cls).before a U = true ∧ (Cond.codeWith yL_answer cL_answer 6 (some .int) [(0, 12, 15, 13)]).before a U = true := fun a U h => ⟨h.use a 697 (by decide +kernel) (by decide +kernel), h.use a 58 (by decide +kernel) (by decide +kernel), h.use a 698 (by decide +kernel) (by decide +kernel)⟩
theorem yf_L_answer : YF yL_answer 5 := ⟨⟨by decide +kernel, by decide +kernel⟩, by decide +kernel⟩
theorem yf_X4_count : YF yX4_count 1 := ⟨⟨by decide +kernel, by decide +kernel⟩, by decide +kernel⟩
theorem me_X4_count : MeV yX4_count cX4_count 2 (some .int) := fun a U h => ⟨h.use a 972 (by decide +kernel) (by decide +kernel), h.use a 973 (by decide +kernel) (by decide +kernel), h.use a 63 (by decide +kernel) (by decide +kernel), h.use a 974 (by decide +kernel) (by decide +kernel)⟩
theorem lk_L_156 : Lk RL 156 yX4_count := fun a U h => h.use a 971 (by decide +kernel) (by decide +kernel)
theorem lk_L_154 : Lk RL 154 yL_count := fun a U h => h.use a 703 (by decide +kernel) (by decide +kernel)
theorem mh_L_count : ∀ (a : Array Value) (U : State), Wd U → (Cond.static yL_count).before a U = true ∧ (Cond.initialized yL_count.cls).before a U = true ∧ (Cond.codeWith yL_count cL_count 4 (some .int) [(0, 9, 12, 13)]).before a U = true := fun a U h => ⟨h.use a 704 (by decide +kernel) (by decide +kernel), h.use a 58 (by decide +kernel) (by decide +kernel), h.use a 705 (by decide +kernel) (by decide +kernel)⟩
theorem yf_L_count : YF yL_count 3 := ⟨⟨by decide +kernel, by decide +kernel⟩, by decide +kernel⟩
theorem yf_X4_looked : YF yX4_looked 2 := ⟨⟨by decide +kernel, by decide +kernel⟩, by decide +kernel⟩
theorem me_X4_looked : MeV yX4_looked cX4_looked 3 (some .int) := fun a U h => ⟨h.use a 992 (by decide +kernel) (by decide +kernel), h.use a 993 (by decide +kernel) (by decide +kernel), h.use a 63 (by decide +kernel) (by decide +kernel), h.use a 994 (by decide +kernel) (by decide +kernel)⟩
theorem lk_L_160 : Lk RL 160 yX4_looked := fun a U h => h.use a 991 (by decide +kernel) (by decide +kernel)
theorem lk_L_157 : Lk RL 157 yL_looked := fun a U h => h.use a 707 (by decide +kernel) (by decide +kernel)
theorem mh_L_looked : ∀ (a : Array Value) (U : State), Wd U → (Cond.static yL_looked).before a U = true ∧ (Cond.initialized yL_looked.cls).before a U = true ∧ (Cond.codeWith yL_looked cL_looked 5 (some .int) [(0, 10, 13, 13)]).before a U = true := fun a U h => ⟨h.use a 708 (by decide +kernel) (by decide +kernel), h.use a 58 (by decide +kernel) (by decide +kernel), h.use a 709 (by decide +kernel) (by decide +kernel)⟩
theorem yf_L_looked : YF yL_looked 4 := ⟨⟨by decide +kernel, by decide +kernel⟩, by decide +kernel⟩
theorem yf_X4_bestIndex : YF yX4_bestIndex 1 := ⟨⟨by decide +kernel, by decide +kernel⟩, by decide +kernel⟩
theorem me_X4_bestIndex : MeV yX4_bestIndex cX4_bestIndex 2 (some .int) := fun a U h => ⟨h.use a 996 (by decide +kernel) (by decide +kernel), h.use a 997 (by decide +kernel) (by decide +kernel), h.use a 63 (by decide +kernel) (by decide +kernel), h.use a 998 (by decide +kernel) (by decide +kernel)⟩
theorem lk_L_163 : Lk RL 163 yX4_bestIndex := fun a U h => h.use a 995 (by decide +kernel) (by decide +kernel)
theorem lk_L_161 : Lk RL 161 yL_bestIndex := fun a U h => h.use a 714 (by decide +kernel) (by decide +kernel)
theorem mh_L_bestIndex : ∀ (a : Array Value) (U : State), Wd U → (Cond.static yL_bestIndex).before a U = true ∧ (Cond.initialized yL_bestIndex.cls).before a U = true ∧ (Cond.codeWith yL_bestIndex cL_bestIndex 4 (some .int) [(0, 9, 12, 13)]).before a U = true := fun a U h => ⟨h.use a 715 (by decide +kernel) (by decide +kernel), h.use a 58 (by decide +kernel) (by decide +kernel), h.use a 716 (by decide +kernel) (by decide +kernel)⟩
theorem yf_L_bestIndex : YF yL_bestIndex 3 := ⟨⟨by decide +kernel, by decide +kernel⟩, by decide +kernel⟩
theorem lk_L_164 : Lk RL 164 yX3_fullness := fun a U h => h.use a 251 (by decide +kernel) (by decide +kernel)
theorem yf_X4_fullness : YF yX4_fullness 0 := ⟨⟨by decide +kernel, by decide +kernel⟩, by decide +kernel⟩
theorem me_X4_fullness : MeV yX4_fullness cX4_fullness 1 (some .double) := fun a U h => ⟨h.use a 1004 (by decide +kernel) (by decide +kernel), h.use a 1005 (by decide +kernel) (by decide +kernel), h.use a 63 (by decide +kernel) (by decide +kernel), h.use a 1006 (by decide +kernel) (by decide +kernel)⟩
theorem lk_L_168 : Lk RL 168 yX4_fullness := fun a U h => h.use a 1003 (by decide +kernel) (by decide +kernel)
theorem yf_X3_digest : YF yX3_digest 0 := ⟨⟨by decide +kernel, by decide +kernel⟩, by decide +kernel⟩
theorem me_X3_digest : MeV yX3_digest cX3_digest 5 (some .long) := fun a U h => ⟨h.use a 280 (by decide +kernel) (by decide +kernel), h.use a 281 (by decide +kernel) (by decide +kernel), h.use a 59 (by decide +kernel) (by decide +kernel), h.use a 282 (by decide +kernel) (by decide +kernel)⟩
theorem lk_L_169 : Lk RL 169 yX3_digest := fun a U h => h.use a 279 (by decide +kernel) (by decide +kernel)
theorem yf_X4_digest : YF yX4_digest 0 := ⟨⟨by decide +kernel, by decide +kernel⟩, by decide +kernel⟩
theorem me_X4_digest : MeV yX4_digest cX4_digest 6 (some .long) := fun a U h => ⟨h.use a 1012 (by decide +kernel) (by decide +kernel), h.use a 1013 (by decide +kernel) (by decide +kernel), h.use a 63 (by decide +kernel) (by decide +kernel), h.use a 1014 (by decide +kernel) (by decide +kernel)⟩
theorem lk_L_173 : Lk RL 173 yX4_digest := fun a U h => h.use a 1011 (by decide +kernel) (by decide +kernel)
def J_L_law_1549 (vi : Int32) (kbL : Int32 → Mem → Option Unit) (m4 : Mem) : Option Unit :=
  bd (vi + 4) fun v6 => kbL v6 m4
def J_L_law_225 (vi : Int32) (kbL : Int32 → Mem → Option Unit) (m22 : Mem)  : Option Unit :=
  (J_L_law_1549 vi kbL) m22
def B_law_0 (sL : Nat) (sx : Nat → Int32) (vi : Int32) (mi : Mem) (kbL : Int32 → Mem → Option Unit) : Option Unit :=
  bd (vi + 1) fun v7 => ck (ib v7 sL) (bd (sx (Int32.toNatClampNeg v7)) fun v8 => bd (vi + 2) fun v9 => ck (ib v9 sL) (bd (sx (Int32.toNatClampNeg v9)) fun v10 => bd (vi + 3) fun v11 => ck (ib v11 sL) (bd (sx (Int32.toNatClampNeg v11)) fun v12 => bm (F_L_mean v8 v10 v12 mi) fun v13 m14 => bd (vi + 1) fun v15 => ck (ib v15 sL) (bd (sx (Int32.toNatClampNeg v15)) fun v16 => bd (vi + 2) fun v17 => ck (ib v17 sL) (bd (sx (Int32.toNatClampNeg v17)) fun v18 => bd (vi + 3) fun v19 => ck (ib v19 sL) (bd (sx (Int32.toNatClampNeg v19)) fun v20 => bm (F_X4_mean v16 v18 v20 m14) fun v21 m22 => bo (F_X4_thrown m22) fun v23 => (if v23 = v13 then (if v13 = 0 then ck (ib 0 1) (bd m22.2.2 fun v25 => bd (Int32.toInt64 v21) fun v26 => bd (lg_cmp v25 v26) fun v27 => (if v27 = 0 then (J_L_law_225 vi kbL m22) else none)) else (J_L_law_225 vi kbL m22)) else none)))))))
def J_L_law_293 (vi : Int32) (kbL : Int32 → Mem → Option Unit) (m39 : Mem)  : Option Unit :=
  (J_L_law_1549 vi kbL) m39
def B_law_1 (sL : Nat) (sx : Nat → Int32) (vi : Int32) (mi : Mem) (kbL : Int32 → Mem → Option Unit) : Option Unit :=
  bd (vi + 1) fun v28 => ck (ib v28 sL) (bd (sx (Int32.toNatClampNeg v28)) fun v29 => bd (vi + 2) fun v30 => ck (ib v30 sL) (bd (sx (Int32.toNatClampNeg v30)) fun v31 => bm (F_L_forget v29 v31 mi) fun v32 m33 => bd (vi + 1) fun v34 => ck (ib v34 sL) (bd (sx (Int32.toNatClampNeg v34)) fun v35 => bd (vi + 2) fun v36 => ck (ib v36 sL) (bd (sx (Int32.toNatClampNeg v36)) fun v37 => bm (F_X4_forget v35 v37 m33) fun v38 m39 => bo (F_X4_thrown m39) fun v40 => (if v40 = v32 then (if v32 = 0 then ck (ib 0 1) (bd m39.2.2 fun v42 => bd (Int32.toInt64 v38) fun v43 => bd (lg_cmp v42 v43) fun v44 => (if v44 = 0 then (J_L_law_293 vi kbL m39) else none)) else (J_L_law_293 vi kbL m39)) else none)))))
def J_L_law_349 (vi : Int32) (kbL : Int32 → Mem → Option Unit) (m52 : Mem)  : Option Unit :=
  (J_L_law_1549 vi kbL) m52
def B_law_2 (sL : Nat) (sx : Nat → Int32) (vi : Int32) (mi : Mem) (kbL : Int32 → Mem → Option Unit) : Option Unit :=
  bd (vi + 1) fun v45 => ck (ib v45 sL) (bd (sx (Int32.toNatClampNeg v45)) fun v46 => bm (F_L_pack v46 mi) fun v47 m48 => bd (vi + 1) fun v49 => ck (ib v49 sL) (bd (sx (Int32.toNatClampNeg v49)) fun v50 => bm (F_X4_pack v50 m48) fun v51 m52 => bo (F_X4_thrown m52) fun v53 => (if v53 = v47 then (if v47 = 0 then ck (ib 0 1) (bd m52.2.2 fun v55 => bd (Int32.toInt64 v51) fun v56 => bd (lg_cmp v55 v56) fun v57 => (if v57 = 0 then (J_L_law_349 vi kbL m52) else none)) else (J_L_law_349 vi kbL m52)) else none)))
def J_L_law_417 (vi : Int32) (kbL : Int32 → Mem → Option Unit) (m69 : Mem)  : Option Unit :=
  (J_L_law_1549 vi kbL) m69
def B_law_3 (sL : Nat) (sx : Nat → Int32) (vi : Int32) (mi : Mem) (kbL : Int32 → Mem → Option Unit) : Option Unit :=
  bd (vi + 1) fun v58 => ck (ib v58 sL) (bd (sx (Int32.toNatClampNeg v58)) fun v59 => bd (vi + 2) fun v60 => ck (ib v60 sL) (bd (sx (Int32.toNatClampNeg v60)) fun v61 => bm (F_L_index v59 v61 mi) fun v62 m63 => bd (vi + 1) fun v64 => ck (ib v64 sL) (bd (sx (Int32.toNatClampNeg v64)) fun v65 => bd (vi + 2) fun v66 => ck (ib v66 sL) (bd (sx (Int32.toNatClampNeg v66)) fun v67 => bm (F_X4_index v65 v67 m63) fun v68 m69 => bo (F_X4_thrown m69) fun v70 => (if v70 = v62 then (if v62 = 0 then ck (ib 0 1) (bd m69.2.2 fun v72 => bd (Int32.toInt64 v68) fun v73 => bd (lg_cmp v72 v73) fun v74 => (if v74 = 0 then (J_L_law_417 vi kbL m69) else none)) else (J_L_law_417 vi kbL m69)) else none)))))
def J_L_law_473 (vi : Int32) (kbL : Int32 → Mem → Option Unit) (m82 : Mem)  : Option Unit :=
  (J_L_law_1549 vi kbL) m82
def B_law_4 (sL : Nat) (sx : Nat → Int32) (vi : Int32) (mi : Mem) (kbL : Int32 → Mem → Option Unit) : Option Unit :=
  bd (vi + 1) fun v75 => ck (ib v75 sL) (bd (sx (Int32.toNatClampNeg v75)) fun v76 => bm (F_L_row v76 mi) fun v77 m78 => bd (vi + 1) fun v79 => ck (ib v79 sL) (bd (sx (Int32.toNatClampNeg v79)) fun v80 => bm (F_X4_row v80 m78) fun v81 m82 => bo (F_X4_thrown m82) fun v83 => (if v83 = v77 then (if v77 = 0 then ck (ib 0 1) (bd m82.2.2 fun v85 => bd (Int32.toInt64 v81) fun v86 => bd (lg_cmp v85 v86) fun v87 => (if v87 = 0 then (J_L_law_473 vi kbL m82) else none)) else (J_L_law_473 vi kbL m82)) else none)))
def J_L_law_553 (vi : Int32) (kbL : Int32 → Mem → Option Unit) (m103 : Mem)  : Option Unit :=
  (J_L_law_1549 vi kbL) m103
def B_law_5 (sL : Nat) (sx : Nat → Int32) (vi : Int32) (mi : Mem) (kbL : Int32 → Mem → Option Unit) : Option Unit :=
  bd (vi + 1) fun v88 => ck (ib v88 sL) (bd (sx (Int32.toNatClampNeg v88)) fun v89 => bd (vi + 2) fun v90 => ck (ib v90 sL) (bd (sx (Int32.toNatClampNeg v90)) fun v91 => bd (vi + 3) fun v92 => ck (ib v92 sL) (bd (sx (Int32.toNatClampNeg v92)) fun v93 => bm (F_L_put v89 v91 v93 mi) fun v94 m95 => bd (vi + 1) fun v96 => ck (ib v96 sL) (bd (sx (Int32.toNatClampNeg v96)) fun v97 => bd (vi + 2) fun v98 => ck (ib v98 sL) (bd (sx (Int32.toNatClampNeg v98)) fun v99 => bd (vi + 3) fun v100 => ck (ib v100 sL) (bd (sx (Int32.toNatClampNeg v100)) fun v101 => bm (F_X4_put v97 v99 v101 m95) fun v102 m103 => bo (F_X4_thrown m103) fun v104 => (if v104 = v94 then (if v94 = 0 then ck (ib 0 1) (bd m103.2.2 fun v106 => bd (Int32.toInt64 v102) fun v107 => bd (lg_cmp v106 v107) fun v108 => (if v108 = 0 then (J_L_law_553 vi kbL m103) else none)) else (J_L_law_553 vi kbL m103)) else none)))))))
def J_L_law_609 (vi : Int32) (kbL : Int32 → Mem → Option Unit) (m116 : Mem)  : Option Unit :=
  (J_L_law_1549 vi kbL) m116
def B_law_6 (sL : Nat) (sx : Nat → Int32) (vi : Int32) (mi : Mem) (kbL : Int32 → Mem → Option Unit) : Option Unit :=
  bd (vi + 1) fun v109 => ck (ib v109 sL) (bd (sx (Int32.toNatClampNeg v109)) fun v110 => bm (F_L_remove v110 mi) fun v111 m112 => bd (vi + 1) fun v113 => ck (ib v113 sL) (bd (sx (Int32.toNatClampNeg v113)) fun v114 => bm (F_X4_remove v114 m112) fun v115 m116 => bo (F_X4_thrown m116) fun v117 => (if v117 = v111 then (if v111 = 0 then ck (ib 0 1) (bd m116.2.2 fun v119 => bd (Int32.toInt64 v115) fun v120 => bd (lg_cmp v119 v120) fun v121 => (if v121 = 0 then (J_L_law_609 vi kbL m116) else none)) else (J_L_law_609 vi kbL m116)) else none)))
def J_L_law_665 (vi : Int32) (kbL : Int32 → Mem → Option Unit) (m129 : Mem)  : Option Unit :=
  (J_L_law_1549 vi kbL) m129
def B_law_7 (sL : Nat) (sx : Nat → Int32) (vi : Int32) (mi : Mem) (kbL : Int32 → Mem → Option Unit) : Option Unit :=
  bd (vi + 1) fun v122 => ck (ib v122 sL) (bd (sx (Int32.toNatClampNeg v122)) fun v123 => bm (F_L_move v123 mi) fun v124 m125 => bd (vi + 1) fun v126 => ck (ib v126 sL) (bd (sx (Int32.toNatClampNeg v126)) fun v127 => bm (F_X4_move v127 m125) fun v128 m129 => bo (F_X4_thrown m129) fun v130 => (if v130 = v124 then (if v124 = 0 then ck (ib 0 1) (bd m129.2.2 fun v132 => bd (Int32.toInt64 v128) fun v133 => bd (lg_cmp v132 v133) fun v134 => (if v134 = 0 then (J_L_law_665 vi kbL m129) else none)) else (J_L_law_665 vi kbL m129)) else none)))
def J_L_law_761 (vi : Int32) (kbL : Int32 → Mem → Option Unit) (m154 : Mem)  : Option Unit :=
  (J_L_law_1549 vi kbL) m154
def J_L_law_722 (sL : Nat) (sx : Nat → Int32) (vi : Int32) (kbL : Int32 → Mem → Option Unit) (v143 : Int32) (m144 : Mem) (v146 : Int32) (v149 : Int32) : Option Unit :=
  bd (vi + 3) fun v151 => ck (ib v151 sL) (bd (sx (Int32.toNatClampNeg v151)) fun v152 => bm (F_X4_limit v146 v149 v152 m144) fun v153 m154 => bo (F_X4_thrown m154) fun v155 => (if v155 = v143 then (if v143 = 0 then ck (ib 0 1) (bd m154.2.2 fun v157 => bd (Int32.toInt64 v153) fun v158 => bd (lg_cmp v157 v158) fun v159 => (if v159 = 0 then (J_L_law_761 vi kbL m154) else none)) else (J_L_law_761 vi kbL m154)) else none))
def J_L_law_689 (sL : Nat) (sx : Nat → Int32) (vi : Int32) (mi : Mem) (kbL : Int32 → Mem → Option Unit) (v136 : Int32) (v139 : Int32) : Option Unit :=
  bd (vi + 3) fun v141 => ck (ib v141 sL) (bd (sx (Int32.toNatClampNeg v141)) fun v142 => bm (F_L_limit v136 v139 v142 mi) fun v143 m144 => bd (vi + 1) fun v145 => ck (ib v145 sL) (bd (sx (Int32.toNatClampNeg v145)) fun v146 => bd (vi + 2) fun v147 => ck (ib v147 sL) (bd (sx (Int32.toNatClampNeg v147)) fun v148 => (if v148 = 0 then (J_L_law_722 sL sx vi kbL v143 m144 v146) 0 else (J_L_law_722 sL sx vi kbL v143 m144 v146) 1))))
def B_law_8 (sL : Nat) (sx : Nat → Int32) (vi : Int32) (mi : Mem) (kbL : Int32 → Mem → Option Unit) : Option Unit :=
  bd (vi + 1) fun v135 => ck (ib v135 sL) (bd (sx (Int32.toNatClampNeg v135)) fun v136 => bd (vi + 2) fun v137 => ck (ib v137 sL) (bd (sx (Int32.toNatClampNeg v137)) fun v138 => (if v138 = 0 then (J_L_law_689 sL sx vi mi kbL v136) 0 else (J_L_law_689 sL sx vi mi kbL v136) 1)))
def J_L_law_817 (vi : Int32) (kbL : Int32 → Mem → Option Unit) (m167 : Mem)  : Option Unit :=
  (J_L_law_1549 vi kbL) m167
def B_law_9 (sL : Nat) (sx : Nat → Int32) (vi : Int32) (mi : Mem) (kbL : Int32 → Mem → Option Unit) : Option Unit :=
  bd (vi + 1) fun v160 => ck (ib v160 sL) (bd (sx (Int32.toNatClampNeg v160)) fun v161 => bm (F_L_append v161 mi) fun v162 m163 => bd (vi + 1) fun v164 => ck (ib v164 sL) (bd (sx (Int32.toNatClampNeg v164)) fun v165 => bm (F_X4_append v165 m163) fun v166 m167 => bo (F_X4_thrown m167) fun v168 => (if v168 = v162 then (if v162 = 0 then ck (ib 0 1) (bd m167.2.2 fun v170 => bd (Int32.toInt64 v166) fun v171 => bd (lg_cmp v170 v171) fun v172 => (if v172 = 0 then (J_L_law_817 vi kbL m167) else none)) else (J_L_law_817 vi kbL m167)) else none)))
def B_law_10 (vi : Int32) (mi : Mem) (kbL : Int32 → Mem → Option Unit) : Option Unit :=
  bm (F_X3_clearBuffer mi) fun v173 m174 => bm (F_X4_clearBuffer m174) fun v175 m176 => (if v173 = v175 then (J_L_law_1549 vi kbL) m176 else none)
def B_law_11 (vi : Int32) (mi : Mem) (kbL : Int32 → Mem → Option Unit) : Option Unit :=
  bm (F_X3_firstError mi) fun v177 m178 => bm (F_X4_firstError m178) fun v179 m180 => (if v177 = v179 then (J_L_law_1549 vi kbL) m180 else none)
def J_L_law_899 (vi : Int32) (kbL : Int32 → Mem → Option Unit) (m188 : Mem)  : Option Unit :=
  (J_L_law_1549 vi kbL) m188
def B_law_12 (sL : Nat) (sx : Nat → Int32) (vi : Int32) (mi : Mem) (kbL : Int32 → Mem → Option Unit) : Option Unit :=
  bd (vi + 1) fun v181 => ck (ib v181 sL) (bd (sx (Int32.toNatClampNeg v181)) fun v182 => bm (F_L_ask v182 mi) fun v183 m184 => bd (vi + 1) fun v185 => ck (ib v185 sL) (bd (sx (Int32.toNatClampNeg v185)) fun v186 => bm (F_X4_ask v186 m184) fun v187 m188 => bo (F_X4_thrown m188) fun v189 => (if v189 = v183 then (if v183 = 0 then ck (ib 0 1) (bd m188.2.2 fun v191 => bd (Int32.toInt64 v187) fun v192 => bd (lg_cmp v191 v192) fun v193 => (if v193 = 0 then (J_L_law_899 vi kbL m188) else none)) else (J_L_law_899 vi kbL m188)) else none)))
def J_L_law_955 (vi : Int32) (kbL : Int32 → Mem → Option Unit) (m201 : Mem)  : Option Unit :=
  (J_L_law_1549 vi kbL) m201
def B_law_13 (sL : Nat) (sx : Nat → Int32) (vi : Int32) (mi : Mem) (kbL : Int32 → Mem → Option Unit) : Option Unit :=
  bd (vi + 1) fun v194 => ck (ib v194 sL) (bd (sx (Int32.toNatClampNeg v194)) fun v195 => bm (F_L_purge v195 mi) fun v196 m197 => bd (vi + 1) fun v198 => ck (ib v198 sL) (bd (sx (Int32.toNatClampNeg v198)) fun v199 => bm (F_X4_purge v199 m197) fun v200 m201 => bo (F_X4_thrown m201) fun v202 => (if v202 = v196 then (if v196 = 0 then ck (ib 0 1) (bd m201.2.2 fun v204 => bd (Int32.toInt64 v200) fun v205 => bd (lg_cmp v204 v205) fun v206 => (if v206 = 0 then (J_L_law_955 vi kbL m201) else none)) else (J_L_law_955 vi kbL m201)) else none)))
def J_L_law_999 (vi : Int32) (kbL : Int32 → Mem → Option Unit) (m210 : Mem)  : Option Unit :=
  (J_L_law_1549 vi kbL) m210
def B_law_14 (vi : Int32) (mi : Mem) (kbL : Int32 → Mem → Option Unit) : Option Unit :=
  bm (F_L_undo mi) fun v207 m208 => bm (F_X4_undo m208) fun v209 m210 => bo (F_X4_thrown m210) fun v211 => (if v211 = v207 then (if v207 = 0 then ck (ib 0 1) (bd m210.2.2 fun v213 => bd (Int32.toInt64 v209) fun v214 => bd (lg_cmp v213 v214) fun v215 => (if v215 = 0 then (J_L_law_999 vi kbL m210) else none)) else (J_L_law_999 vi kbL m210)) else none)
def J_L_law_1067 (vi : Int32) (kbL : Int32 → Mem → Option Unit) (m227 : Mem)  : Option Unit :=
  (J_L_law_1549 vi kbL) m227
def B_law_15 (sL : Nat) (sx : Nat → Int32) (vi : Int32) (mi : Mem) (kbL : Int32 → Mem → Option Unit) : Option Unit :=
  bd (vi + 1) fun v216 => ck (ib v216 sL) (bd (sx (Int32.toNatClampNeg v216)) fun v217 => bd (vi + 2) fun v218 => ck (ib v218 sL) (bd (sx (Int32.toNatClampNeg v218)) fun v219 => bm (F_L_rowOf v217 v219 mi) fun v220 m221 => bd (vi + 1) fun v222 => ck (ib v222 sL) (bd (sx (Int32.toNatClampNeg v222)) fun v223 => bd (vi + 2) fun v224 => ck (ib v224 sL) (bd (sx (Int32.toNatClampNeg v224)) fun v225 => bm (F_X4_rowOf v223 v225 m221) fun v226 m227 => bo (F_X4_thrown m227) fun v228 => (if v228 = v220 then (if v220 = 0 then ck (ib 0 1) (bd m227.2.2 fun v230 => bd (Int32.toInt64 v226) fun v231 => bd (lg_cmp v230 v231) fun v232 => (if v232 = 0 then (J_L_law_1067 vi kbL m227) else none)) else (J_L_law_1067 vi kbL m227)) else none)))))
def J_L_law_1147 (vi : Int32) (kbL : Int32 → Mem → Option Unit) (m248 : Mem)  : Option Unit :=
  (J_L_law_1549 vi kbL) m248
def B_law_16 (sL : Nat) (sx : Nat → Int32) (vi : Int32) (mi : Mem) (kbL : Int32 → Mem → Option Unit) : Option Unit :=
  bd (vi + 1) fun v233 => ck (ib v233 sL) (bd (sx (Int32.toNatClampNeg v233)) fun v234 => bd (vi + 2) fun v235 => ck (ib v235 sL) (bd (sx (Int32.toNatClampNeg v235)) fun v236 => bd (vi + 3) fun v237 => ck (ib v237 sL) (bd (sx (Int32.toNatClampNeg v237)) fun v238 => bm (F_L_column v234 v236 v238 mi) fun v239 m240 => bd (vi + 1) fun v241 => ck (ib v241 sL) (bd (sx (Int32.toNatClampNeg v241)) fun v242 => bd (vi + 2) fun v243 => ck (ib v243 sL) (bd (sx (Int32.toNatClampNeg v243)) fun v244 => bd (vi + 3) fun v245 => ck (ib v245 sL) (bd (sx (Int32.toNatClampNeg v245)) fun v246 => bm (F_X4_column v242 v244 v246 m240) fun v247 m248 => bo (F_X4_thrown m248) fun v249 => (if v249 = v239 then (if v239 = 0 then ck (ib 0 1) (bd m248.2.2 fun v251 => bd (Int32.toInt64 v247) fun v252 => bd (lg_cmp v251 v252) fun v253 => (if v253 = 0 then (J_L_law_1147 vi kbL m248) else none)) else (J_L_law_1147 vi kbL m248)) else none)))))))
def J_L_law_1215 (vi : Int32) (kbL : Int32 → Mem → Option Unit) (m265 : Mem)  : Option Unit :=
  (J_L_law_1549 vi kbL) m265
def B_law_17 (sL : Nat) (sx : Nat → Int32) (vi : Int32) (mi : Mem) (kbL : Int32 → Mem → Option Unit) : Option Unit :=
  bd (vi + 1) fun v254 => ck (ib v254 sL) (bd (sx (Int32.toNatClampNeg v254)) fun v255 => bd (vi + 2) fun v256 => ck (ib v256 sL) (bd (sx (Int32.toNatClampNeg v256)) fun v257 => bm (F_L_tenant v255 v257 mi) fun v258 m259 => bd (vi + 1) fun v260 => ck (ib v260 sL) (bd (sx (Int32.toNatClampNeg v260)) fun v261 => bd (vi + 2) fun v262 => ck (ib v262 sL) (bd (sx (Int32.toNatClampNeg v262)) fun v263 => bm (F_X4_tenant v261 v263 m259) fun v264 m265 => bo (F_X4_thrown m265) fun v266 => (if v266 = v258 then (if v258 = 0 then ck (ib 0 1) (bd m265.2.2 fun v268 => bd (Int32.toInt64 v264) fun v269 => bd (lg_cmp v268 v269) fun v270 => (if v270 = 0 then (J_L_law_1215 vi kbL m265) else none)) else (J_L_law_1215 vi kbL m265)) else none)))))
def J_L_law_1295 (vi : Int32) (kbL : Int32 → Mem → Option Unit) (m286 : Mem)  : Option Unit :=
  (J_L_law_1549 vi kbL) m286
def B_law_18 (sL : Nat) (sx : Nat → Int32) (vi : Int32) (mi : Mem) (kbL : Int32 → Mem → Option Unit) : Option Unit :=
  bd (vi + 1) fun v271 => ck (ib v271 sL) (bd (sx (Int32.toNatClampNeg v271)) fun v272 => bd (vi + 2) fun v273 => ck (ib v273 sL) (bd (sx (Int32.toNatClampNeg v273)) fun v274 => bd (vi + 3) fun v275 => ck (ib v275 sL) (bd (sx (Int32.toNatClampNeg v275)) fun v276 => bm (F_L_answer v272 v274 v276 mi) fun v277 m278 => bd (vi + 1) fun v279 => ck (ib v279 sL) (bd (sx (Int32.toNatClampNeg v279)) fun v280 => bd (vi + 2) fun v281 => ck (ib v281 sL) (bd (sx (Int32.toNatClampNeg v281)) fun v282 => bd (vi + 3) fun v283 => ck (ib v283 sL) (bd (sx (Int32.toNatClampNeg v283)) fun v284 => bm (F_X4_answer v280 v282 v284 m278) fun v285 m286 => bo (F_X4_thrown m286) fun v287 => (if v287 = v277 then (if v277 = 0 then ck (ib 0 1) (bd m286.2.2 fun v289 => bd (Int32.toInt64 v285) fun v290 => bd (lg_cmp v289 v290) fun v291 => (if v291 = 0 then (J_L_law_1295 vi kbL m286) else none)) else (J_L_law_1295 vi kbL m286)) else none)))))))
def J_L_law_1351 (vi : Int32) (kbL : Int32 → Mem → Option Unit) (m299 : Mem)  : Option Unit :=
  (J_L_law_1549 vi kbL) m299
def B_law_19 (sL : Nat) (sx : Nat → Int32) (vi : Int32) (mi : Mem) (kbL : Int32 → Mem → Option Unit) : Option Unit :=
  bd (vi + 1) fun v292 => ck (ib v292 sL) (bd (sx (Int32.toNatClampNeg v292)) fun v293 => bm (F_L_count v293 mi) fun v294 m295 => bd (vi + 1) fun v296 => ck (ib v296 sL) (bd (sx (Int32.toNatClampNeg v296)) fun v297 => bm (F_X4_count v297 m295) fun v298 m299 => bo (F_X4_thrown m299) fun v300 => (if v300 = v294 then (if v294 = 0 then ck (ib 0 1) (bd m299.2.2 fun v302 => bd (Int32.toInt64 v298) fun v303 => bd (lg_cmp v302 v303) fun v304 => (if v304 = 0 then (J_L_law_1351 vi kbL m299) else none)) else (J_L_law_1351 vi kbL m299)) else none)))
def J_L_law_1435 (vi : Int32) (kbL : Int32 → Mem → Option Unit) (m320 : Mem)  : Option Unit :=
  (J_L_law_1549 vi kbL) m320
def J_L_law_1402 (vi : Int32) (kbL : Int32 → Mem → Option Unit) (v311 : Int32) (m312 : Mem) (v314 : Int32) (v317 : Int32) : Option Unit :=
  bm (F_X4_looked v314 v317 m312) fun v319 m320 => bo (F_X4_thrown m320) fun v321 => (if v321 = v311 then (if v311 = 0 then ck (ib 0 1) (bd m320.2.2 fun v323 => bd (Int32.toInt64 v319) fun v324 => bd (lg_cmp v323 v324) fun v325 => (if v325 = 0 then (J_L_law_1435 vi kbL m320) else none)) else (J_L_law_1435 vi kbL m320)) else none)
def J_L_law_1375 (sL : Nat) (sx : Nat → Int32) (vi : Int32) (mi : Mem) (kbL : Int32 → Mem → Option Unit) (v306 : Int32) (v309 : Int32) : Option Unit :=
  bm (F_L_looked v306 v309 mi) fun v311 m312 => bd (vi + 1) fun v313 => ck (ib v313 sL) (bd (sx (Int32.toNatClampNeg v313)) fun v314 => bd (vi + 2) fun v315 => ck (ib v315 sL) (bd (sx (Int32.toNatClampNeg v315)) fun v316 => (if v316 = 0 then (J_L_law_1402 vi kbL v311 m312 v314) 0 else (J_L_law_1402 vi kbL v311 m312 v314) 1)))
def B_law_20 (sL : Nat) (sx : Nat → Int32) (vi : Int32) (mi : Mem) (kbL : Int32 → Mem → Option Unit) : Option Unit :=
  bd (vi + 1) fun v305 => ck (ib v305 sL) (bd (sx (Int32.toNatClampNeg v305)) fun v306 => bd (vi + 2) fun v307 => ck (ib v307 sL) (bd (sx (Int32.toNatClampNeg v307)) fun v308 => (if v308 = 0 then (J_L_law_1375 sL sx vi mi kbL v306) 0 else (J_L_law_1375 sL sx vi mi kbL v306) 1)))
def J_L_law_1491 (vi : Int32) (kbL : Int32 → Mem → Option Unit) (m333 : Mem)  : Option Unit :=
  (J_L_law_1549 vi kbL) m333
def B_law_21 (sL : Nat) (sx : Nat → Int32) (vi : Int32) (mi : Mem) (kbL : Int32 → Mem → Option Unit) : Option Unit :=
  bd (vi + 1) fun v326 => ck (ib v326 sL) (bd (sx (Int32.toNatClampNeg v326)) fun v327 => bm (F_L_bestIndex v327 mi) fun v328 m329 => bd (vi + 1) fun v330 => ck (ib v330 sL) (bd (sx (Int32.toNatClampNeg v330)) fun v331 => bm (F_X4_bestIndex v331 m329) fun v332 m333 => bo (F_X4_thrown m333) fun v334 => (if v334 = v328 then (if v328 = 0 then ck (ib 0 1) (bd m333.2.2 fun v336 => bd (Int32.toInt64 v332) fun v337 => bd (lg_cmp v336 v337) fun v338 => (if v338 = 0 then (J_L_law_1491 vi kbL m333) else none)) else (J_L_law_1491 vi kbL m333)) else none)))
def J_L_law_1532 (vi : Int32) (kbL : Int32 → Mem → Option Unit) (m341 : Mem)  : Option Unit :=
  (J_L_law_1549 vi kbL) m341
def J_L_law_1530   : Option Unit :=
  none
def B_law_22 (vi : Int32) (mi : Mem) (kbL : Int32 → Mem → Option Unit) : Option Unit :=
  bo (F_X3_fullness mi) fun v339 => bm (F_X4_fullness mi) fun v340 m341 => bd (Op.cmpValue (FP.dcmp v339 v340) .l) fun v342 => (if v342 = 0 then (J_L_law_1532 vi kbL m341) else bd (Op.cmpValue (FP.dcmp v339 v339) .l) fun v344 => (if v344 = 0 then J_L_law_1530 else bd (Op.cmpValue (FP.dcmp v340 v340) .l) fun v346 => (if v346 = 0 then J_L_law_1530 else (J_L_law_1532 vi kbL m341))))
def B_law_23 (vi : Int32) (mi : Mem) (kbL : Int32 → Mem → Option Unit) : Option Unit :=
  bm (F_X3_digest mi) fun v347 m348 => bm (F_X4_digest m348) fun v349 m350 => bd (lg_cmp v347 v349) fun v351 => (if v351 = 0 then (J_L_law_1549 vi kbL) m350 else none)
def LL (sL : Nat) (sx : Nat → Int32) : Nat → Int32 → Mem → Option Unit
  | 0, _, _ => none
  | n + 1, vi, mi => bd ((Int32.ofNat sL) - 4) fun v1 => (if v1 < vi then some () else ck (ib vi sL) (bd (sx (Int32.toNatClampNeg vi)) fun v2 => bd (v2 &&& 31) fun v3 => (if v3 = 0 then (B_law_0 sL sx vi mi (fun w0 w1 => LL sL sx n w0 w1)) else (if v3 = 1 then (B_law_1 sL sx vi mi (fun w0 w1 => LL sL sx n w0 w1)) else (if v3 = 2 then (B_law_2 sL sx vi mi (fun w0 w1 => LL sL sx n w0 w1)) else (if v3 = 3 then (B_law_3 sL sx vi mi (fun w0 w1 => LL sL sx n w0 w1)) else (if v3 = 4 then (B_law_4 sL sx vi mi (fun w0 w1 => LL sL sx n w0 w1)) else (if v3 = 5 then (B_law_5 sL sx vi mi (fun w0 w1 => LL sL sx n w0 w1)) else (if v3 = 6 then (B_law_6 sL sx vi mi (fun w0 w1 => LL sL sx n w0 w1)) else (if v3 = 7 then (B_law_7 sL sx vi mi (fun w0 w1 => LL sL sx n w0 w1)) else (if v3 = 8 then (B_law_8 sL sx vi mi (fun w0 w1 => LL sL sx n w0 w1)) else (if v3 = 9 then (B_law_9 sL sx vi mi (fun w0 w1 => LL sL sx n w0 w1)) else (if v3 = 10 then (B_law_10 vi mi (fun w0 w1 => LL sL sx n w0 w1)) else (if v3 = 11 then (B_law_11 vi mi (fun w0 w1 => LL sL sx n w0 w1)) else (if v3 = 12 then (B_law_12 sL sx vi mi (fun w0 w1 => LL sL sx n w0 w1)) else (if v3 = 13 then (B_law_13 sL sx vi mi (fun w0 w1 => LL sL sx n w0 w1)) else (if v3 = 14 then (B_law_14 vi mi (fun w0 w1 => LL sL sx n w0 w1)) else (if v3 = 15 then (B_law_15 sL sx vi mi (fun w0 w1 => LL sL sx n w0 w1)) else (if v3 = 16 then (B_law_16 sL sx vi mi (fun w0 w1 => LL sL sx n w0 w1)) else (if v3 = 17 then (B_law_17 sL sx vi mi (fun w0 w1 => LL sL sx n w0 w1)) else (if v3 = 18 then (B_law_18 sL sx vi mi (fun w0 w1 => LL sL sx n w0 w1)) else (if v3 = 19 then (B_law_19 sL sx vi mi (fun w0 w1 => LL sL sx n w0 w1)) else (if v3 = 20 then (B_law_20 sL sx vi mi (fun w0 w1 => LL sL sx n w0 w1)) else (if v3 = 21 then (B_law_21 sL sx vi mi (fun w0 w1 => LL sL sx n w0 w1)) else (if v3 = 22 then (B_law_22 vi mi (fun w0 w1 => LL sL sx n w0 w1)) else (if v3 = 23 then (B_law_23 vi mi (fun w0 w1 => LL sL sx n w0 w1)) else (J_L_law_1549 vi (fun w0 w1 => LL sL sx n w0 w1)) mi))))))))))))))))))))))))))
def LGood (X : XW) (K : MC) (n : Nat) : Prop := Ok X K RL cL_law 9 12 ∧ kce K + n ≤ (kR K).cells ∧ ksl K + 6 * n ≤ (kR K).slots ∧ ∀ c s, c ≤ (kR K).cells → s ≤ (kR K).slots → ∀ pc lv m, decode cL_law pc = .ok (.ireturn, 1) → G X (setc K c s) pc lv [.int 1] m
set_option maxHeartbeats 40000000 in
set_option maxRecDepth 100000 in
theorem law_loop (X : XW) : ∀ (n : Nat) (vi : Int32) (mi : Mem) (K : MC), LGood X K n → LL (xL X) (xs X) n vi mi = some () → G X K 23 [(0, .ref (xb X)), (1, .ref (xad X (0, 0, 0, 0))), (2, .ref (xad X (3, 0, 0, 0))), (3, .ref (xad X (4, 0, 0, 0))), (4, .int vi)] [] mi := by
  intro n
  induction n with
  | zero => intro vi mi K hg hF; exact nomatch (show (none : Option Unit) = some () from hF)
  | succ n ih =>
    intro vi mi K hg hF
    obtain ⟨hk, hc1, hc2, hE0⟩ := hg
    have hroom : kce K + 1 ≤ (kR K).cells ∧ ksl K + 6 ≤ (kR K).slots := ⟨by omega, by omega⟩
    have hk1 : Ok X (setc K (kce K + 1) (ksl K + 6)) RL cL_law 9 12 := ok_setc hk hroom.1 hroom.2
    have hE : ∀ pc lv m, decode cL_law pc = .ok (.ireturn, 1) → G X K pc lv [.int 1] m := fun pc lv m hd => hE0 (kce K) (ksl K) hk.2.2.2.2.2.2.2.2.2.1 hk.2.2.2.2.2.2.2.2.2.2.1 pc lv m hd
    have ih2 : ∀ vi mi, LL (xL X) (xs X) n vi mi = some () → G X (setc K (kce K + 1) (ksl K + 6)) 23 [(0, .ref (xb X)), (1, .ref (xad X (0, 0, 0, 0))), (2, .ref (xad X (3, 0, 0, 0))), (3, .ref (xad X (4, 0, 0, 0))), (4, .int vi)] [] mi := fun vi mi hF => ih vi mi _ ⟨hk1, by show kce K + 1 + n ≤ (kR K).cells; omega, by show ksl K + 6 + 6 * n ≤ (kR K).slots; omega, fun c s h1 h2 => hE0 c s h1 h2⟩ hF
    rw [LL] at hF
    refine r_iload hk 4 (dtL_law_0 13 (23, .iload 4, 2) rfl) rfl ?_
    refine r_aload_n hk 0 (dtL_law_0 14 (25, .aload_n 0, 1) rfl) rfl ?_
    refine r_slen hk (dtL_law_0 15 (26, .arraylength, 1) rfl) ?_
    refine r_iconst (v := 4) hk (dtL_law_0 16 (27, .iconst 4, 1) rfl) (by decide) ?_
    refine r_isub hk hF (dtL_law_0 17 (28, .isub, 1) rfl) (fun v1 hF => ?_)
    refine r_icmp_gt hk 1555 hF (dtL_law_0 18 (29, .if_icmp .gt 1526, 3) rfl) (by decide) (fun hF => ?_) (fun hF => ?_)
    · refine r_iconst (v := 1) hk (dtL_law_14 30 (1555, .iconst 1, 1) rfl) (by decide) ?_
      exact hE _ _ _ (dtL_law_14 31 (1556, .ireturn, 1) rfl)
    · refine r_aload_n hk 0 (dtL_law_0 19 (32, .aload_n 0, 1) rfl) rfl ?_
      refine r_iload hk 4 (dtL_law_0 20 (33, .iload 4, 2) rfl) rfl ?_
      refine r_sld hk hF (dtL_law_0 21 (35, .iaload, 1) rfl) (fun v2 hF => ?_)
      refine r_bipush (v := 31) hk (dtL_law_0 22 (36, .bipush 31, 2) rfl) (by decide) ?_
      refine r_iand hk hF (dtL_law_0 23 (38, .iand, 1) rfl) (fun v3 hF => ?_)
      have j1549_5 : ∀ (m4 : Mem), (J_L_law_1549 vi (fun w0 w1 => LL (xL X) (xs X) n w0 w1)) m4 = some () → G X (setc K (kce K + 1) (ksl K + 6)) 1549 [(0, .ref (xb X)), (1, .ref (xad X (0, 0, 0, 0))), (2, .ref (xad X (3, 0, 0, 0))), (3, .ref (xad X (4, 0, 0, 0))), (4, .int vi)] [] m4 := by
        intro m4 hF
        unfold J_L_law_1549 at hF
        refine r_iinc hk1 4 4 (fun v6 => [(4, .int v6), (0, .ref (xb X)), (1, .ref (xad X (0, 0, 0, 0))), (2, .ref (xad X (3, 0, 0, 0))), (3, .ref (xad X (4, 0, 0, 0)))]) hF (dtL_law_14 28 (1549, .iinc 4 4, 3) rfl) rfl (by decide) (by decide) (fun _ => rfl) (fun v6 hF => ?_)
        refine r_goto hk1 23 (dtL_law_14 29 (1552, .goto (-1529), 3) rfl) (by decide) ?_
        exact r_sub hk1 [1, 2, 3, 4, 0] rfl (ih2 v6 m4 hF)
      by_cases hs0 : v3 = 0
      · rw [if_pos hs0] at hF
        unfold B_law_0 at hF
        refine r_tabIn hk 148 (dtL_law_0 24 (39, .tableswitch 1510 0 23 #[109, 189, 257, 313, 381, 437, 517, 573, 629, 725, 781, 794, 807, 863, 919, 963, 1031, 1111, 1179, 1259, 1315, 1399, 1455, 1496], 109) rfl) (by rw [hs0]; decide) (by rw [hs0]; decide) (by rw [hs0]; rfl) (by decide) ?_
        refine r_aload_n hk 1 (dtL_law_0 25 (148, .aload_n 1, 1) rfl) rfl ?_
        refine r_aload_n hk 0 (dtL_law_0 26 (149, .aload_n 0, 1) rfl) rfl ?_
        refine r_iload hk 4 (dtL_law_0 27 (150, .iload 4, 2) rfl) rfl ?_
        refine r_iconst (v := 1) hk (dtL_law_0 28 (152, .iconst 1, 1) rfl) (by decide) ?_
        refine r_iadd hk hF (dtL_law_0 29 (153, .iadd, 1) rfl) (fun v7 hF => ?_)
        refine r_sld hk hF (dtL_law_0 30 (154, .iaload, 1) rfl) (fun v8 hF => ?_)
        refine r_aload_n hk 0 (dtL_law_0 31 (155, .aload_n 0, 1) rfl) rfl ?_
        refine r_iload hk 4 (dtL_law_0 32 (156, .iload 4, 2) rfl) rfl ?_
        refine r_iconst (v := 2) hk (dtL_law_0 33 (158, .iconst 2, 1) rfl) (by decide) ?_
        refine r_iadd hk hF (dtL_law_0 34 (159, .iadd, 1) rfl) (fun v9 hF => ?_)
        refine r_sld hk hF (dtL_law_0 35 (160, .iaload, 1) rfl) (fun v10 hF => ?_)
        refine r_aload_n hk 0 (dtL_law_0 36 (161, .aload_n 0, 1) rfl) rfl ?_
        refine r_iload hk 4 (dtL_law_0 37 (162, .iload 4, 2) rfl) rfl ?_
        refine r_iconst (v := 3) hk (dtL_law_0 38 (164, .iconst 3, 1) rfl) (by decide) ?_
        refine r_iadd hk hF (dtL_law_0 39 (165, .iadd, 1) rfl) (fun v11 hF => ?_)
        refine r_sld hk hF (dtL_law_0 40 (166, .iaload, 1) rfl) (fun v12 hF => ?_)
        refine r_aload_n hk 3 (dtL_law_0 41 (167, .aload_n 3, 1) rfl) rfl ?_
        refine r_callH hroom hF (fun v13 m14 h H locs ls hH hS hl => run_SW hk hroom (c_L_mean (kl K) hk.2.2.2.2.2.2.2.2.2.2.2 X v8 v10 v12 mi v13 m14 h) lk_L_85 mh_L_mean yf_L_mean (by decide) (by decide) rfl (Nat.le_of_ble_eq_true rfl) rfl (dtL_law_0 42 (168, .invokestatic 85, 3) rfl) hH hS hl) (fun v13 m14 hF => ?_)
        refine r_istore hk1 [(5, .int v13), (0, .ref (xb X)), (1, .ref (xad X (0, 0, 0, 0))), (2, .ref (xad X (3, 0, 0, 0))), (3, .ref (xad X (4, 0, 0, 0))), (4, .int vi)] (dtL_law_0 43 (171, .istore 5, 2) rfl) (by decide) rfl ?_
        refine r_aload_n hk1 3 (dtL_law_0 44 (173, .aload_n 2, 1) rfl) rfl ?_
        refine r_aload_n hk1 1 (dtL_law_0 45 (174, .aload_n 0, 1) rfl) rfl ?_
        refine r_iload hk1 5 (dtL_law_0 46 (175, .iload 4, 2) rfl) rfl ?_
        refine r_iconst (v := 1) hk1 (dtL_law_0 47 (177, .iconst 1, 1) rfl) (by decide) ?_
        refine r_iadd hk1 hF (dtL_law_0 48 (178, .iadd, 1) rfl) (fun v15 hF => ?_)
        refine r_sld hk1 hF (dtL_law_0 49 (179, .iaload, 1) rfl) (fun v16 hF => ?_)
        refine r_aload_n hk1 1 (dtL_law_0 50 (180, .aload_n 0, 1) rfl) rfl ?_
        refine r_iload hk1 5 (dtL_law_0 51 (181, .iload 4, 2) rfl) rfl ?_
        refine r_iconst (v := 2) hk1 (dtL_law_0 52 (183, .iconst 2, 1) rfl) (by decide) ?_
        refine r_iadd hk1 hF (dtL_law_0 53 (184, .iadd, 1) rfl) (fun v17 hF => ?_)
        refine r_sld hk1 hF (dtL_law_0 54 (185, .iaload, 1) rfl) (fun v18 hF => ?_)
        refine r_aload_n hk1 1 (dtL_law_0 55 (186, .aload_n 0, 1) rfl) rfl ?_
        refine r_iload hk1 5 (dtL_law_0 56 (187, .iload 4, 2) rfl) rfl ?_
        refine r_iconst (v := 3) hk1 (dtL_law_0 57 (189, .iconst 3, 1) rfl) (by decide) ?_
        refine r_iadd hk1 hF (dtL_law_0 58 (190, .iadd, 1) rfl) (fun v19 hF => ?_)
        refine r_sld hk1 hF (dtL_law_0 59 (191, .iaload, 1) rfl) (fun v20 hF => ?_)
        refine r_callIm hF (fun v21 m22 h H locs ls hH hS hl => run_V (y := yX4_mean) hk1 (in_mo 0 (by decide)) rfl rfl (c_X4_mean (kl K) hk1.2.2.2.2.2.2.2.2.2.2.2 X  v16 v18 v20 m14 v21 m22 h) lk_L_90 me_X4_mean yf_X4_mean (by decide) (by decide) rfl (Nat.le_of_ble_eq_true rfl) rfl (dtL_law_0 60 (192, .invokevirtual 90, 3) rfl) hH hS hl) (fun v21 m22 hF => ?_)
        refine r_istore hk1 [(6, .int v21), (5, .int v13), (0, .ref (xb X)), (1, .ref (xad X (0, 0, 0, 0))), (2, .ref (xad X (3, 0, 0, 0))), (3, .ref (xad X (4, 0, 0, 0))), (4, .int vi)] (dtL_law_0 61 (195, .istore 6, 2) rfl) (by decide) rfl ?_
        refine r_aload_n hk1 4 (dtL_law_0 62 (197, .aload_n 2, 1) rfl) rfl ?_
        refine r_callI hF (fun v23 h H locs ls hH hS hl => run_V (y := yX4_thrown) hk1 (in_mo 0 (by decide)) rfl rfl (c_X4_thrown (kl K) hk1.2.2.2.2.2.2.2.2.2.2.2 X   m22 v23 h) lk_L_91 me_X4_thrown yf_X4_thrown (by decide) (by decide) rfl (Nat.le_of_ble_eq_true rfl) rfl (dtL_law_0 63 (198, .invokevirtual 91, 3) rfl) hH hS hl) (fun v23 hF => ?_)
        refine r_iload hk1 1 (dtL_law_1 0 (201, .iload 5, 2) rfl) rfl ?_
        refine r_icmp_eq hk1 208 hF (dtL_law_1 1 (203, .if_icmp .eq 5, 3) rfl) (by decide) (fun hF => ?_) (fun hF => ?_)
        · refine r_iload hk1 1 (dtL_law_1 4 (208, .iload 5, 2) rfl) rfl ?_
          have j225_24 : (J_L_law_225 vi (fun w0 w1 => LL (xL X) (xs X) n w0 w1) m22) = some () → G X (setc K (kce K + 1) (ksl K + 6)) 225 [(0, .ref (xb X)), (1, .ref (xad X (0, 0, 0, 0))), (2, .ref (xad X (3, 0, 0, 0))), (3, .ref (xad X (4, 0, 0, 0))), (4, .int vi)] [] m22 := by
            intro hF
            unfold J_L_law_225 at hF
            refine r_goto hk1 1549 (dtL_law_1 15 (225, .goto 1324, 3) rfl) (by decide) ?_
            exact r_sub hk1 [0, 1, 2, 3, 4] rfl (j1549_5 m22 hF)
          refine r_if_ne hk1 225 hF (dtL_law_1 5 (210, .ifCond .ne 15, 3) rfl) (by decide) (fun hF => ?_) (fun hF => ?_)
          · exact r_sub hk1 [2, 3, 4, 5, 6] rfl (j225_24 hF)
          · refine r_aload_n hk1 5 (dtL_law_1 6 (213, .aload_n 3, 1) rfl) rfl ?_
            refine r_iconst (v := 0) hk1 (dtL_law_1 7 (214, .iconst 0, 1) rfl) (by decide) ?_
            refine r_lald hk1 hF (dtL_law_1 8 (215, .laload, 1) rfl) (fun v25 hF => ?_)
            refine r_iload hk1 0 (dtL_law_1 9 (216, .iload 6, 2) rfl) rfl ?_
            refine r_i2l hk1 hF (dtL_law_1 10 (218, .i2l, 1) rfl) (fun v26 hF => ?_)
            refine r_lcmp hk1 hF (dtL_law_1 11 (219, .lcmp, 1) rfl) (fun v27 hF => ?_)
            refine r_if_eq hk1 225 hF (dtL_law_1 12 (220, .ifCond .eq 5, 3) rfl) (by decide) (fun hF => ?_) (fun hF => ?_)
            · exact r_sub hk1 [2, 3, 4, 5, 6] rfl (j225_24 hF)
            · refine r_iconst (v := 0) hk1 (dtL_law_1 13 (223, .iconst 0, 1) rfl) (by decide) ?_
              exact nomatch hF
        · refine r_iconst (v := 0) hk1 (dtL_law_1 2 (206, .iconst 0, 1) rfl) (by decide) ?_
          exact nomatch hF
      · rw [if_neg hs0] at hF
        by_cases hs1 : v3 = 1
        · rw [if_pos hs1] at hF
          unfold B_law_1 at hF
          refine r_tabIn hk 228 (dtL_law_0 24 (39, .tableswitch 1510 0 23 #[109, 189, 257, 313, 381, 437, 517, 573, 629, 725, 781, 794, 807, 863, 919, 963, 1031, 1111, 1179, 1259, 1315, 1399, 1455, 1496], 109) rfl) (by rw [hs1]; decide) (by rw [hs1]; decide) (by rw [hs1]; rfl) (by decide) ?_
          refine r_aload_n hk 1 (dtL_law_1 16 (228, .aload_n 1, 1) rfl) rfl ?_
          refine r_aload_n hk 0 (dtL_law_1 17 (229, .aload_n 0, 1) rfl) rfl ?_
          refine r_iload hk 4 (dtL_law_1 18 (230, .iload 4, 2) rfl) rfl ?_
          refine r_iconst (v := 1) hk (dtL_law_1 19 (232, .iconst 1, 1) rfl) (by decide) ?_
          refine r_iadd hk hF (dtL_law_1 20 (233, .iadd, 1) rfl) (fun v28 hF => ?_)
          refine r_sld hk hF (dtL_law_1 21 (234, .iaload, 1) rfl) (fun v29 hF => ?_)
          refine r_aload_n hk 0 (dtL_law_1 22 (235, .aload_n 0, 1) rfl) rfl ?_
          refine r_iload hk 4 (dtL_law_1 23 (236, .iload 4, 2) rfl) rfl ?_
          refine r_iconst (v := 2) hk (dtL_law_1 24 (238, .iconst 2, 1) rfl) (by decide) ?_
          refine r_iadd hk hF (dtL_law_1 25 (239, .iadd, 1) rfl) (fun v30 hF => ?_)
          refine r_sld hk hF (dtL_law_1 26 (240, .iaload, 1) rfl) (fun v31 hF => ?_)
          refine r_aload_n hk 3 (dtL_law_1 27 (241, .aload_n 3, 1) rfl) rfl ?_
          refine r_callH hroom hF (fun v32 m33 h H locs ls hH hS hl => run_SW hk hroom (c_L_forget (kl K) hk.2.2.2.2.2.2.2.2.2.2.2 X v29 v31 mi v32 m33 h) lk_L_94 mh_L_forget yf_L_forget (by decide) (by decide) rfl (Nat.le_of_ble_eq_true rfl) rfl (dtL_law_1 28 (242, .invokestatic 94, 3) rfl) hH hS hl) (fun v32 m33 hF => ?_)
          refine r_istore hk1 [(5, .int v32), (0, .ref (xb X)), (1, .ref (xad X (0, 0, 0, 0))), (2, .ref (xad X (3, 0, 0, 0))), (3, .ref (xad X (4, 0, 0, 0))), (4, .int vi)] (dtL_law_1 29 (245, .istore 5, 2) rfl) (by decide) rfl ?_
          refine r_aload_n hk1 3 (dtL_law_1 30 (247, .aload_n 2, 1) rfl) rfl ?_
          refine r_aload_n hk1 1 (dtL_law_1 31 (248, .aload_n 0, 1) rfl) rfl ?_
          refine r_iload hk1 5 (dtL_law_1 32 (249, .iload 4, 2) rfl) rfl ?_
          refine r_iconst (v := 1) hk1 (dtL_law_1 33 (251, .iconst 1, 1) rfl) (by decide) ?_
          refine r_iadd hk1 hF (dtL_law_1 34 (252, .iadd, 1) rfl) (fun v34 hF => ?_)
          refine r_sld hk1 hF (dtL_law_1 35 (253, .iaload, 1) rfl) (fun v35 hF => ?_)
          refine r_aload_n hk1 1 (dtL_law_1 36 (254, .aload_n 0, 1) rfl) rfl ?_
          refine r_iload hk1 5 (dtL_law_1 37 (255, .iload 4, 2) rfl) rfl ?_
          refine r_iconst (v := 2) hk1 (dtL_law_1 38 (257, .iconst 2, 1) rfl) (by decide) ?_
          refine r_iadd hk1 hF (dtL_law_1 39 (258, .iadd, 1) rfl) (fun v36 hF => ?_)
          refine r_sld hk1 hF (dtL_law_1 40 (259, .iaload, 1) rfl) (fun v37 hF => ?_)
          refine r_callIm hF (fun v38 m39 h H locs ls hH hS hl => run_V (y := yX4_forget) hk1 (in_mo 0 (by decide)) rfl rfl (c_X4_forget (kl K) hk1.2.2.2.2.2.2.2.2.2.2.2 X  v35 v37 m33 v38 m39 h) lk_L_97 me_X4_forget yf_X4_forget (by decide) (by decide) rfl (Nat.le_of_ble_eq_true rfl) rfl (dtL_law_1 41 (260, .invokevirtual 97, 3) rfl) hH hS hl) (fun v38 m39 hF => ?_)
          refine r_istore hk1 [(6, .int v38), (5, .int v32), (0, .ref (xb X)), (1, .ref (xad X (0, 0, 0, 0))), (2, .ref (xad X (3, 0, 0, 0))), (3, .ref (xad X (4, 0, 0, 0))), (4, .int vi)] (dtL_law_1 42 (263, .istore 6, 2) rfl) (by decide) rfl ?_
          refine r_aload_n hk1 4 (dtL_law_1 43 (265, .aload_n 2, 1) rfl) rfl ?_
          refine r_callI hF (fun v40 h H locs ls hH hS hl => run_V (y := yX4_thrown) hk1 (in_mo 0 (by decide)) rfl rfl (c_X4_thrown (kl K) hk1.2.2.2.2.2.2.2.2.2.2.2 X   m39 v40 h) lk_L_91 me_X4_thrown yf_X4_thrown (by decide) (by decide) rfl (Nat.le_of_ble_eq_true rfl) rfl (dtL_law_1 44 (266, .invokevirtual 91, 3) rfl) hH hS hl) (fun v40 hF => ?_)
          refine r_iload hk1 1 (dtL_law_1 45 (269, .iload 5, 2) rfl) rfl ?_
          refine r_icmp_eq hk1 276 hF (dtL_law_1 46 (271, .if_icmp .eq 5, 3) rfl) (by decide) (fun hF => ?_) (fun hF => ?_)
          · refine r_iload hk1 1 (dtL_law_1 49 (276, .iload 5, 2) rfl) rfl ?_
            have j293_41 : (J_L_law_293 vi (fun w0 w1 => LL (xL X) (xs X) n w0 w1) m39) = some () → G X (setc K (kce K + 1) (ksl K + 6)) 293 [(0, .ref (xb X)), (1, .ref (xad X (0, 0, 0, 0))), (2, .ref (xad X (3, 0, 0, 0))), (3, .ref (xad X (4, 0, 0, 0))), (4, .int vi)] [] m39 := by
              intro hF
              unfold J_L_law_293 at hF
              refine r_goto hk1 1549 (dtL_law_1 60 (293, .goto 1256, 3) rfl) (by decide) ?_
              exact r_sub hk1 [0, 1, 2, 3, 4] rfl (j1549_5 m39 hF)
            refine r_if_ne hk1 293 hF (dtL_law_1 50 (278, .ifCond .ne 15, 3) rfl) (by decide) (fun hF => ?_) (fun hF => ?_)
            · exact r_sub hk1 [2, 3, 4, 5, 6] rfl (j293_41 hF)
            · refine r_aload_n hk1 5 (dtL_law_1 51 (281, .aload_n 3, 1) rfl) rfl ?_
              refine r_iconst (v := 0) hk1 (dtL_law_1 52 (282, .iconst 0, 1) rfl) (by decide) ?_
              refine r_lald hk1 hF (dtL_law_1 53 (283, .laload, 1) rfl) (fun v42 hF => ?_)
              refine r_iload hk1 0 (dtL_law_1 54 (284, .iload 6, 2) rfl) rfl ?_
              refine r_i2l hk1 hF (dtL_law_1 55 (286, .i2l, 1) rfl) (fun v43 hF => ?_)
              refine r_lcmp hk1 hF (dtL_law_1 56 (287, .lcmp, 1) rfl) (fun v44 hF => ?_)
              refine r_if_eq hk1 293 hF (dtL_law_1 57 (288, .ifCond .eq 5, 3) rfl) (by decide) (fun hF => ?_) (fun hF => ?_)
              · exact r_sub hk1 [2, 3, 4, 5, 6] rfl (j293_41 hF)
              · refine r_iconst (v := 0) hk1 (dtL_law_1 58 (291, .iconst 0, 1) rfl) (by decide) ?_
                exact nomatch hF
          · refine r_iconst (v := 0) hk1 (dtL_law_1 47 (274, .iconst 0, 1) rfl) (by decide) ?_
            exact nomatch hF
        · rw [if_neg hs1] at hF
          by_cases hs2 : v3 = 2
          · rw [if_pos hs2] at hF
            unfold B_law_2 at hF
            refine r_tabIn hk 296 (dtL_law_0 24 (39, .tableswitch 1510 0 23 #[109, 189, 257, 313, 381, 437, 517, 573, 629, 725, 781, 794, 807, 863, 919, 963, 1031, 1111, 1179, 1259, 1315, 1399, 1455, 1496], 109) rfl) (by rw [hs2]; decide) (by rw [hs2]; decide) (by rw [hs2]; rfl) (by decide) ?_
            refine r_aload_n hk 1 (dtL_law_1 61 (296, .aload_n 1, 1) rfl) rfl ?_
            refine r_aload_n hk 0 (dtL_law_1 62 (297, .aload_n 0, 1) rfl) rfl ?_
            refine r_iload hk 4 (dtL_law_1 63 (298, .iload 4, 2) rfl) rfl ?_
            refine r_iconst (v := 1) hk (dtL_law_2 0 (300, .iconst 1, 1) rfl) (by decide) ?_
            refine r_iadd hk hF (dtL_law_2 1 (301, .iadd, 1) rfl) (fun v45 hF => ?_)
            refine r_sld hk hF (dtL_law_2 2 (302, .iaload, 1) rfl) (fun v46 hF => ?_)
            refine r_aload_n hk 3 (dtL_law_2 3 (303, .aload_n 3, 1) rfl) rfl ?_
            refine r_callH hroom hF (fun v47 m48 h H locs ls hH hS hl => run_SW hk hroom (c_L_pack (kl K) hk.2.2.2.2.2.2.2.2.2.2.2 X v46 mi v47 m48 h) lk_L_98 mh_L_pack yf_L_pack (by decide) (by decide) rfl (Nat.le_of_ble_eq_true rfl) rfl (dtL_law_2 4 (304, .invokestatic 98, 3) rfl) hH hS hl) (fun v47 m48 hF => ?_)
            refine r_istore hk1 [(5, .int v47), (0, .ref (xb X)), (1, .ref (xad X (0, 0, 0, 0))), (2, .ref (xad X (3, 0, 0, 0))), (3, .ref (xad X (4, 0, 0, 0))), (4, .int vi)] (dtL_law_2 5 (307, .istore 5, 2) rfl) (by decide) rfl ?_
            refine r_aload_n hk1 3 (dtL_law_2 6 (309, .aload_n 2, 1) rfl) rfl ?_
            refine r_aload_n hk1 1 (dtL_law_2 7 (310, .aload_n 0, 1) rfl) rfl ?_
            refine r_iload hk1 5 (dtL_law_2 8 (311, .iload 4, 2) rfl) rfl ?_
            refine r_iconst (v := 1) hk1 (dtL_law_2 9 (313, .iconst 1, 1) rfl) (by decide) ?_
            refine r_iadd hk1 hF (dtL_law_2 10 (314, .iadd, 1) rfl) (fun v49 hF => ?_)
            refine r_sld hk1 hF (dtL_law_2 11 (315, .iaload, 1) rfl) (fun v50 hF => ?_)
            refine r_callIm hF (fun v51 m52 h H locs ls hH hS hl => run_V (y := yX4_pack) hk1 (in_mo 0 (by decide)) rfl rfl (c_X4_pack (kl K) hk1.2.2.2.2.2.2.2.2.2.2.2 X  v50 m48 v51 m52 h) lk_L_101 me_X4_pack yf_X4_pack (by decide) (by decide) rfl (Nat.le_of_ble_eq_true rfl) rfl (dtL_law_2 12 (316, .invokevirtual 101, 3) rfl) hH hS hl) (fun v51 m52 hF => ?_)
            refine r_istore hk1 [(6, .int v51), (5, .int v47), (0, .ref (xb X)), (1, .ref (xad X (0, 0, 0, 0))), (2, .ref (xad X (3, 0, 0, 0))), (3, .ref (xad X (4, 0, 0, 0))), (4, .int vi)] (dtL_law_2 13 (319, .istore 6, 2) rfl) (by decide) rfl ?_
            refine r_aload_n hk1 4 (dtL_law_2 14 (321, .aload_n 2, 1) rfl) rfl ?_
            refine r_callI hF (fun v53 h H locs ls hH hS hl => run_V (y := yX4_thrown) hk1 (in_mo 0 (by decide)) rfl rfl (c_X4_thrown (kl K) hk1.2.2.2.2.2.2.2.2.2.2.2 X   m52 v53 h) lk_L_91 me_X4_thrown yf_X4_thrown (by decide) (by decide) rfl (Nat.le_of_ble_eq_true rfl) rfl (dtL_law_2 15 (322, .invokevirtual 91, 3) rfl) hH hS hl) (fun v53 hF => ?_)
            refine r_iload hk1 1 (dtL_law_2 16 (325, .iload 5, 2) rfl) rfl ?_
            refine r_icmp_eq hk1 332 hF (dtL_law_2 17 (327, .if_icmp .eq 5, 3) rfl) (by decide) (fun hF => ?_) (fun hF => ?_)
            · refine r_iload hk1 1 (dtL_law_2 20 (332, .iload 5, 2) rfl) rfl ?_
              have j349_54 : (J_L_law_349 vi (fun w0 w1 => LL (xL X) (xs X) n w0 w1) m52) = some () → G X (setc K (kce K + 1) (ksl K + 6)) 349 [(0, .ref (xb X)), (1, .ref (xad X (0, 0, 0, 0))), (2, .ref (xad X (3, 0, 0, 0))), (3, .ref (xad X (4, 0, 0, 0))), (4, .int vi)] [] m52 := by
                intro hF
                unfold J_L_law_349 at hF
                refine r_goto hk1 1549 (dtL_law_2 31 (349, .goto 1200, 3) rfl) (by decide) ?_
                exact r_sub hk1 [0, 1, 2, 3, 4] rfl (j1549_5 m52 hF)
              refine r_if_ne hk1 349 hF (dtL_law_2 21 (334, .ifCond .ne 15, 3) rfl) (by decide) (fun hF => ?_) (fun hF => ?_)
              · exact r_sub hk1 [2, 3, 4, 5, 6] rfl (j349_54 hF)
              · refine r_aload_n hk1 5 (dtL_law_2 22 (337, .aload_n 3, 1) rfl) rfl ?_
                refine r_iconst (v := 0) hk1 (dtL_law_2 23 (338, .iconst 0, 1) rfl) (by decide) ?_
                refine r_lald hk1 hF (dtL_law_2 24 (339, .laload, 1) rfl) (fun v55 hF => ?_)
                refine r_iload hk1 0 (dtL_law_2 25 (340, .iload 6, 2) rfl) rfl ?_
                refine r_i2l hk1 hF (dtL_law_2 26 (342, .i2l, 1) rfl) (fun v56 hF => ?_)
                refine r_lcmp hk1 hF (dtL_law_2 27 (343, .lcmp, 1) rfl) (fun v57 hF => ?_)
                refine r_if_eq hk1 349 hF (dtL_law_2 28 (344, .ifCond .eq 5, 3) rfl) (by decide) (fun hF => ?_) (fun hF => ?_)
                · exact r_sub hk1 [2, 3, 4, 5, 6] rfl (j349_54 hF)
                · refine r_iconst (v := 0) hk1 (dtL_law_2 29 (347, .iconst 0, 1) rfl) (by decide) ?_
                  exact nomatch hF
            · refine r_iconst (v := 0) hk1 (dtL_law_2 18 (330, .iconst 0, 1) rfl) (by decide) ?_
              exact nomatch hF
          · rw [if_neg hs2] at hF
            by_cases hs3 : v3 = 3
            · rw [if_pos hs3] at hF
              unfold B_law_3 at hF
              refine r_tabIn hk 352 (dtL_law_0 24 (39, .tableswitch 1510 0 23 #[109, 189, 257, 313, 381, 437, 517, 573, 629, 725, 781, 794, 807, 863, 919, 963, 1031, 1111, 1179, 1259, 1315, 1399, 1455, 1496], 109) rfl) (by rw [hs3]; decide) (by rw [hs3]; decide) (by rw [hs3]; rfl) (by decide) ?_
              refine r_aload_n hk 1 (dtL_law_2 32 (352, .aload_n 1, 1) rfl) rfl ?_
              refine r_aload_n hk 0 (dtL_law_2 33 (353, .aload_n 0, 1) rfl) rfl ?_
              refine r_iload hk 4 (dtL_law_2 34 (354, .iload 4, 2) rfl) rfl ?_
              refine r_iconst (v := 1) hk (dtL_law_2 35 (356, .iconst 1, 1) rfl) (by decide) ?_
              refine r_iadd hk hF (dtL_law_2 36 (357, .iadd, 1) rfl) (fun v58 hF => ?_)
              refine r_sld hk hF (dtL_law_2 37 (358, .iaload, 1) rfl) (fun v59 hF => ?_)
              refine r_aload_n hk 0 (dtL_law_2 38 (359, .aload_n 0, 1) rfl) rfl ?_
              refine r_iload hk 4 (dtL_law_2 39 (360, .iload 4, 2) rfl) rfl ?_
              refine r_iconst (v := 2) hk (dtL_law_2 40 (362, .iconst 2, 1) rfl) (by decide) ?_
              refine r_iadd hk hF (dtL_law_2 41 (363, .iadd, 1) rfl) (fun v60 hF => ?_)
              refine r_sld hk hF (dtL_law_2 42 (364, .iaload, 1) rfl) (fun v61 hF => ?_)
              refine r_aload_n hk 3 (dtL_law_2 43 (365, .aload_n 3, 1) rfl) rfl ?_
              refine r_callH hroom hF (fun v62 m63 h H locs ls hH hS hl => run_SW hk hroom (c_L_index (kl K) hk.2.2.2.2.2.2.2.2.2.2.2 X v59 v61 mi v62 m63 h) lk_L_102 mh_L_index yf_L_index (by decide) (by decide) rfl (Nat.le_of_ble_eq_true rfl) rfl (dtL_law_2 44 (366, .invokestatic 102, 3) rfl) hH hS hl) (fun v62 m63 hF => ?_)
              refine r_istore hk1 [(5, .int v62), (0, .ref (xb X)), (1, .ref (xad X (0, 0, 0, 0))), (2, .ref (xad X (3, 0, 0, 0))), (3, .ref (xad X (4, 0, 0, 0))), (4, .int vi)] (dtL_law_2 45 (369, .istore 5, 2) rfl) (by decide) rfl ?_
              refine r_aload_n hk1 3 (dtL_law_2 46 (371, .aload_n 2, 1) rfl) rfl ?_
              refine r_aload_n hk1 1 (dtL_law_2 47 (372, .aload_n 0, 1) rfl) rfl ?_
              refine r_iload hk1 5 (dtL_law_2 48 (373, .iload 4, 2) rfl) rfl ?_
              refine r_iconst (v := 1) hk1 (dtL_law_2 49 (375, .iconst 1, 1) rfl) (by decide) ?_
              refine r_iadd hk1 hF (dtL_law_2 50 (376, .iadd, 1) rfl) (fun v64 hF => ?_)
              refine r_sld hk1 hF (dtL_law_2 51 (377, .iaload, 1) rfl) (fun v65 hF => ?_)
              refine r_aload_n hk1 1 (dtL_law_2 52 (378, .aload_n 0, 1) rfl) rfl ?_
              refine r_iload hk1 5 (dtL_law_2 53 (379, .iload 4, 2) rfl) rfl ?_
              refine r_iconst (v := 2) hk1 (dtL_law_2 54 (381, .iconst 2, 1) rfl) (by decide) ?_
              refine r_iadd hk1 hF (dtL_law_2 55 (382, .iadd, 1) rfl) (fun v66 hF => ?_)
              refine r_sld hk1 hF (dtL_law_2 56 (383, .iaload, 1) rfl) (fun v67 hF => ?_)
              refine r_callIm hF (fun v68 m69 h H locs ls hH hS hl => run_V (y := yX4_index) hk1 (in_mo 0 (by decide)) rfl rfl (c_X4_index (kl K) hk1.2.2.2.2.2.2.2.2.2.2.2 X  v65 v67 m63 v68 m69 h) lk_L_104 me_X4_index yf_X4_index (by decide) (by decide) rfl (Nat.le_of_ble_eq_true rfl) rfl (dtL_law_2 57 (384, .invokevirtual 104, 3) rfl) hH hS hl) (fun v68 m69 hF => ?_)
              refine r_istore hk1 [(6, .int v68), (5, .int v62), (0, .ref (xb X)), (1, .ref (xad X (0, 0, 0, 0))), (2, .ref (xad X (3, 0, 0, 0))), (3, .ref (xad X (4, 0, 0, 0))), (4, .int vi)] (dtL_law_2 58 (387, .istore 6, 2) rfl) (by decide) rfl ?_
              refine r_aload_n hk1 4 (dtL_law_2 59 (389, .aload_n 2, 1) rfl) rfl ?_
              refine r_callI hF (fun v70 h H locs ls hH hS hl => run_V (y := yX4_thrown) hk1 (in_mo 0 (by decide)) rfl rfl (c_X4_thrown (kl K) hk1.2.2.2.2.2.2.2.2.2.2.2 X   m69 v70 h) lk_L_91 me_X4_thrown yf_X4_thrown (by decide) (by decide) rfl (Nat.le_of_ble_eq_true rfl) rfl (dtL_law_2 60 (390, .invokevirtual 91, 3) rfl) hH hS hl) (fun v70 hF => ?_)
              refine r_iload hk1 1 (dtL_law_2 61 (393, .iload 5, 2) rfl) rfl ?_
              refine r_icmp_eq hk1 400 hF (dtL_law_2 62 (395, .if_icmp .eq 5, 3) rfl) (by decide) (fun hF => ?_) (fun hF => ?_)
              · refine r_iload hk1 1 (dtL_law_3 1 (400, .iload 5, 2) rfl) rfl ?_
                have j417_71 : (J_L_law_417 vi (fun w0 w1 => LL (xL X) (xs X) n w0 w1) m69) = some () → G X (setc K (kce K + 1) (ksl K + 6)) 417 [(0, .ref (xb X)), (1, .ref (xad X (0, 0, 0, 0))), (2, .ref (xad X (3, 0, 0, 0))), (3, .ref (xad X (4, 0, 0, 0))), (4, .int vi)] [] m69 := by
                  intro hF
                  unfold J_L_law_417 at hF
                  refine r_goto hk1 1549 (dtL_law_3 12 (417, .goto 1132, 3) rfl) (by decide) ?_
                  exact r_sub hk1 [0, 1, 2, 3, 4] rfl (j1549_5 m69 hF)
                refine r_if_ne hk1 417 hF (dtL_law_3 2 (402, .ifCond .ne 15, 3) rfl) (by decide) (fun hF => ?_) (fun hF => ?_)
                · exact r_sub hk1 [2, 3, 4, 5, 6] rfl (j417_71 hF)
                · refine r_aload_n hk1 5 (dtL_law_3 3 (405, .aload_n 3, 1) rfl) rfl ?_
                  refine r_iconst (v := 0) hk1 (dtL_law_3 4 (406, .iconst 0, 1) rfl) (by decide) ?_
                  refine r_lald hk1 hF (dtL_law_3 5 (407, .laload, 1) rfl) (fun v72 hF => ?_)
                  refine r_iload hk1 0 (dtL_law_3 6 (408, .iload 6, 2) rfl) rfl ?_
                  refine r_i2l hk1 hF (dtL_law_3 7 (410, .i2l, 1) rfl) (fun v73 hF => ?_)
                  refine r_lcmp hk1 hF (dtL_law_3 8 (411, .lcmp, 1) rfl) (fun v74 hF => ?_)
                  refine r_if_eq hk1 417 hF (dtL_law_3 9 (412, .ifCond .eq 5, 3) rfl) (by decide) (fun hF => ?_) (fun hF => ?_)
                  · exact r_sub hk1 [2, 3, 4, 5, 6] rfl (j417_71 hF)
                  · refine r_iconst (v := 0) hk1 (dtL_law_3 10 (415, .iconst 0, 1) rfl) (by decide) ?_
                    exact nomatch hF
              · refine r_iconst (v := 0) hk1 (dtL_law_2 63 (398, .iconst 0, 1) rfl) (by decide) ?_
                exact nomatch hF
            · rw [if_neg hs3] at hF
              by_cases hs4 : v3 = 4
              · rw [if_pos hs4] at hF
                unfold B_law_4 at hF
                refine r_tabIn hk 420 (dtL_law_0 24 (39, .tableswitch 1510 0 23 #[109, 189, 257, 313, 381, 437, 517, 573, 629, 725, 781, 794, 807, 863, 919, 963, 1031, 1111, 1179, 1259, 1315, 1399, 1455, 1496], 109) rfl) (by rw [hs4]; decide) (by rw [hs4]; decide) (by rw [hs4]; rfl) (by decide) ?_
                refine r_aload_n hk 1 (dtL_law_3 13 (420, .aload_n 1, 1) rfl) rfl ?_
                refine r_aload_n hk 0 (dtL_law_3 14 (421, .aload_n 0, 1) rfl) rfl ?_
                refine r_iload hk 4 (dtL_law_3 15 (422, .iload 4, 2) rfl) rfl ?_
                refine r_iconst (v := 1) hk (dtL_law_3 16 (424, .iconst 1, 1) rfl) (by decide) ?_
                refine r_iadd hk hF (dtL_law_3 17 (425, .iadd, 1) rfl) (fun v75 hF => ?_)
                refine r_sld hk hF (dtL_law_3 18 (426, .iaload, 1) rfl) (fun v76 hF => ?_)
                refine r_aload_n hk 3 (dtL_law_3 19 (427, .aload_n 3, 1) rfl) rfl ?_
                refine r_callH hroom hF (fun v77 m78 h H locs ls hH hS hl => run_SW hk hroom (c_L_row (kl K) hk.2.2.2.2.2.2.2.2.2.2.2 X v76 mi v77 m78 h) lk_L_105 mh_L_row yf_L_row (by decide) (by decide) rfl (Nat.le_of_ble_eq_true rfl) rfl (dtL_law_3 20 (428, .invokestatic 105, 3) rfl) hH hS hl) (fun v77 m78 hF => ?_)
                refine r_istore hk1 [(5, .int v77), (0, .ref (xb X)), (1, .ref (xad X (0, 0, 0, 0))), (2, .ref (xad X (3, 0, 0, 0))), (3, .ref (xad X (4, 0, 0, 0))), (4, .int vi)] (dtL_law_3 21 (431, .istore 5, 2) rfl) (by decide) rfl ?_
                refine r_aload_n hk1 3 (dtL_law_3 22 (433, .aload_n 2, 1) rfl) rfl ?_
                refine r_aload_n hk1 1 (dtL_law_3 23 (434, .aload_n 0, 1) rfl) rfl ?_
                refine r_iload hk1 5 (dtL_law_3 24 (435, .iload 4, 2) rfl) rfl ?_
                refine r_iconst (v := 1) hk1 (dtL_law_3 25 (437, .iconst 1, 1) rfl) (by decide) ?_
                refine r_iadd hk1 hF (dtL_law_3 26 (438, .iadd, 1) rfl) (fun v79 hF => ?_)
                refine r_sld hk1 hF (dtL_law_3 27 (439, .iaload, 1) rfl) (fun v80 hF => ?_)
                refine r_callIm hF (fun v81 m82 h H locs ls hH hS hl => run_V (y := yX4_row) hk1 (in_mo 0 (by decide)) rfl rfl (c_X4_row (kl K) hk1.2.2.2.2.2.2.2.2.2.2.2 X  v80 m78 v81 m82 h) lk_L_107 me_X4_row yf_X4_row (by decide) (by decide) rfl (Nat.le_of_ble_eq_true rfl) rfl (dtL_law_3 28 (440, .invokevirtual 107, 3) rfl) hH hS hl) (fun v81 m82 hF => ?_)
                refine r_istore hk1 [(6, .int v81), (5, .int v77), (0, .ref (xb X)), (1, .ref (xad X (0, 0, 0, 0))), (2, .ref (xad X (3, 0, 0, 0))), (3, .ref (xad X (4, 0, 0, 0))), (4, .int vi)] (dtL_law_3 29 (443, .istore 6, 2) rfl) (by decide) rfl ?_
                refine r_aload_n hk1 4 (dtL_law_3 30 (445, .aload_n 2, 1) rfl) rfl ?_
                refine r_callI hF (fun v83 h H locs ls hH hS hl => run_V (y := yX4_thrown) hk1 (in_mo 0 (by decide)) rfl rfl (c_X4_thrown (kl K) hk1.2.2.2.2.2.2.2.2.2.2.2 X   m82 v83 h) lk_L_91 me_X4_thrown yf_X4_thrown (by decide) (by decide) rfl (Nat.le_of_ble_eq_true rfl) rfl (dtL_law_3 31 (446, .invokevirtual 91, 3) rfl) hH hS hl) (fun v83 hF => ?_)
                refine r_iload hk1 1 (dtL_law_3 32 (449, .iload 5, 2) rfl) rfl ?_
                refine r_icmp_eq hk1 456 hF (dtL_law_3 33 (451, .if_icmp .eq 5, 3) rfl) (by decide) (fun hF => ?_) (fun hF => ?_)
                · refine r_iload hk1 1 (dtL_law_3 36 (456, .iload 5, 2) rfl) rfl ?_
                  have j473_84 : (J_L_law_473 vi (fun w0 w1 => LL (xL X) (xs X) n w0 w1) m82) = some () → G X (setc K (kce K + 1) (ksl K + 6)) 473 [(0, .ref (xb X)), (1, .ref (xad X (0, 0, 0, 0))), (2, .ref (xad X (3, 0, 0, 0))), (3, .ref (xad X (4, 0, 0, 0))), (4, .int vi)] [] m82 := by
                    intro hF
                    unfold J_L_law_473 at hF
                    refine r_goto hk1 1549 (dtL_law_3 47 (473, .goto 1076, 3) rfl) (by decide) ?_
                    exact r_sub hk1 [0, 1, 2, 3, 4] rfl (j1549_5 m82 hF)
                  refine r_if_ne hk1 473 hF (dtL_law_3 37 (458, .ifCond .ne 15, 3) rfl) (by decide) (fun hF => ?_) (fun hF => ?_)
                  · exact r_sub hk1 [2, 3, 4, 5, 6] rfl (j473_84 hF)
                  · refine r_aload_n hk1 5 (dtL_law_3 38 (461, .aload_n 3, 1) rfl) rfl ?_
                    refine r_iconst (v := 0) hk1 (dtL_law_3 39 (462, .iconst 0, 1) rfl) (by decide) ?_
                    refine r_lald hk1 hF (dtL_law_3 40 (463, .laload, 1) rfl) (fun v85 hF => ?_)
                    refine r_iload hk1 0 (dtL_law_3 41 (464, .iload 6, 2) rfl) rfl ?_
                    refine r_i2l hk1 hF (dtL_law_3 42 (466, .i2l, 1) rfl) (fun v86 hF => ?_)
                    refine r_lcmp hk1 hF (dtL_law_3 43 (467, .lcmp, 1) rfl) (fun v87 hF => ?_)
                    refine r_if_eq hk1 473 hF (dtL_law_3 44 (468, .ifCond .eq 5, 3) rfl) (by decide) (fun hF => ?_) (fun hF => ?_)
                    · exact r_sub hk1 [2, 3, 4, 5, 6] rfl (j473_84 hF)
                    · refine r_iconst (v := 0) hk1 (dtL_law_3 45 (471, .iconst 0, 1) rfl) (by decide) ?_
                      exact nomatch hF
                · refine r_iconst (v := 0) hk1 (dtL_law_3 34 (454, .iconst 0, 1) rfl) (by decide) ?_
                  exact nomatch hF
              · rw [if_neg hs4] at hF
                by_cases hs5 : v3 = 5
                · rw [if_pos hs5] at hF
                  unfold B_law_5 at hF
                  refine r_tabIn hk 476 (dtL_law_0 24 (39, .tableswitch 1510 0 23 #[109, 189, 257, 313, 381, 437, 517, 573, 629, 725, 781, 794, 807, 863, 919, 963, 1031, 1111, 1179, 1259, 1315, 1399, 1455, 1496], 109) rfl) (by rw [hs5]; decide) (by rw [hs5]; decide) (by rw [hs5]; rfl) (by decide) ?_
                  refine r_aload_n hk 1 (dtL_law_3 48 (476, .aload_n 1, 1) rfl) rfl ?_
                  refine r_aload_n hk 0 (dtL_law_3 49 (477, .aload_n 0, 1) rfl) rfl ?_
                  refine r_iload hk 4 (dtL_law_3 50 (478, .iload 4, 2) rfl) rfl ?_
                  refine r_iconst (v := 1) hk (dtL_law_3 51 (480, .iconst 1, 1) rfl) (by decide) ?_
                  refine r_iadd hk hF (dtL_law_3 52 (481, .iadd, 1) rfl) (fun v88 hF => ?_)
                  refine r_sld hk hF (dtL_law_3 53 (482, .iaload, 1) rfl) (fun v89 hF => ?_)
                  refine r_aload_n hk 0 (dtL_law_3 54 (483, .aload_n 0, 1) rfl) rfl ?_
                  refine r_iload hk 4 (dtL_law_3 55 (484, .iload 4, 2) rfl) rfl ?_
                  refine r_iconst (v := 2) hk (dtL_law_3 56 (486, .iconst 2, 1) rfl) (by decide) ?_
                  refine r_iadd hk hF (dtL_law_3 57 (487, .iadd, 1) rfl) (fun v90 hF => ?_)
                  refine r_sld hk hF (dtL_law_3 58 (488, .iaload, 1) rfl) (fun v91 hF => ?_)
                  refine r_aload_n hk 0 (dtL_law_3 59 (489, .aload_n 0, 1) rfl) rfl ?_
                  refine r_iload hk 4 (dtL_law_3 60 (490, .iload 4, 2) rfl) rfl ?_
                  refine r_iconst (v := 3) hk (dtL_law_3 61 (492, .iconst 3, 1) rfl) (by decide) ?_
                  refine r_iadd hk hF (dtL_law_3 62 (493, .iadd, 1) rfl) (fun v92 hF => ?_)
                  refine r_sld hk hF (dtL_law_3 63 (494, .iaload, 1) rfl) (fun v93 hF => ?_)
                  refine r_aload_n hk 3 (dtL_law_4 0 (495, .aload_n 3, 1) rfl) rfl ?_
                  refine r_callH hroom hF (fun v94 m95 h H locs ls hH hS hl => run_SW hk hroom (c_L_put (kl K) hk.2.2.2.2.2.2.2.2.2.2.2 X v89 v91 v93 mi v94 m95 h) lk_L_108 mh_L_put yf_L_put (by decide) (by decide) rfl (Nat.le_of_ble_eq_true rfl) rfl (dtL_law_4 1 (496, .invokestatic 108, 3) rfl) hH hS hl) (fun v94 m95 hF => ?_)
                  refine r_istore hk1 [(5, .int v94), (0, .ref (xb X)), (1, .ref (xad X (0, 0, 0, 0))), (2, .ref (xad X (3, 0, 0, 0))), (3, .ref (xad X (4, 0, 0, 0))), (4, .int vi)] (dtL_law_4 2 (499, .istore 5, 2) rfl) (by decide) rfl ?_
                  refine r_aload_n hk1 3 (dtL_law_4 3 (501, .aload_n 2, 1) rfl) rfl ?_
                  refine r_aload_n hk1 1 (dtL_law_4 4 (502, .aload_n 0, 1) rfl) rfl ?_
                  refine r_iload hk1 5 (dtL_law_4 5 (503, .iload 4, 2) rfl) rfl ?_
                  refine r_iconst (v := 1) hk1 (dtL_law_4 6 (505, .iconst 1, 1) rfl) (by decide) ?_
                  refine r_iadd hk1 hF (dtL_law_4 7 (506, .iadd, 1) rfl) (fun v96 hF => ?_)
                  refine r_sld hk1 hF (dtL_law_4 8 (507, .iaload, 1) rfl) (fun v97 hF => ?_)
                  refine r_aload_n hk1 1 (dtL_law_4 9 (508, .aload_n 0, 1) rfl) rfl ?_
                  refine r_iload hk1 5 (dtL_law_4 10 (509, .iload 4, 2) rfl) rfl ?_
                  refine r_iconst (v := 2) hk1 (dtL_law_4 11 (511, .iconst 2, 1) rfl) (by decide) ?_
                  refine r_iadd hk1 hF (dtL_law_4 12 (512, .iadd, 1) rfl) (fun v98 hF => ?_)
                  refine r_sld hk1 hF (dtL_law_4 13 (513, .iaload, 1) rfl) (fun v99 hF => ?_)
                  refine r_aload_n hk1 1 (dtL_law_4 14 (514, .aload_n 0, 1) rfl) rfl ?_
                  refine r_iload hk1 5 (dtL_law_4 15 (515, .iload 4, 2) rfl) rfl ?_
                  refine r_iconst (v := 3) hk1 (dtL_law_4 16 (517, .iconst 3, 1) rfl) (by decide) ?_
                  refine r_iadd hk1 hF (dtL_law_4 17 (518, .iadd, 1) rfl) (fun v100 hF => ?_)
                  refine r_sld hk1 hF (dtL_law_4 18 (519, .iaload, 1) rfl) (fun v101 hF => ?_)
                  refine r_callIm hF (fun v102 m103 h H locs ls hH hS hl => run_V (y := yX4_put) hk1 (in_mo 0 (by decide)) rfl rfl (c_X4_put (kl K) hk1.2.2.2.2.2.2.2.2.2.2.2 X  v97 v99 v101 m95 v102 m103 h) lk_L_110 me_X4_put yf_X4_put (by decide) (by decide) rfl (Nat.le_of_ble_eq_true rfl) rfl (dtL_law_4 19 (520, .invokevirtual 110, 3) rfl) hH hS hl) (fun v102 m103 hF => ?_)
                  refine r_istore hk1 [(6, .int v102), (5, .int v94), (0, .ref (xb X)), (1, .ref (xad X (0, 0, 0, 0))), (2, .ref (xad X (3, 0, 0, 0))), (3, .ref (xad X (4, 0, 0, 0))), (4, .int vi)] (dtL_law_4 20 (523, .istore 6, 2) rfl) (by decide) rfl ?_
                  refine r_aload_n hk1 4 (dtL_law_4 21 (525, .aload_n 2, 1) rfl) rfl ?_
                  refine r_callI hF (fun v104 h H locs ls hH hS hl => run_V (y := yX4_thrown) hk1 (in_mo 0 (by decide)) rfl rfl (c_X4_thrown (kl K) hk1.2.2.2.2.2.2.2.2.2.2.2 X   m103 v104 h) lk_L_91 me_X4_thrown yf_X4_thrown (by decide) (by decide) rfl (Nat.le_of_ble_eq_true rfl) rfl (dtL_law_4 22 (526, .invokevirtual 91, 3) rfl) hH hS hl) (fun v104 hF => ?_)
                  refine r_iload hk1 1 (dtL_law_4 23 (529, .iload 5, 2) rfl) rfl ?_
                  refine r_icmp_eq hk1 536 hF (dtL_law_4 24 (531, .if_icmp .eq 5, 3) rfl) (by decide) (fun hF => ?_) (fun hF => ?_)
                  · refine r_iload hk1 1 (dtL_law_4 27 (536, .iload 5, 2) rfl) rfl ?_
                    have j553_105 : (J_L_law_553 vi (fun w0 w1 => LL (xL X) (xs X) n w0 w1) m103) = some () → G X (setc K (kce K + 1) (ksl K + 6)) 553 [(0, .ref (xb X)), (1, .ref (xad X (0, 0, 0, 0))), (2, .ref (xad X (3, 0, 0, 0))), (3, .ref (xad X (4, 0, 0, 0))), (4, .int vi)] [] m103 := by
                      intro hF
                      unfold J_L_law_553 at hF
                      refine r_goto hk1 1549 (dtL_law_4 38 (553, .goto 996, 3) rfl) (by decide) ?_
                      exact r_sub hk1 [0, 1, 2, 3, 4] rfl (j1549_5 m103 hF)
                    refine r_if_ne hk1 553 hF (dtL_law_4 28 (538, .ifCond .ne 15, 3) rfl) (by decide) (fun hF => ?_) (fun hF => ?_)
                    · exact r_sub hk1 [2, 3, 4, 5, 6] rfl (j553_105 hF)
                    · refine r_aload_n hk1 5 (dtL_law_4 29 (541, .aload_n 3, 1) rfl) rfl ?_
                      refine r_iconst (v := 0) hk1 (dtL_law_4 30 (542, .iconst 0, 1) rfl) (by decide) ?_
                      refine r_lald hk1 hF (dtL_law_4 31 (543, .laload, 1) rfl) (fun v106 hF => ?_)
                      refine r_iload hk1 0 (dtL_law_4 32 (544, .iload 6, 2) rfl) rfl ?_
                      refine r_i2l hk1 hF (dtL_law_4 33 (546, .i2l, 1) rfl) (fun v107 hF => ?_)
                      refine r_lcmp hk1 hF (dtL_law_4 34 (547, .lcmp, 1) rfl) (fun v108 hF => ?_)
                      refine r_if_eq hk1 553 hF (dtL_law_4 35 (548, .ifCond .eq 5, 3) rfl) (by decide) (fun hF => ?_) (fun hF => ?_)
                      · exact r_sub hk1 [2, 3, 4, 5, 6] rfl (j553_105 hF)
                      · refine r_iconst (v := 0) hk1 (dtL_law_4 36 (551, .iconst 0, 1) rfl) (by decide) ?_
                        exact nomatch hF
                  · refine r_iconst (v := 0) hk1 (dtL_law_4 25 (534, .iconst 0, 1) rfl) (by decide) ?_
                    exact nomatch hF
                · rw [if_neg hs5] at hF
                  by_cases hs6 : v3 = 6
                  · rw [if_pos hs6] at hF
                    unfold B_law_6 at hF
                    refine r_tabIn hk 556 (dtL_law_0 24 (39, .tableswitch 1510 0 23 #[109, 189, 257, 313, 381, 437, 517, 573, 629, 725, 781, 794, 807, 863, 919, 963, 1031, 1111, 1179, 1259, 1315, 1399, 1455, 1496], 109) rfl) (by rw [hs6]; decide) (by rw [hs6]; decide) (by rw [hs6]; rfl) (by decide) ?_
                    refine r_aload_n hk 1 (dtL_law_4 39 (556, .aload_n 1, 1) rfl) rfl ?_
                    refine r_aload_n hk 0 (dtL_law_4 40 (557, .aload_n 0, 1) rfl) rfl ?_
                    refine r_iload hk 4 (dtL_law_4 41 (558, .iload 4, 2) rfl) rfl ?_
                    refine r_iconst (v := 1) hk (dtL_law_4 42 (560, .iconst 1, 1) rfl) (by decide) ?_
                    refine r_iadd hk hF (dtL_law_4 43 (561, .iadd, 1) rfl) (fun v109 hF => ?_)
                    refine r_sld hk hF (dtL_law_4 44 (562, .iaload, 1) rfl) (fun v110 hF => ?_)
                    refine r_aload_n hk 3 (dtL_law_4 45 (563, .aload_n 3, 1) rfl) rfl ?_
                    refine r_callH hroom hF (fun v111 m112 h H locs ls hH hS hl => run_SW hk hroom (c_L_remove (kl K) hk.2.2.2.2.2.2.2.2.2.2.2 X v110 mi v111 m112 h) lk_L_111 mh_L_remove yf_L_remove (by decide) (by decide) rfl (Nat.le_of_ble_eq_true rfl) rfl (dtL_law_4 46 (564, .invokestatic 111, 3) rfl) hH hS hl) (fun v111 m112 hF => ?_)
                    refine r_istore hk1 [(5, .int v111), (0, .ref (xb X)), (1, .ref (xad X (0, 0, 0, 0))), (2, .ref (xad X (3, 0, 0, 0))), (3, .ref (xad X (4, 0, 0, 0))), (4, .int vi)] (dtL_law_4 47 (567, .istore 5, 2) rfl) (by decide) rfl ?_
                    refine r_aload_n hk1 3 (dtL_law_4 48 (569, .aload_n 2, 1) rfl) rfl ?_
                    refine r_aload_n hk1 1 (dtL_law_4 49 (570, .aload_n 0, 1) rfl) rfl ?_
                    refine r_iload hk1 5 (dtL_law_4 50 (571, .iload 4, 2) rfl) rfl ?_
                    refine r_iconst (v := 1) hk1 (dtL_law_4 51 (573, .iconst 1, 1) rfl) (by decide) ?_
                    refine r_iadd hk1 hF (dtL_law_4 52 (574, .iadd, 1) rfl) (fun v113 hF => ?_)
                    refine r_sld hk1 hF (dtL_law_4 53 (575, .iaload, 1) rfl) (fun v114 hF => ?_)
                    refine r_callIm hF (fun v115 m116 h H locs ls hH hS hl => run_V (y := yX4_remove) hk1 (in_mo 0 (by decide)) rfl rfl (c_X4_remove (kl K) hk1.2.2.2.2.2.2.2.2.2.2.2 X  v114 m112 v115 m116 h) lk_L_113 me_X4_remove yf_X4_remove (by decide) (by decide) rfl (Nat.le_of_ble_eq_true rfl) rfl (dtL_law_4 54 (576, .invokevirtual 113, 3) rfl) hH hS hl) (fun v115 m116 hF => ?_)
                    refine r_istore hk1 [(6, .int v115), (5, .int v111), (0, .ref (xb X)), (1, .ref (xad X (0, 0, 0, 0))), (2, .ref (xad X (3, 0, 0, 0))), (3, .ref (xad X (4, 0, 0, 0))), (4, .int vi)] (dtL_law_4 55 (579, .istore 6, 2) rfl) (by decide) rfl ?_
                    refine r_aload_n hk1 4 (dtL_law_4 56 (581, .aload_n 2, 1) rfl) rfl ?_
                    refine r_callI hF (fun v117 h H locs ls hH hS hl => run_V (y := yX4_thrown) hk1 (in_mo 0 (by decide)) rfl rfl (c_X4_thrown (kl K) hk1.2.2.2.2.2.2.2.2.2.2.2 X   m116 v117 h) lk_L_91 me_X4_thrown yf_X4_thrown (by decide) (by decide) rfl (Nat.le_of_ble_eq_true rfl) rfl (dtL_law_4 57 (582, .invokevirtual 91, 3) rfl) hH hS hl) (fun v117 hF => ?_)
                    refine r_iload hk1 1 (dtL_law_4 58 (585, .iload 5, 2) rfl) rfl ?_
                    refine r_icmp_eq hk1 592 hF (dtL_law_4 59 (587, .if_icmp .eq 5, 3) rfl) (by decide) (fun hF => ?_) (fun hF => ?_)
                    · refine r_iload hk1 1 (dtL_law_4 62 (592, .iload 5, 2) rfl) rfl ?_
                      have j609_118 : (J_L_law_609 vi (fun w0 w1 => LL (xL X) (xs X) n w0 w1) m116) = some () → G X (setc K (kce K + 1) (ksl K + 6)) 609 [(0, .ref (xb X)), (1, .ref (xad X (0, 0, 0, 0))), (2, .ref (xad X (3, 0, 0, 0))), (3, .ref (xad X (4, 0, 0, 0))), (4, .int vi)] [] m116 := by
                        intro hF
                        unfold J_L_law_609 at hF
                        refine r_goto hk1 1549 (dtL_law_5 9 (609, .goto 940, 3) rfl) (by decide) ?_
                        exact r_sub hk1 [0, 1, 2, 3, 4] rfl (j1549_5 m116 hF)
                      refine r_if_ne hk1 609 hF (dtL_law_4 63 (594, .ifCond .ne 15, 3) rfl) (by decide) (fun hF => ?_) (fun hF => ?_)
                      · exact r_sub hk1 [2, 3, 4, 5, 6] rfl (j609_118 hF)
                      · refine r_aload_n hk1 5 (dtL_law_5 0 (597, .aload_n 3, 1) rfl) rfl ?_
                        refine r_iconst (v := 0) hk1 (dtL_law_5 1 (598, .iconst 0, 1) rfl) (by decide) ?_
                        refine r_lald hk1 hF (dtL_law_5 2 (599, .laload, 1) rfl) (fun v119 hF => ?_)
                        refine r_iload hk1 0 (dtL_law_5 3 (600, .iload 6, 2) rfl) rfl ?_
                        refine r_i2l hk1 hF (dtL_law_5 4 (602, .i2l, 1) rfl) (fun v120 hF => ?_)
                        refine r_lcmp hk1 hF (dtL_law_5 5 (603, .lcmp, 1) rfl) (fun v121 hF => ?_)
                        refine r_if_eq hk1 609 hF (dtL_law_5 6 (604, .ifCond .eq 5, 3) rfl) (by decide) (fun hF => ?_) (fun hF => ?_)
                        · exact r_sub hk1 [2, 3, 4, 5, 6] rfl (j609_118 hF)
                        · refine r_iconst (v := 0) hk1 (dtL_law_5 7 (607, .iconst 0, 1) rfl) (by decide) ?_
                          exact nomatch hF
                    · refine r_iconst (v := 0) hk1 (dtL_law_4 60 (590, .iconst 0, 1) rfl) (by decide) ?_
                      exact nomatch hF
                  · rw [if_neg hs6] at hF
                    by_cases hs7 : v3 = 7
                    · rw [if_pos hs7] at hF
                      unfold B_law_7 at hF
                      refine r_tabIn hk 612 (dtL_law_0 24 (39, .tableswitch 1510 0 23 #[109, 189, 257, 313, 381, 437, 517, 573, 629, 725, 781, 794, 807, 863, 919, 963, 1031, 1111, 1179, 1259, 1315, 1399, 1455, 1496], 109) rfl) (by rw [hs7]; decide) (by rw [hs7]; decide) (by rw [hs7]; rfl) (by decide) ?_
                      refine r_aload_n hk 1 (dtL_law_5 10 (612, .aload_n 1, 1) rfl) rfl ?_
                      refine r_aload_n hk 0 (dtL_law_5 11 (613, .aload_n 0, 1) rfl) rfl ?_
                      refine r_iload hk 4 (dtL_law_5 12 (614, .iload 4, 2) rfl) rfl ?_
                      refine r_iconst (v := 1) hk (dtL_law_5 13 (616, .iconst 1, 1) rfl) (by decide) ?_
                      refine r_iadd hk hF (dtL_law_5 14 (617, .iadd, 1) rfl) (fun v122 hF => ?_)
                      refine r_sld hk hF (dtL_law_5 15 (618, .iaload, 1) rfl) (fun v123 hF => ?_)
                      refine r_aload_n hk 3 (dtL_law_5 16 (619, .aload_n 3, 1) rfl) rfl ?_
                      refine r_callH hroom hF (fun v124 m125 h H locs ls hH hS hl => run_SW hk hroom (c_L_move (kl K) hk.2.2.2.2.2.2.2.2.2.2.2 X v123 mi v124 m125 h) lk_L_114 mh_L_move yf_L_move (by decide) (by decide) rfl (Nat.le_of_ble_eq_true rfl) rfl (dtL_law_5 17 (620, .invokestatic 114, 3) rfl) hH hS hl) (fun v124 m125 hF => ?_)
                      refine r_istore hk1 [(5, .int v124), (0, .ref (xb X)), (1, .ref (xad X (0, 0, 0, 0))), (2, .ref (xad X (3, 0, 0, 0))), (3, .ref (xad X (4, 0, 0, 0))), (4, .int vi)] (dtL_law_5 18 (623, .istore 5, 2) rfl) (by decide) rfl ?_
                      refine r_aload_n hk1 3 (dtL_law_5 19 (625, .aload_n 2, 1) rfl) rfl ?_
                      refine r_aload_n hk1 1 (dtL_law_5 20 (626, .aload_n 0, 1) rfl) rfl ?_
                      refine r_iload hk1 5 (dtL_law_5 21 (627, .iload 4, 2) rfl) rfl ?_
                      refine r_iconst (v := 1) hk1 (dtL_law_5 22 (629, .iconst 1, 1) rfl) (by decide) ?_
                      refine r_iadd hk1 hF (dtL_law_5 23 (630, .iadd, 1) rfl) (fun v126 hF => ?_)
                      refine r_sld hk1 hF (dtL_law_5 24 (631, .iaload, 1) rfl) (fun v127 hF => ?_)
                      refine r_callIm hF (fun v128 m129 h H locs ls hH hS hl => run_V (y := yX4_move) hk1 (in_mo 0 (by decide)) rfl rfl (c_X4_move (kl K) hk1.2.2.2.2.2.2.2.2.2.2.2 X  v127 m125 v128 m129 h) lk_L_116 me_X4_move yf_X4_move (by decide) (by decide) rfl (Nat.le_of_ble_eq_true rfl) rfl (dtL_law_5 25 (632, .invokevirtual 116, 3) rfl) hH hS hl) (fun v128 m129 hF => ?_)
                      refine r_istore hk1 [(6, .int v128), (5, .int v124), (0, .ref (xb X)), (1, .ref (xad X (0, 0, 0, 0))), (2, .ref (xad X (3, 0, 0, 0))), (3, .ref (xad X (4, 0, 0, 0))), (4, .int vi)] (dtL_law_5 26 (635, .istore 6, 2) rfl) (by decide) rfl ?_
                      refine r_aload_n hk1 4 (dtL_law_5 27 (637, .aload_n 2, 1) rfl) rfl ?_
                      refine r_callI hF (fun v130 h H locs ls hH hS hl => run_V (y := yX4_thrown) hk1 (in_mo 0 (by decide)) rfl rfl (c_X4_thrown (kl K) hk1.2.2.2.2.2.2.2.2.2.2.2 X   m129 v130 h) lk_L_91 me_X4_thrown yf_X4_thrown (by decide) (by decide) rfl (Nat.le_of_ble_eq_true rfl) rfl (dtL_law_5 28 (638, .invokevirtual 91, 3) rfl) hH hS hl) (fun v130 hF => ?_)
                      refine r_iload hk1 1 (dtL_law_5 29 (641, .iload 5, 2) rfl) rfl ?_
                      refine r_icmp_eq hk1 648 hF (dtL_law_5 30 (643, .if_icmp .eq 5, 3) rfl) (by decide) (fun hF => ?_) (fun hF => ?_)
                      · refine r_iload hk1 1 (dtL_law_5 33 (648, .iload 5, 2) rfl) rfl ?_
                        have j665_131 : (J_L_law_665 vi (fun w0 w1 => LL (xL X) (xs X) n w0 w1) m129) = some () → G X (setc K (kce K + 1) (ksl K + 6)) 665 [(0, .ref (xb X)), (1, .ref (xad X (0, 0, 0, 0))), (2, .ref (xad X (3, 0, 0, 0))), (3, .ref (xad X (4, 0, 0, 0))), (4, .int vi)] [] m129 := by
                          intro hF
                          unfold J_L_law_665 at hF
                          refine r_goto hk1 1549 (dtL_law_5 44 (665, .goto 884, 3) rfl) (by decide) ?_
                          exact r_sub hk1 [0, 1, 2, 3, 4] rfl (j1549_5 m129 hF)
                        refine r_if_ne hk1 665 hF (dtL_law_5 34 (650, .ifCond .ne 15, 3) rfl) (by decide) (fun hF => ?_) (fun hF => ?_)
                        · exact r_sub hk1 [2, 3, 4, 5, 6] rfl (j665_131 hF)
                        · refine r_aload_n hk1 5 (dtL_law_5 35 (653, .aload_n 3, 1) rfl) rfl ?_
                          refine r_iconst (v := 0) hk1 (dtL_law_5 36 (654, .iconst 0, 1) rfl) (by decide) ?_
                          refine r_lald hk1 hF (dtL_law_5 37 (655, .laload, 1) rfl) (fun v132 hF => ?_)
                          refine r_iload hk1 0 (dtL_law_5 38 (656, .iload 6, 2) rfl) rfl ?_
                          refine r_i2l hk1 hF (dtL_law_5 39 (658, .i2l, 1) rfl) (fun v133 hF => ?_)
                          refine r_lcmp hk1 hF (dtL_law_5 40 (659, .lcmp, 1) rfl) (fun v134 hF => ?_)
                          refine r_if_eq hk1 665 hF (dtL_law_5 41 (660, .ifCond .eq 5, 3) rfl) (by decide) (fun hF => ?_) (fun hF => ?_)
                          · exact r_sub hk1 [2, 3, 4, 5, 6] rfl (j665_131 hF)
                          · refine r_iconst (v := 0) hk1 (dtL_law_5 42 (663, .iconst 0, 1) rfl) (by decide) ?_
                            exact nomatch hF
                      · refine r_iconst (v := 0) hk1 (dtL_law_5 31 (646, .iconst 0, 1) rfl) (by decide) ?_
                        exact nomatch hF
                    · rw [if_neg hs7] at hF
                      by_cases hs8 : v3 = 8
                      · rw [if_pos hs8] at hF
                        unfold B_law_8 at hF
                        refine r_tabIn hk 668 (dtL_law_0 24 (39, .tableswitch 1510 0 23 #[109, 189, 257, 313, 381, 437, 517, 573, 629, 725, 781, 794, 807, 863, 919, 963, 1031, 1111, 1179, 1259, 1315, 1399, 1455, 1496], 109) rfl) (by rw [hs8]; decide) (by rw [hs8]; decide) (by rw [hs8]; rfl) (by decide) ?_
                        refine r_aload_n hk 1 (dtL_law_5 45 (668, .aload_n 1, 1) rfl) rfl ?_
                        refine r_aload_n hk 0 (dtL_law_5 46 (669, .aload_n 0, 1) rfl) rfl ?_
                        refine r_iload hk 4 (dtL_law_5 47 (670, .iload 4, 2) rfl) rfl ?_
                        refine r_iconst (v := 1) hk (dtL_law_5 48 (672, .iconst 1, 1) rfl) (by decide) ?_
                        refine r_iadd hk hF (dtL_law_5 49 (673, .iadd, 1) rfl) (fun v135 hF => ?_)
                        refine r_sld hk hF (dtL_law_5 50 (674, .iaload, 1) rfl) (fun v136 hF => ?_)
                        refine r_aload_n hk 0 (dtL_law_5 51 (675, .aload_n 0, 1) rfl) rfl ?_
                        refine r_iload hk 4 (dtL_law_5 52 (676, .iload 4, 2) rfl) rfl ?_
                        refine r_iconst (v := 2) hk (dtL_law_5 53 (678, .iconst 2, 1) rfl) (by decide) ?_
                        refine r_iadd hk hF (dtL_law_5 54 (679, .iadd, 1) rfl) (fun v137 hF => ?_)
                        refine r_sld hk hF (dtL_law_5 55 (680, .iaload, 1) rfl) (fun v138 hF => ?_)
                        have j689_140 : ∀ (v139 : Int32), (J_L_law_689 (xL X) (xs X) vi mi (fun w0 w1 => LL (xL X) (xs X) n w0 w1) v136) v139 = some () → G X K 689 [(0, .ref (xb X)), (1, .ref (xad X (0, 0, 0, 0))), (2, .ref (xad X (3, 0, 0, 0))), (3, .ref (xad X (4, 0, 0, 0))), (4, .int vi)] [.int v139, .int v136, .ref (xad X (0, 0, 0, 0))] mi := by
                          intro v139 hF
                          unfold J_L_law_689 at hF
                          refine r_aload_n hk 0 (dtL_law_5 60 (689, .aload_n 0, 1) rfl) rfl ?_
                          refine r_iload hk 4 (dtL_law_5 61 (690, .iload 4, 2) rfl) rfl ?_
                          refine r_iconst (v := 3) hk (dtL_law_5 62 (692, .iconst 3, 1) rfl) (by decide) ?_
                          refine r_iadd hk hF (dtL_law_5 63 (693, .iadd, 1) rfl) (fun v141 hF => ?_)
                          refine r_sld hk hF (dtL_law_6 0 (694, .iaload, 1) rfl) (fun v142 hF => ?_)
                          refine r_aload_n hk 3 (dtL_law_6 1 (695, .aload_n 3, 1) rfl) rfl ?_
                          refine r_callH hroom hF (fun v143 m144 h H locs ls hH hS hl => run_SW hk hroom (c_L_limit (kl K) hk.2.2.2.2.2.2.2.2.2.2.2 X v136 v139 v142 mi v143 m144 h) lk_L_117 mh_L_limit yf_L_limit (by decide) (by decide) rfl (Nat.le_of_ble_eq_true rfl) rfl (dtL_law_6 2 (696, .invokestatic 117, 3) rfl) hH hS hl) (fun v143 m144 hF => ?_)
                          refine r_istore hk1 [(5, .int v143), (0, .ref (xb X)), (1, .ref (xad X (0, 0, 0, 0))), (2, .ref (xad X (3, 0, 0, 0))), (3, .ref (xad X (4, 0, 0, 0))), (4, .int vi)] (dtL_law_6 3 (699, .istore 5, 2) rfl) (by decide) rfl ?_
                          refine r_aload_n hk1 3 (dtL_law_6 4 (701, .aload_n 2, 1) rfl) rfl ?_
                          refine r_aload_n hk1 1 (dtL_law_6 5 (702, .aload_n 0, 1) rfl) rfl ?_
                          refine r_iload hk1 5 (dtL_law_6 6 (703, .iload 4, 2) rfl) rfl ?_
                          refine r_iconst (v := 1) hk1 (dtL_law_6 7 (705, .iconst 1, 1) rfl) (by decide) ?_
                          refine r_iadd hk1 hF (dtL_law_6 8 (706, .iadd, 1) rfl) (fun v145 hF => ?_)
                          refine r_sld hk1 hF (dtL_law_6 9 (707, .iaload, 1) rfl) (fun v146 hF => ?_)
                          refine r_aload_n hk1 1 (dtL_law_6 10 (708, .aload_n 0, 1) rfl) rfl ?_
                          refine r_iload hk1 5 (dtL_law_6 11 (709, .iload 4, 2) rfl) rfl ?_
                          refine r_iconst (v := 2) hk1 (dtL_law_6 12 (711, .iconst 2, 1) rfl) (by decide) ?_
                          refine r_iadd hk1 hF (dtL_law_6 13 (712, .iadd, 1) rfl) (fun v147 hF => ?_)
                          refine r_sld hk1 hF (dtL_law_6 14 (713, .iaload, 1) rfl) (fun v148 hF => ?_)
                          have j722_150 : ∀ (v149 : Int32), (J_L_law_722 (xL X) (xs X) vi (fun w0 w1 => LL (xL X) (xs X) n w0 w1) v143 m144 v146) v149 = some () → G X (setc K (kce K + 1) (ksl K + 6)) 722 [(0, .ref (xb X)), (1, .ref (xad X (0, 0, 0, 0))), (2, .ref (xad X (3, 0, 0, 0))), (3, .ref (xad X (4, 0, 0, 0))), (4, .int vi), (5, .int v143)] [.int v149, .int v146, .ref (xad X (3, 0, 0, 0))] m144 := by
                            intro v149 hF
                            unfold J_L_law_722 at hF
                            refine r_aload_n hk1 0 (dtL_law_6 19 (722, .aload_n 0, 1) rfl) rfl ?_
                            refine r_iload hk1 4 (dtL_law_6 20 (723, .iload 4, 2) rfl) rfl ?_
                            refine r_iconst (v := 3) hk1 (dtL_law_6 21 (725, .iconst 3, 1) rfl) (by decide) ?_
                            refine r_iadd hk1 hF (dtL_law_6 22 (726, .iadd, 1) rfl) (fun v151 hF => ?_)
                            refine r_sld hk1 hF (dtL_law_6 23 (727, .iaload, 1) rfl) (fun v152 hF => ?_)
                            refine r_callIm hF (fun v153 m154 h H locs ls hH hS hl => run_V (y := yX4_limit) hk1 (in_mo 0 (by decide)) rfl rfl (c_X4_limit (kl K) hk1.2.2.2.2.2.2.2.2.2.2.2 X  v146 v149 v152 m144 v153 m154 h) lk_L_120 me_X4_limit yf_X4_limit (by decide) (by decide) rfl (Nat.le_of_ble_eq_true rfl) rfl (dtL_law_6 24 (728, .invokevirtual 120, 3) rfl) hH hS hl) (fun v153 m154 hF => ?_)
                            refine r_istore hk1 [(6, .int v153), (0, .ref (xb X)), (1, .ref (xad X (0, 0, 0, 0))), (2, .ref (xad X (3, 0, 0, 0))), (3, .ref (xad X (4, 0, 0, 0))), (4, .int vi), (5, .int v143)] (dtL_law_6 25 (731, .istore 6, 2) rfl) (by decide) rfl ?_
                            refine r_aload_n hk1 3 (dtL_law_6 26 (733, .aload_n 2, 1) rfl) rfl ?_
                            refine r_callI hF (fun v155 h H locs ls hH hS hl => run_V (y := yX4_thrown) hk1 (in_mo 0 (by decide)) rfl rfl (c_X4_thrown (kl K) hk1.2.2.2.2.2.2.2.2.2.2.2 X   m154 v155 h) lk_L_91 me_X4_thrown yf_X4_thrown (by decide) (by decide) rfl (Nat.le_of_ble_eq_true rfl) rfl (dtL_law_6 27 (734, .invokevirtual 91, 3) rfl) hH hS hl) (fun v155 hF => ?_)
                            refine r_iload hk1 6 (dtL_law_6 28 (737, .iload 5, 2) rfl) rfl ?_
                            refine r_icmp_eq hk1 744 hF (dtL_law_6 29 (739, .if_icmp .eq 5, 3) rfl) (by decide) (fun hF => ?_) (fun hF => ?_)
                            · refine r_iload hk1 6 (dtL_law_6 32 (744, .iload 5, 2) rfl) rfl ?_
                              have j761_156 : (J_L_law_761 vi (fun w0 w1 => LL (xL X) (xs X) n w0 w1) m154) = some () → G X (setc K (kce K + 1) (ksl K + 6)) 761 [(0, .ref (xb X)), (1, .ref (xad X (0, 0, 0, 0))), (2, .ref (xad X (3, 0, 0, 0))), (3, .ref (xad X (4, 0, 0, 0))), (4, .int vi)] [] m154 := by
                                intro hF
                                unfold J_L_law_761 at hF
                                refine r_goto hk1 1549 (dtL_law_6 43 (761, .goto 788, 3) rfl) (by decide) ?_
                                exact r_sub hk1 [0, 1, 2, 3, 4] rfl (j1549_5 m154 hF)
                              refine r_if_ne hk1 761 hF (dtL_law_6 33 (746, .ifCond .ne 15, 3) rfl) (by decide) (fun hF => ?_) (fun hF => ?_)
                              · exact r_sub hk1 [1, 2, 3, 4, 5] rfl (j761_156 hF)
                              · refine r_aload_n hk1 4 (dtL_law_6 34 (749, .aload_n 3, 1) rfl) rfl ?_
                                refine r_iconst (v := 0) hk1 (dtL_law_6 35 (750, .iconst 0, 1) rfl) (by decide) ?_
                                refine r_lald hk1 hF (dtL_law_6 36 (751, .laload, 1) rfl) (fun v157 hF => ?_)
                                refine r_iload hk1 0 (dtL_law_6 37 (752, .iload 6, 2) rfl) rfl ?_
                                refine r_i2l hk1 hF (dtL_law_6 38 (754, .i2l, 1) rfl) (fun v158 hF => ?_)
                                refine r_lcmp hk1 hF (dtL_law_6 39 (755, .lcmp, 1) rfl) (fun v159 hF => ?_)
                                refine r_if_eq hk1 761 hF (dtL_law_6 40 (756, .ifCond .eq 5, 3) rfl) (by decide) (fun hF => ?_) (fun hF => ?_)
                                · exact r_sub hk1 [1, 2, 3, 4, 5] rfl (j761_156 hF)
                                · refine r_iconst (v := 0) hk1 (dtL_law_6 41 (759, .iconst 0, 1) rfl) (by decide) ?_
                                  exact nomatch hF
                            · refine r_iconst (v := 0) hk1 (dtL_law_6 30 (742, .iconst 0, 1) rfl) (by decide) ?_
                              exact nomatch hF
                          refine r_if_eq hk1 721 hF (dtL_law_6 15 (714, .ifCond .eq 7, 3) rfl) (by decide) (fun hF => ?_) (fun hF => ?_)
                          · refine r_iconst (v := 0) hk1 (dtL_law_6 18 (721, .iconst 0, 1) rfl) (by decide) ?_
                            exact r_sub hk1 [1, 2, 3, 4, 5, 0] rfl (j722_150 0 hF)
                          · refine r_iconst (v := 1) hk1 (dtL_law_6 16 (717, .iconst 1, 1) rfl) (by decide) ?_
                            refine r_goto hk1 722 (dtL_law_6 17 (718, .goto 4, 3) rfl) (by decide) ?_
                            exact r_sub hk1 [1, 2, 3, 4, 5, 0] rfl (j722_150 1 hF)
                        refine r_if_eq hk 688 hF (dtL_law_5 56 (681, .ifCond .eq 7, 3) rfl) (by decide) (fun hF => ?_) (fun hF => ?_)
                        · refine r_iconst (v := 0) hk (dtL_law_5 59 (688, .iconst 0, 1) rfl) (by decide) ?_
                          exact r_sub hk [0, 1, 2, 3, 4] rfl (j689_140 0 hF)
                        · refine r_iconst (v := 1) hk (dtL_law_5 57 (684, .iconst 1, 1) rfl) (by decide) ?_
                          refine r_goto hk 689 (dtL_law_5 58 (685, .goto 4, 3) rfl) (by decide) ?_
                          exact r_sub hk [0, 1, 2, 3, 4] rfl (j689_140 1 hF)
                      · rw [if_neg hs8] at hF
                        by_cases hs9 : v3 = 9
                        · rw [if_pos hs9] at hF
                          unfold B_law_9 at hF
                          refine r_tabIn hk 764 (dtL_law_0 24 (39, .tableswitch 1510 0 23 #[109, 189, 257, 313, 381, 437, 517, 573, 629, 725, 781, 794, 807, 863, 919, 963, 1031, 1111, 1179, 1259, 1315, 1399, 1455, 1496], 109) rfl) (by rw [hs9]; decide) (by rw [hs9]; decide) (by rw [hs9]; rfl) (by decide) ?_
                          refine r_aload_n hk 1 (dtL_law_6 44 (764, .aload_n 1, 1) rfl) rfl ?_
                          refine r_aload_n hk 0 (dtL_law_6 45 (765, .aload_n 0, 1) rfl) rfl ?_
                          refine r_iload hk 4 (dtL_law_6 46 (766, .iload 4, 2) rfl) rfl ?_
                          refine r_iconst (v := 1) hk (dtL_law_6 47 (768, .iconst 1, 1) rfl) (by decide) ?_
                          refine r_iadd hk hF (dtL_law_6 48 (769, .iadd, 1) rfl) (fun v160 hF => ?_)
                          refine r_sld hk hF (dtL_law_6 49 (770, .iaload, 1) rfl) (fun v161 hF => ?_)
                          refine r_aload_n hk 3 (dtL_law_6 50 (771, .aload_n 3, 1) rfl) rfl ?_
                          refine r_callH hroom hF (fun v162 m163 h H locs ls hH hS hl => run_SW hk hroom (c_L_append (kl K) hk.2.2.2.2.2.2.2.2.2.2.2 X v161 mi v162 m163 h) lk_L_121 mh_L_append yf_L_append (by decide) (by decide) rfl (Nat.le_of_ble_eq_true rfl) rfl (dtL_law_6 51 (772, .invokestatic 121, 3) rfl) hH hS hl) (fun v162 m163 hF => ?_)
                          refine r_istore hk1 [(5, .int v162), (0, .ref (xb X)), (1, .ref (xad X (0, 0, 0, 0))), (2, .ref (xad X (3, 0, 0, 0))), (3, .ref (xad X (4, 0, 0, 0))), (4, .int vi)] (dtL_law_6 52 (775, .istore 5, 2) rfl) (by decide) rfl ?_
                          refine r_aload_n hk1 3 (dtL_law_6 53 (777, .aload_n 2, 1) rfl) rfl ?_
                          refine r_aload_n hk1 1 (dtL_law_6 54 (778, .aload_n 0, 1) rfl) rfl ?_
                          refine r_iload hk1 5 (dtL_law_6 55 (779, .iload 4, 2) rfl) rfl ?_
                          refine r_iconst (v := 1) hk1 (dtL_law_6 56 (781, .iconst 1, 1) rfl) (by decide) ?_
                          refine r_iadd hk1 hF (dtL_law_6 57 (782, .iadd, 1) rfl) (fun v164 hF => ?_)
                          refine r_sld hk1 hF (dtL_law_6 58 (783, .iaload, 1) rfl) (fun v165 hF => ?_)
                          refine r_callIm hF (fun v166 m167 h H locs ls hH hS hl => run_V (y := yX4_append) hk1 (in_mo 0 (by decide)) rfl rfl (c_X4_append (kl K) hk1.2.2.2.2.2.2.2.2.2.2.2 X  v165 m163 v166 m167 h) lk_L_123 me_X4_append yf_X4_append (by decide) (by decide) rfl (Nat.le_of_ble_eq_true rfl) rfl (dtL_law_6 59 (784, .invokevirtual 123, 3) rfl) hH hS hl) (fun v166 m167 hF => ?_)
                          refine r_istore hk1 [(6, .int v166), (5, .int v162), (0, .ref (xb X)), (1, .ref (xad X (0, 0, 0, 0))), (2, .ref (xad X (3, 0, 0, 0))), (3, .ref (xad X (4, 0, 0, 0))), (4, .int vi)] (dtL_law_6 60 (787, .istore 6, 2) rfl) (by decide) rfl ?_
                          refine r_aload_n hk1 4 (dtL_law_6 61 (789, .aload_n 2, 1) rfl) rfl ?_
                          refine r_callI hF (fun v168 h H locs ls hH hS hl => run_V (y := yX4_thrown) hk1 (in_mo 0 (by decide)) rfl rfl (c_X4_thrown (kl K) hk1.2.2.2.2.2.2.2.2.2.2.2 X   m167 v168 h) lk_L_91 me_X4_thrown yf_X4_thrown (by decide) (by decide) rfl (Nat.le_of_ble_eq_true rfl) rfl (dtL_law_6 62 (790, .invokevirtual 91, 3) rfl) hH hS hl) (fun v168 hF => ?_)
                          refine r_iload hk1 1 (dtL_law_6 63 (793, .iload 5, 2) rfl) rfl ?_
                          refine r_icmp_eq hk1 800 hF (dtL_law_7 0 (795, .if_icmp .eq 5, 3) rfl) (by decide) (fun hF => ?_) (fun hF => ?_)
                          · refine r_iload hk1 1 (dtL_law_7 3 (800, .iload 5, 2) rfl) rfl ?_
                            have j817_169 : (J_L_law_817 vi (fun w0 w1 => LL (xL X) (xs X) n w0 w1) m167) = some () → G X (setc K (kce K + 1) (ksl K + 6)) 817 [(0, .ref (xb X)), (1, .ref (xad X (0, 0, 0, 0))), (2, .ref (xad X (3, 0, 0, 0))), (3, .ref (xad X (4, 0, 0, 0))), (4, .int vi)] [] m167 := by
                              intro hF
                              unfold J_L_law_817 at hF
                              refine r_goto hk1 1549 (dtL_law_7 14 (817, .goto 732, 3) rfl) (by decide) ?_
                              exact r_sub hk1 [0, 1, 2, 3, 4] rfl (j1549_5 m167 hF)
                            refine r_if_ne hk1 817 hF (dtL_law_7 4 (802, .ifCond .ne 15, 3) rfl) (by decide) (fun hF => ?_) (fun hF => ?_)
                            · exact r_sub hk1 [2, 3, 4, 5, 6] rfl (j817_169 hF)
                            · refine r_aload_n hk1 5 (dtL_law_7 5 (805, .aload_n 3, 1) rfl) rfl ?_
                              refine r_iconst (v := 0) hk1 (dtL_law_7 6 (806, .iconst 0, 1) rfl) (by decide) ?_
                              refine r_lald hk1 hF (dtL_law_7 7 (807, .laload, 1) rfl) (fun v170 hF => ?_)
                              refine r_iload hk1 0 (dtL_law_7 8 (808, .iload 6, 2) rfl) rfl ?_
                              refine r_i2l hk1 hF (dtL_law_7 9 (810, .i2l, 1) rfl) (fun v171 hF => ?_)
                              refine r_lcmp hk1 hF (dtL_law_7 10 (811, .lcmp, 1) rfl) (fun v172 hF => ?_)
                              refine r_if_eq hk1 817 hF (dtL_law_7 11 (812, .ifCond .eq 5, 3) rfl) (by decide) (fun hF => ?_) (fun hF => ?_)
                              · exact r_sub hk1 [2, 3, 4, 5, 6] rfl (j817_169 hF)
                              · refine r_iconst (v := 0) hk1 (dtL_law_7 12 (815, .iconst 0, 1) rfl) (by decide) ?_
                                exact nomatch hF
                          · refine r_iconst (v := 0) hk1 (dtL_law_7 1 (798, .iconst 0, 1) rfl) (by decide) ?_
                            exact nomatch hF
                        · rw [if_neg hs9] at hF
                          by_cases hs10 : v3 = 10
                          · rw [if_pos hs10] at hF
                            unfold B_law_10 at hF
                            refine r_tabIn hk 820 (dtL_law_0 24 (39, .tableswitch 1510 0 23 #[109, 189, 257, 313, 381, 437, 517, 573, 629, 725, 781, 794, 807, 863, 919, 963, 1031, 1111, 1179, 1259, 1315, 1399, 1455, 1496], 109) rfl) (by rw [hs10]; decide) (by rw [hs10]; decide) (by rw [hs10]; rfl) (by decide) ?_
                            refine g_wid (c := kce K + 1) (s := ksl K + 6) (Nat.le_add_right _ _) (Nat.le_add_right _ _) ?_
                            refine r_aload_n hk1 1 (dtL_law_7 15 (820, .aload_n 1, 1) rfl) rfl ?_
                            refine r_callIm hF (fun v173 m174 h H locs ls hH hS hl => run_V (y := yX3_clearBuffer) hk1 (in_main 0 (by decide)) rfl rfl (c_X3_clearBuffer (kl K) hk1.2.2.2.2.2.2.2.2.2.2.2 X   mi v173 m174 h) lk_L_124 me_X3_clearBuffer yf_X3_clearBuffer (by decide) (by decide) rfl (Nat.le_of_ble_eq_true rfl) rfl (dtL_law_7 16 (821, .invokevirtual 124, 3) rfl) hH hS hl) (fun v173 m174 hF => ?_)
                            refine r_aload_n hk1 2 (dtL_law_7 17 (824, .aload_n 2, 1) rfl) rfl ?_
                            refine r_callIm hF (fun v175 m176 h H locs ls hH hS hl => run_V (y := yX4_clearBuffer) hk1 (in_mo 0 (by decide)) rfl rfl (c_X4_clearBuffer (kl K) hk1.2.2.2.2.2.2.2.2.2.2.2 X   m174 v175 m176 h) lk_L_127 me_X4_clearBuffer yf_X4_clearBuffer (by decide) (by decide) rfl (Nat.le_of_ble_eq_true rfl) rfl (dtL_law_7 18 (825, .invokevirtual 127, 3) rfl) hH hS hl) (fun v175 m176 hF => ?_)
                            refine r_icmp_eq hk1 1549 hF (dtL_law_7 19 (828, .if_icmp .eq 721, 3) rfl) (by decide) (fun hF => ?_) (fun hF => ?_)
                            · exact r_sub hk1 [0, 1, 2, 3, 4] rfl (j1549_5 m176 hF)
                            · refine r_iconst (v := 0) hk1 (dtL_law_7 20 (831, .iconst 0, 1) rfl) (by decide) ?_
                              exact nomatch hF
                          · rw [if_neg hs10] at hF
                            by_cases hs11 : v3 = 11
                            · rw [if_pos hs11] at hF
                              unfold B_law_11 at hF
                              refine r_tabIn hk 833 (dtL_law_0 24 (39, .tableswitch 1510 0 23 #[109, 189, 257, 313, 381, 437, 517, 573, 629, 725, 781, 794, 807, 863, 919, 963, 1031, 1111, 1179, 1259, 1315, 1399, 1455, 1496], 109) rfl) (by rw [hs11]; decide) (by rw [hs11]; decide) (by rw [hs11]; rfl) (by decide) ?_
                              refine g_wid (c := kce K + 1) (s := ksl K + 6) (Nat.le_add_right _ _) (Nat.le_add_right _ _) ?_
                              refine r_aload_n hk1 1 (dtL_law_7 22 (833, .aload_n 1, 1) rfl) rfl ?_
                              refine r_callIm hF (fun v177 m178 h H locs ls hH hS hl => run_V (y := yX3_firstError) hk1 (in_main 0 (by decide)) rfl rfl (c_X3_firstError (kl K) hk1.2.2.2.2.2.2.2.2.2.2.2 X   mi v177 m178 h) lk_L_128 me_X3_firstError yf_X3_firstError (by decide) (by decide) rfl (Nat.le_of_ble_eq_true rfl) rfl (dtL_law_7 23 (834, .invokevirtual 128, 3) rfl) hH hS hl) (fun v177 m178 hF => ?_)
                              refine r_aload_n hk1 2 (dtL_law_7 24 (837, .aload_n 2, 1) rfl) rfl ?_
                              refine r_callIm hF (fun v179 m180 h H locs ls hH hS hl => run_V (y := yX4_firstError) hk1 (in_mo 0 (by decide)) rfl rfl (c_X4_firstError (kl K) hk1.2.2.2.2.2.2.2.2.2.2.2 X   m178 v179 m180 h) lk_L_131 me_X4_firstError yf_X4_firstError (by decide) (by decide) rfl (Nat.le_of_ble_eq_true rfl) rfl (dtL_law_7 25 (838, .invokevirtual 131, 3) rfl) hH hS hl) (fun v179 m180 hF => ?_)
                              refine r_icmp_eq hk1 1549 hF (dtL_law_7 26 (841, .if_icmp .eq 708, 3) rfl) (by decide) (fun hF => ?_) (fun hF => ?_)
                              · exact r_sub hk1 [0, 1, 2, 3, 4] rfl (j1549_5 m180 hF)
                              · refine r_iconst (v := 0) hk1 (dtL_law_7 27 (844, .iconst 0, 1) rfl) (by decide) ?_
                                exact nomatch hF
                            · rw [if_neg hs11] at hF
                              by_cases hs12 : v3 = 12
                              · rw [if_pos hs12] at hF
                                unfold B_law_12 at hF
                                refine r_tabIn hk 846 (dtL_law_0 24 (39, .tableswitch 1510 0 23 #[109, 189, 257, 313, 381, 437, 517, 573, 629, 725, 781, 794, 807, 863, 919, 963, 1031, 1111, 1179, 1259, 1315, 1399, 1455, 1496], 109) rfl) (by rw [hs12]; decide) (by rw [hs12]; decide) (by rw [hs12]; rfl) (by decide) ?_
                                refine r_aload_n hk 1 (dtL_law_7 29 (846, .aload_n 1, 1) rfl) rfl ?_
                                refine r_aload_n hk 0 (dtL_law_7 30 (847, .aload_n 0, 1) rfl) rfl ?_
                                refine r_iload hk 4 (dtL_law_7 31 (848, .iload 4, 2) rfl) rfl ?_
                                refine r_iconst (v := 1) hk (dtL_law_7 32 (850, .iconst 1, 1) rfl) (by decide) ?_
                                refine r_iadd hk hF (dtL_law_7 33 (851, .iadd, 1) rfl) (fun v181 hF => ?_)
                                refine r_sld hk hF (dtL_law_7 34 (852, .iaload, 1) rfl) (fun v182 hF => ?_)
                                refine r_aload_n hk 3 (dtL_law_7 35 (853, .aload_n 3, 1) rfl) rfl ?_
                                refine r_callH hroom hF (fun v183 m184 h H locs ls hH hS hl => run_SW hk hroom (c_L_ask (kl K) hk.2.2.2.2.2.2.2.2.2.2.2 X v182 mi v183 m184 h) lk_L_132 mh_L_ask yf_L_ask (by decide) (by decide) rfl (Nat.le_of_ble_eq_true rfl) rfl (dtL_law_7 36 (854, .invokestatic 132, 3) rfl) hH hS hl) (fun v183 m184 hF => ?_)
                                refine r_istore hk1 [(5, .int v183), (0, .ref (xb X)), (1, .ref (xad X (0, 0, 0, 0))), (2, .ref (xad X (3, 0, 0, 0))), (3, .ref (xad X (4, 0, 0, 0))), (4, .int vi)] (dtL_law_7 37 (857, .istore 5, 2) rfl) (by decide) rfl ?_
                                refine r_aload_n hk1 3 (dtL_law_7 38 (859, .aload_n 2, 1) rfl) rfl ?_
                                refine r_aload_n hk1 1 (dtL_law_7 39 (860, .aload_n 0, 1) rfl) rfl ?_
                                refine r_iload hk1 5 (dtL_law_7 40 (861, .iload 4, 2) rfl) rfl ?_
                                refine r_iconst (v := 1) hk1 (dtL_law_7 41 (863, .iconst 1, 1) rfl) (by decide) ?_
                                refine r_iadd hk1 hF (dtL_law_7 42 (864, .iadd, 1) rfl) (fun v185 hF => ?_)
                                refine r_sld hk1 hF (dtL_law_7 43 (865, .iaload, 1) rfl) (fun v186 hF => ?_)
                                refine r_callIm hF (fun v187 m188 h H locs ls hH hS hl => run_V (y := yX4_ask) hk1 (in_mo 0 (by decide)) rfl rfl (c_X4_ask (kl K) hk1.2.2.2.2.2.2.2.2.2.2.2 X  v186 m184 v187 m188 h) lk_L_134 me_X4_ask yf_X4_ask (by decide) (by decide) rfl (Nat.le_of_ble_eq_true rfl) rfl (dtL_law_7 44 (866, .invokevirtual 134, 3) rfl) hH hS hl) (fun v187 m188 hF => ?_)
                                refine r_istore hk1 [(6, .int v187), (5, .int v183), (0, .ref (xb X)), (1, .ref (xad X (0, 0, 0, 0))), (2, .ref (xad X (3, 0, 0, 0))), (3, .ref (xad X (4, 0, 0, 0))), (4, .int vi)] (dtL_law_7 45 (869, .istore 6, 2) rfl) (by decide) rfl ?_
                                refine r_aload_n hk1 4 (dtL_law_7 46 (871, .aload_n 2, 1) rfl) rfl ?_
                                refine r_callI hF (fun v189 h H locs ls hH hS hl => run_V (y := yX4_thrown) hk1 (in_mo 0 (by decide)) rfl rfl (c_X4_thrown (kl K) hk1.2.2.2.2.2.2.2.2.2.2.2 X   m188 v189 h) lk_L_91 me_X4_thrown yf_X4_thrown (by decide) (by decide) rfl (Nat.le_of_ble_eq_true rfl) rfl (dtL_law_7 47 (872, .invokevirtual 91, 3) rfl) hH hS hl) (fun v189 hF => ?_)
                                refine r_iload hk1 1 (dtL_law_7 48 (875, .iload 5, 2) rfl) rfl ?_
                                refine r_icmp_eq hk1 882 hF (dtL_law_7 49 (877, .if_icmp .eq 5, 3) rfl) (by decide) (fun hF => ?_) (fun hF => ?_)
                                · refine r_iload hk1 1 (dtL_law_7 52 (882, .iload 5, 2) rfl) rfl ?_
                                  have j899_190 : (J_L_law_899 vi (fun w0 w1 => LL (xL X) (xs X) n w0 w1) m188) = some () → G X (setc K (kce K + 1) (ksl K + 6)) 899 [(0, .ref (xb X)), (1, .ref (xad X (0, 0, 0, 0))), (2, .ref (xad X (3, 0, 0, 0))), (3, .ref (xad X (4, 0, 0, 0))), (4, .int vi)] [] m188 := by
                                    intro hF
                                    unfold J_L_law_899 at hF
                                    refine r_goto hk1 1549 (dtL_law_7 63 (899, .goto 650, 3) rfl) (by decide) ?_
                                    exact r_sub hk1 [0, 1, 2, 3, 4] rfl (j1549_5 m188 hF)
                                  refine r_if_ne hk1 899 hF (dtL_law_7 53 (884, .ifCond .ne 15, 3) rfl) (by decide) (fun hF => ?_) (fun hF => ?_)
                                  · exact r_sub hk1 [2, 3, 4, 5, 6] rfl (j899_190 hF)
                                  · refine r_aload_n hk1 5 (dtL_law_7 54 (887, .aload_n 3, 1) rfl) rfl ?_
                                    refine r_iconst (v := 0) hk1 (dtL_law_7 55 (888, .iconst 0, 1) rfl) (by decide) ?_
                                    refine r_lald hk1 hF (dtL_law_7 56 (889, .laload, 1) rfl) (fun v191 hF => ?_)
                                    refine r_iload hk1 0 (dtL_law_7 57 (890, .iload 6, 2) rfl) rfl ?_
                                    refine r_i2l hk1 hF (dtL_law_7 58 (892, .i2l, 1) rfl) (fun v192 hF => ?_)
                                    refine r_lcmp hk1 hF (dtL_law_7 59 (893, .lcmp, 1) rfl) (fun v193 hF => ?_)
                                    refine r_if_eq hk1 899 hF (dtL_law_7 60 (894, .ifCond .eq 5, 3) rfl) (by decide) (fun hF => ?_) (fun hF => ?_)
                                    · exact r_sub hk1 [2, 3, 4, 5, 6] rfl (j899_190 hF)
                                    · refine r_iconst (v := 0) hk1 (dtL_law_7 61 (897, .iconst 0, 1) rfl) (by decide) ?_
                                      exact nomatch hF
                                · refine r_iconst (v := 0) hk1 (dtL_law_7 50 (880, .iconst 0, 1) rfl) (by decide) ?_
                                  exact nomatch hF
                              · rw [if_neg hs12] at hF
                                by_cases hs13 : v3 = 13
                                · rw [if_pos hs13] at hF
                                  unfold B_law_13 at hF
                                  refine r_tabIn hk 902 (dtL_law_0 24 (39, .tableswitch 1510 0 23 #[109, 189, 257, 313, 381, 437, 517, 573, 629, 725, 781, 794, 807, 863, 919, 963, 1031, 1111, 1179, 1259, 1315, 1399, 1455, 1496], 109) rfl) (by rw [hs13]; decide) (by rw [hs13]; decide) (by rw [hs13]; rfl) (by decide) ?_
                                  refine r_aload_n hk 1 (dtL_law_8 0 (902, .aload_n 1, 1) rfl) rfl ?_
                                  refine r_aload_n hk 0 (dtL_law_8 1 (903, .aload_n 0, 1) rfl) rfl ?_
                                  refine r_iload hk 4 (dtL_law_8 2 (904, .iload 4, 2) rfl) rfl ?_
                                  refine r_iconst (v := 1) hk (dtL_law_8 3 (906, .iconst 1, 1) rfl) (by decide) ?_
                                  refine r_iadd hk hF (dtL_law_8 4 (907, .iadd, 1) rfl) (fun v194 hF => ?_)
                                  refine r_sld hk hF (dtL_law_8 5 (908, .iaload, 1) rfl) (fun v195 hF => ?_)
                                  refine r_aload_n hk 3 (dtL_law_8 6 (909, .aload_n 3, 1) rfl) rfl ?_
                                  refine r_callH hroom hF (fun v196 m197 h H locs ls hH hS hl => run_SW hk hroom (c_L_purge (kl K) hk.2.2.2.2.2.2.2.2.2.2.2 X v195 mi v196 m197 h) lk_L_135 mh_L_purge yf_L_purge (by decide) (by decide) rfl (Nat.le_of_ble_eq_true rfl) rfl (dtL_law_8 7 (910, .invokestatic 135, 3) rfl) hH hS hl) (fun v196 m197 hF => ?_)
                                  refine r_istore hk1 [(5, .int v196), (0, .ref (xb X)), (1, .ref (xad X (0, 0, 0, 0))), (2, .ref (xad X (3, 0, 0, 0))), (3, .ref (xad X (4, 0, 0, 0))), (4, .int vi)] (dtL_law_8 8 (913, .istore 5, 2) rfl) (by decide) rfl ?_
                                  refine r_aload_n hk1 3 (dtL_law_8 9 (915, .aload_n 2, 1) rfl) rfl ?_
                                  refine r_aload_n hk1 1 (dtL_law_8 10 (916, .aload_n 0, 1) rfl) rfl ?_
                                  refine r_iload hk1 5 (dtL_law_8 11 (917, .iload 4, 2) rfl) rfl ?_
                                  refine r_iconst (v := 1) hk1 (dtL_law_8 12 (919, .iconst 1, 1) rfl) (by decide) ?_
                                  refine r_iadd hk1 hF (dtL_law_8 13 (920, .iadd, 1) rfl) (fun v198 hF => ?_)
                                  refine r_sld hk1 hF (dtL_law_8 14 (921, .iaload, 1) rfl) (fun v199 hF => ?_)
                                  refine r_callIm hF (fun v200 m201 h H locs ls hH hS hl => run_V (y := yX4_purge) hk1 (in_mo 0 (by decide)) rfl rfl (c_X4_purge (kl K) hk1.2.2.2.2.2.2.2.2.2.2.2 X  v199 m197 v200 m201 h) lk_L_137 me_X4_purge yf_X4_purge (by decide) (by decide) rfl (Nat.le_of_ble_eq_true rfl) rfl (dtL_law_8 15 (922, .invokevirtual 137, 3) rfl) hH hS hl) (fun v200 m201 hF => ?_)
                                  refine r_istore hk1 [(6, .int v200), (5, .int v196), (0, .ref (xb X)), (1, .ref (xad X (0, 0, 0, 0))), (2, .ref (xad X (3, 0, 0, 0))), (3, .ref (xad X (4, 0, 0, 0))), (4, .int vi)] (dtL_law_8 16 (925, .istore 6, 2) rfl) (by decide) rfl ?_
                                  refine r_aload_n hk1 4 (dtL_law_8 17 (927, .aload_n 2, 1) rfl) rfl ?_
                                  refine r_callI hF (fun v202 h H locs ls hH hS hl => run_V (y := yX4_thrown) hk1 (in_mo 0 (by decide)) rfl rfl (c_X4_thrown (kl K) hk1.2.2.2.2.2.2.2.2.2.2.2 X   m201 v202 h) lk_L_91 me_X4_thrown yf_X4_thrown (by decide) (by decide) rfl (Nat.le_of_ble_eq_true rfl) rfl (dtL_law_8 18 (928, .invokevirtual 91, 3) rfl) hH hS hl) (fun v202 hF => ?_)
                                  refine r_iload hk1 1 (dtL_law_8 19 (931, .iload 5, 2) rfl) rfl ?_
                                  refine r_icmp_eq hk1 938 hF (dtL_law_8 20 (933, .if_icmp .eq 5, 3) rfl) (by decide) (fun hF => ?_) (fun hF => ?_)
                                  · refine r_iload hk1 1 (dtL_law_8 23 (938, .iload 5, 2) rfl) rfl ?_
                                    have j955_203 : (J_L_law_955 vi (fun w0 w1 => LL (xL X) (xs X) n w0 w1) m201) = some () → G X (setc K (kce K + 1) (ksl K + 6)) 955 [(0, .ref (xb X)), (1, .ref (xad X (0, 0, 0, 0))), (2, .ref (xad X (3, 0, 0, 0))), (3, .ref (xad X (4, 0, 0, 0))), (4, .int vi)] [] m201 := by
                                      intro hF
                                      unfold J_L_law_955 at hF
                                      refine r_goto hk1 1549 (dtL_law_8 34 (955, .goto 594, 3) rfl) (by decide) ?_
                                      exact r_sub hk1 [0, 1, 2, 3, 4] rfl (j1549_5 m201 hF)
                                    refine r_if_ne hk1 955 hF (dtL_law_8 24 (940, .ifCond .ne 15, 3) rfl) (by decide) (fun hF => ?_) (fun hF => ?_)
                                    · exact r_sub hk1 [2, 3, 4, 5, 6] rfl (j955_203 hF)
                                    · refine r_aload_n hk1 5 (dtL_law_8 25 (943, .aload_n 3, 1) rfl) rfl ?_
                                      refine r_iconst (v := 0) hk1 (dtL_law_8 26 (944, .iconst 0, 1) rfl) (by decide) ?_
                                      refine r_lald hk1 hF (dtL_law_8 27 (945, .laload, 1) rfl) (fun v204 hF => ?_)
                                      refine r_iload hk1 0 (dtL_law_8 28 (946, .iload 6, 2) rfl) rfl ?_
                                      refine r_i2l hk1 hF (dtL_law_8 29 (948, .i2l, 1) rfl) (fun v205 hF => ?_)
                                      refine r_lcmp hk1 hF (dtL_law_8 30 (949, .lcmp, 1) rfl) (fun v206 hF => ?_)
                                      refine r_if_eq hk1 955 hF (dtL_law_8 31 (950, .ifCond .eq 5, 3) rfl) (by decide) (fun hF => ?_) (fun hF => ?_)
                                      · exact r_sub hk1 [2, 3, 4, 5, 6] rfl (j955_203 hF)
                                      · refine r_iconst (v := 0) hk1 (dtL_law_8 32 (953, .iconst 0, 1) rfl) (by decide) ?_
                                        exact nomatch hF
                                  · refine r_iconst (v := 0) hk1 (dtL_law_8 21 (936, .iconst 0, 1) rfl) (by decide) ?_
                                    exact nomatch hF
                                · rw [if_neg hs13] at hF
                                  by_cases hs14 : v3 = 14
                                  · rw [if_pos hs14] at hF
                                    unfold B_law_14 at hF
                                    refine r_tabIn hk 958 (dtL_law_0 24 (39, .tableswitch 1510 0 23 #[109, 189, 257, 313, 381, 437, 517, 573, 629, 725, 781, 794, 807, 863, 919, 963, 1031, 1111, 1179, 1259, 1315, 1399, 1455, 1496], 109) rfl) (by rw [hs14]; decide) (by rw [hs14]; decide) (by rw [hs14]; rfl) (by decide) ?_
                                    refine r_aload_n hk 1 (dtL_law_8 35 (958, .aload_n 1, 1) rfl) rfl ?_
                                    refine r_aload_n hk 3 (dtL_law_8 36 (959, .aload_n 3, 1) rfl) rfl ?_
                                    refine r_callH hroom hF (fun v207 m208 h H locs ls hH hS hl => run_SW hk hroom (c_L_undo (kl K) hk.2.2.2.2.2.2.2.2.2.2.2 X  mi v207 m208 h) lk_L_138 mh_L_undo yf_L_undo (by decide) (by decide) rfl (Nat.le_of_ble_eq_true rfl) rfl (dtL_law_8 37 (960, .invokestatic 138, 3) rfl) hH hS hl) (fun v207 m208 hF => ?_)
                                    refine r_istore hk1 [(5, .int v207), (0, .ref (xb X)), (1, .ref (xad X (0, 0, 0, 0))), (2, .ref (xad X (3, 0, 0, 0))), (3, .ref (xad X (4, 0, 0, 0))), (4, .int vi)] (dtL_law_8 38 (963, .istore 5, 2) rfl) (by decide) rfl ?_
                                    refine r_aload_n hk1 3 (dtL_law_8 39 (965, .aload_n 2, 1) rfl) rfl ?_
                                    refine r_callIm hF (fun v209 m210 h H locs ls hH hS hl => run_V (y := yX4_undo) hk1 (in_mo 0 (by decide)) rfl rfl (c_X4_undo (kl K) hk1.2.2.2.2.2.2.2.2.2.2.2 X   m208 v209 m210 h) lk_L_141 me_X4_undo yf_X4_undo (by decide) (by decide) rfl (Nat.le_of_ble_eq_true rfl) rfl (dtL_law_8 40 (966, .invokevirtual 141, 3) rfl) hH hS hl) (fun v209 m210 hF => ?_)
                                    refine r_istore hk1 [(6, .int v209), (5, .int v207), (0, .ref (xb X)), (1, .ref (xad X (0, 0, 0, 0))), (2, .ref (xad X (3, 0, 0, 0))), (3, .ref (xad X (4, 0, 0, 0))), (4, .int vi)] (dtL_law_8 41 (969, .istore 6, 2) rfl) (by decide) rfl ?_
                                    refine r_aload_n hk1 4 (dtL_law_8 42 (971, .aload_n 2, 1) rfl) rfl ?_
                                    refine r_callI hF (fun v211 h H locs ls hH hS hl => run_V (y := yX4_thrown) hk1 (in_mo 0 (by decide)) rfl rfl (c_X4_thrown (kl K) hk1.2.2.2.2.2.2.2.2.2.2.2 X   m210 v211 h) lk_L_91 me_X4_thrown yf_X4_thrown (by decide) (by decide) rfl (Nat.le_of_ble_eq_true rfl) rfl (dtL_law_8 43 (972, .invokevirtual 91, 3) rfl) hH hS hl) (fun v211 hF => ?_)
                                    refine r_iload hk1 1 (dtL_law_8 44 (975, .iload 5, 2) rfl) rfl ?_
                                    refine r_icmp_eq hk1 982 hF (dtL_law_8 45 (977, .if_icmp .eq 5, 3) rfl) (by decide) (fun hF => ?_) (fun hF => ?_)
                                    · refine r_iload hk1 1 (dtL_law_8 48 (982, .iload 5, 2) rfl) rfl ?_
                                      have j999_212 : (J_L_law_999 vi (fun w0 w1 => LL (xL X) (xs X) n w0 w1) m210) = some () → G X (setc K (kce K + 1) (ksl K + 6)) 999 [(0, .ref (xb X)), (1, .ref (xad X (0, 0, 0, 0))), (2, .ref (xad X (3, 0, 0, 0))), (3, .ref (xad X (4, 0, 0, 0))), (4, .int vi)] [] m210 := by
                                        intro hF
                                        unfold J_L_law_999 at hF
                                        refine r_goto hk1 1549 (dtL_law_8 59 (999, .goto 550, 3) rfl) (by decide) ?_
                                        exact r_sub hk1 [0, 1, 2, 3, 4] rfl (j1549_5 m210 hF)
                                      refine r_if_ne hk1 999 hF (dtL_law_8 49 (984, .ifCond .ne 15, 3) rfl) (by decide) (fun hF => ?_) (fun hF => ?_)
                                      · exact r_sub hk1 [2, 3, 4, 5, 6] rfl (j999_212 hF)
                                      · refine r_aload_n hk1 5 (dtL_law_8 50 (987, .aload_n 3, 1) rfl) rfl ?_
                                        refine r_iconst (v := 0) hk1 (dtL_law_8 51 (988, .iconst 0, 1) rfl) (by decide) ?_
                                        refine r_lald hk1 hF (dtL_law_8 52 (989, .laload, 1) rfl) (fun v213 hF => ?_)
                                        refine r_iload hk1 0 (dtL_law_8 53 (990, .iload 6, 2) rfl) rfl ?_
                                        refine r_i2l hk1 hF (dtL_law_8 54 (992, .i2l, 1) rfl) (fun v214 hF => ?_)
                                        refine r_lcmp hk1 hF (dtL_law_8 55 (993, .lcmp, 1) rfl) (fun v215 hF => ?_)
                                        refine r_if_eq hk1 999 hF (dtL_law_8 56 (994, .ifCond .eq 5, 3) rfl) (by decide) (fun hF => ?_) (fun hF => ?_)
                                        · exact r_sub hk1 [2, 3, 4, 5, 6] rfl (j999_212 hF)
                                        · refine r_iconst (v := 0) hk1 (dtL_law_8 57 (997, .iconst 0, 1) rfl) (by decide) ?_
                                          exact nomatch hF
                                    · refine r_iconst (v := 0) hk1 (dtL_law_8 46 (980, .iconst 0, 1) rfl) (by decide) ?_
                                      exact nomatch hF
                                  · rw [if_neg hs14] at hF
                                    by_cases hs15 : v3 = 15
                                    · rw [if_pos hs15] at hF
                                      unfold B_law_15 at hF
                                      refine r_tabIn hk 1002 (dtL_law_0 24 (39, .tableswitch 1510 0 23 #[109, 189, 257, 313, 381, 437, 517, 573, 629, 725, 781, 794, 807, 863, 919, 963, 1031, 1111, 1179, 1259, 1315, 1399, 1455, 1496], 109) rfl) (by rw [hs15]; decide) (by rw [hs15]; decide) (by rw [hs15]; rfl) (by decide) ?_
                                      refine r_aload_n hk 1 (dtL_law_8 60 (1002, .aload_n 1, 1) rfl) rfl ?_
                                      refine r_aload_n hk 0 (dtL_law_8 61 (1003, .aload_n 0, 1) rfl) rfl ?_
                                      refine r_iload hk 4 (dtL_law_8 62 (1004, .iload 4, 2) rfl) rfl ?_
                                      refine r_iconst (v := 1) hk (dtL_law_8 63 (1006, .iconst 1, 1) rfl) (by decide) ?_
                                      refine r_iadd hk hF (dtL_law_9 0 (1007, .iadd, 1) rfl) (fun v216 hF => ?_)
                                      refine r_sld hk hF (dtL_law_9 1 (1008, .iaload, 1) rfl) (fun v217 hF => ?_)
                                      refine r_aload_n hk 0 (dtL_law_9 2 (1009, .aload_n 0, 1) rfl) rfl ?_
                                      refine r_iload hk 4 (dtL_law_9 3 (1010, .iload 4, 2) rfl) rfl ?_
                                      refine r_iconst (v := 2) hk (dtL_law_9 4 (1012, .iconst 2, 1) rfl) (by decide) ?_
                                      refine r_iadd hk hF (dtL_law_9 5 (1013, .iadd, 1) rfl) (fun v218 hF => ?_)
                                      refine r_sld hk hF (dtL_law_9 6 (1014, .iaload, 1) rfl) (fun v219 hF => ?_)
                                      refine r_aload_n hk 3 (dtL_law_9 7 (1015, .aload_n 3, 1) rfl) rfl ?_
                                      refine r_callH hroom hF (fun v220 m221 h H locs ls hH hS hl => run_SW hk hroom (c_L_rowOf (kl K) hk.2.2.2.2.2.2.2.2.2.2.2 X v217 v219 mi v220 m221 h) lk_L_142 mh_L_rowOf yf_L_rowOf (by decide) (by decide) rfl (Nat.le_of_ble_eq_true rfl) rfl (dtL_law_9 8 (1016, .invokestatic 142, 3) rfl) hH hS hl) (fun v220 m221 hF => ?_)
                                      refine r_istore hk1 [(5, .int v220), (0, .ref (xb X)), (1, .ref (xad X (0, 0, 0, 0))), (2, .ref (xad X (3, 0, 0, 0))), (3, .ref (xad X (4, 0, 0, 0))), (4, .int vi)] (dtL_law_9 9 (1019, .istore 5, 2) rfl) (by decide) rfl ?_
                                      refine r_aload_n hk1 3 (dtL_law_9 10 (1021, .aload_n 2, 1) rfl) rfl ?_
                                      refine r_aload_n hk1 1 (dtL_law_9 11 (1022, .aload_n 0, 1) rfl) rfl ?_
                                      refine r_iload hk1 5 (dtL_law_9 12 (1023, .iload 4, 2) rfl) rfl ?_
                                      refine r_iconst (v := 1) hk1 (dtL_law_9 13 (1025, .iconst 1, 1) rfl) (by decide) ?_
                                      refine r_iadd hk1 hF (dtL_law_9 14 (1026, .iadd, 1) rfl) (fun v222 hF => ?_)
                                      refine r_sld hk1 hF (dtL_law_9 15 (1027, .iaload, 1) rfl) (fun v223 hF => ?_)
                                      refine r_aload_n hk1 1 (dtL_law_9 16 (1028, .aload_n 0, 1) rfl) rfl ?_
                                      refine r_iload hk1 5 (dtL_law_9 17 (1029, .iload 4, 2) rfl) rfl ?_
                                      refine r_iconst (v := 2) hk1 (dtL_law_9 18 (1031, .iconst 2, 1) rfl) (by decide) ?_
                                      refine r_iadd hk1 hF (dtL_law_9 19 (1032, .iadd, 1) rfl) (fun v224 hF => ?_)
                                      refine r_sld hk1 hF (dtL_law_9 20 (1033, .iaload, 1) rfl) (fun v225 hF => ?_)
                                      refine r_callIm hF (fun v226 m227 h H locs ls hH hS hl => run_V (y := yX4_rowOf) hk1 (in_mo 0 (by decide)) rfl rfl (c_X4_rowOf (kl K) hk1.2.2.2.2.2.2.2.2.2.2.2 X  v223 v225 m221 v226 m227 h) lk_L_144 me_X4_rowOf yf_X4_rowOf (by decide) (by decide) rfl (Nat.le_of_ble_eq_true rfl) rfl (dtL_law_9 21 (1034, .invokevirtual 144, 3) rfl) hH hS hl) (fun v226 m227 hF => ?_)
                                      refine r_istore hk1 [(6, .int v226), (5, .int v220), (0, .ref (xb X)), (1, .ref (xad X (0, 0, 0, 0))), (2, .ref (xad X (3, 0, 0, 0))), (3, .ref (xad X (4, 0, 0, 0))), (4, .int vi)] (dtL_law_9 22 (1037, .istore 6, 2) rfl) (by decide) rfl ?_
                                      refine r_aload_n hk1 4 (dtL_law_9 23 (1039, .aload_n 2, 1) rfl) rfl ?_
                                      refine r_callI hF (fun v228 h H locs ls hH hS hl => run_V (y := yX4_thrown) hk1 (in_mo 0 (by decide)) rfl rfl (c_X4_thrown (kl K) hk1.2.2.2.2.2.2.2.2.2.2.2 X   m227 v228 h) lk_L_91 me_X4_thrown yf_X4_thrown (by decide) (by decide) rfl (Nat.le_of_ble_eq_true rfl) rfl (dtL_law_9 24 (1040, .invokevirtual 91, 3) rfl) hH hS hl) (fun v228 hF => ?_)
                                      refine r_iload hk1 1 (dtL_law_9 25 (1043, .iload 5, 2) rfl) rfl ?_
                                      refine r_icmp_eq hk1 1050 hF (dtL_law_9 26 (1045, .if_icmp .eq 5, 3) rfl) (by decide) (fun hF => ?_) (fun hF => ?_)
                                      · refine r_iload hk1 1 (dtL_law_9 29 (1050, .iload 5, 2) rfl) rfl ?_
                                        have j1067_229 : (J_L_law_1067 vi (fun w0 w1 => LL (xL X) (xs X) n w0 w1) m227) = some () → G X (setc K (kce K + 1) (ksl K + 6)) 1067 [(0, .ref (xb X)), (1, .ref (xad X (0, 0, 0, 0))), (2, .ref (xad X (3, 0, 0, 0))), (3, .ref (xad X (4, 0, 0, 0))), (4, .int vi)] [] m227 := by
                                          intro hF
                                          unfold J_L_law_1067 at hF
                                          refine r_goto hk1 1549 (dtL_law_9 40 (1067, .goto 482, 3) rfl) (by decide) ?_
                                          exact r_sub hk1 [0, 1, 2, 3, 4] rfl (j1549_5 m227 hF)
                                        refine r_if_ne hk1 1067 hF (dtL_law_9 30 (1052, .ifCond .ne 15, 3) rfl) (by decide) (fun hF => ?_) (fun hF => ?_)
                                        · exact r_sub hk1 [2, 3, 4, 5, 6] rfl (j1067_229 hF)
                                        · refine r_aload_n hk1 5 (dtL_law_9 31 (1055, .aload_n 3, 1) rfl) rfl ?_
                                          refine r_iconst (v := 0) hk1 (dtL_law_9 32 (1056, .iconst 0, 1) rfl) (by decide) ?_
                                          refine r_lald hk1 hF (dtL_law_9 33 (1057, .laload, 1) rfl) (fun v230 hF => ?_)
                                          refine r_iload hk1 0 (dtL_law_9 34 (1058, .iload 6, 2) rfl) rfl ?_
                                          refine r_i2l hk1 hF (dtL_law_9 35 (1060, .i2l, 1) rfl) (fun v231 hF => ?_)
                                          refine r_lcmp hk1 hF (dtL_law_9 36 (1061, .lcmp, 1) rfl) (fun v232 hF => ?_)
                                          refine r_if_eq hk1 1067 hF (dtL_law_9 37 (1062, .ifCond .eq 5, 3) rfl) (by decide) (fun hF => ?_) (fun hF => ?_)
                                          · exact r_sub hk1 [2, 3, 4, 5, 6] rfl (j1067_229 hF)
                                          · refine r_iconst (v := 0) hk1 (dtL_law_9 38 (1065, .iconst 0, 1) rfl) (by decide) ?_
                                            exact nomatch hF
                                      · refine r_iconst (v := 0) hk1 (dtL_law_9 27 (1048, .iconst 0, 1) rfl) (by decide) ?_
                                        exact nomatch hF
                                    · rw [if_neg hs15] at hF
                                      by_cases hs16 : v3 = 16
                                      · rw [if_pos hs16] at hF
                                        unfold B_law_16 at hF
                                        refine r_tabIn hk 1070 (dtL_law_0 24 (39, .tableswitch 1510 0 23 #[109, 189, 257, 313, 381, 437, 517, 573, 629, 725, 781, 794, 807, 863, 919, 963, 1031, 1111, 1179, 1259, 1315, 1399, 1455, 1496], 109) rfl) (by rw [hs16]; decide) (by rw [hs16]; decide) (by rw [hs16]; rfl) (by decide) ?_
                                        refine r_aload_n hk 1 (dtL_law_9 41 (1070, .aload_n 1, 1) rfl) rfl ?_
                                        refine r_aload_n hk 0 (dtL_law_9 42 (1071, .aload_n 0, 1) rfl) rfl ?_
                                        refine r_iload hk 4 (dtL_law_9 43 (1072, .iload 4, 2) rfl) rfl ?_
                                        refine r_iconst (v := 1) hk (dtL_law_9 44 (1074, .iconst 1, 1) rfl) (by decide) ?_
                                        refine r_iadd hk hF (dtL_law_9 45 (1075, .iadd, 1) rfl) (fun v233 hF => ?_)
                                        refine r_sld hk hF (dtL_law_9 46 (1076, .iaload, 1) rfl) (fun v234 hF => ?_)
                                        refine r_aload_n hk 0 (dtL_law_9 47 (1077, .aload_n 0, 1) rfl) rfl ?_
                                        refine r_iload hk 4 (dtL_law_9 48 (1078, .iload 4, 2) rfl) rfl ?_
                                        refine r_iconst (v := 2) hk (dtL_law_9 49 (1080, .iconst 2, 1) rfl) (by decide) ?_
                                        refine r_iadd hk hF (dtL_law_9 50 (1081, .iadd, 1) rfl) (fun v235 hF => ?_)
                                        refine r_sld hk hF (dtL_law_9 51 (1082, .iaload, 1) rfl) (fun v236 hF => ?_)
                                        refine r_aload_n hk 0 (dtL_law_9 52 (1083, .aload_n 0, 1) rfl) rfl ?_
                                        refine r_iload hk 4 (dtL_law_9 53 (1084, .iload 4, 2) rfl) rfl ?_
                                        refine r_iconst (v := 3) hk (dtL_law_9 54 (1086, .iconst 3, 1) rfl) (by decide) ?_
                                        refine r_iadd hk hF (dtL_law_9 55 (1087, .iadd, 1) rfl) (fun v237 hF => ?_)
                                        refine r_sld hk hF (dtL_law_9 56 (1088, .iaload, 1) rfl) (fun v238 hF => ?_)
                                        refine r_aload_n hk 3 (dtL_law_9 57 (1089, .aload_n 3, 1) rfl) rfl ?_
                                        refine r_callH hroom hF (fun v239 m240 h H locs ls hH hS hl => run_SW hk hroom (c_L_column (kl K) hk.2.2.2.2.2.2.2.2.2.2.2 X v234 v236 v238 mi v239 m240 h) lk_L_145 mh_L_column yf_L_column (by decide) (by decide) rfl (Nat.le_of_ble_eq_true rfl) rfl (dtL_law_9 58 (1090, .invokestatic 145, 3) rfl) hH hS hl) (fun v239 m240 hF => ?_)
                                        refine r_istore hk1 [(5, .int v239), (0, .ref (xb X)), (1, .ref (xad X (0, 0, 0, 0))), (2, .ref (xad X (3, 0, 0, 0))), (3, .ref (xad X (4, 0, 0, 0))), (4, .int vi)] (dtL_law_9 59 (1093, .istore 5, 2) rfl) (by decide) rfl ?_
                                        refine r_aload_n hk1 3 (dtL_law_9 60 (1095, .aload_n 2, 1) rfl) rfl ?_
                                        refine r_aload_n hk1 1 (dtL_law_9 61 (1096, .aload_n 0, 1) rfl) rfl ?_
                                        refine r_iload hk1 5 (dtL_law_9 62 (1097, .iload 4, 2) rfl) rfl ?_
                                        refine r_iconst (v := 1) hk1 (dtL_law_9 63 (1099, .iconst 1, 1) rfl) (by decide) ?_
                                        refine r_iadd hk1 hF (dtL_law_10 0 (1100, .iadd, 1) rfl) (fun v241 hF => ?_)
                                        refine r_sld hk1 hF (dtL_law_10 1 (1101, .iaload, 1) rfl) (fun v242 hF => ?_)
                                        refine r_aload_n hk1 1 (dtL_law_10 2 (1102, .aload_n 0, 1) rfl) rfl ?_
                                        refine r_iload hk1 5 (dtL_law_10 3 (1103, .iload 4, 2) rfl) rfl ?_
                                        refine r_iconst (v := 2) hk1 (dtL_law_10 4 (1105, .iconst 2, 1) rfl) (by decide) ?_
                                        refine r_iadd hk1 hF (dtL_law_10 5 (1106, .iadd, 1) rfl) (fun v243 hF => ?_)
                                        refine r_sld hk1 hF (dtL_law_10 6 (1107, .iaload, 1) rfl) (fun v244 hF => ?_)
                                        refine r_aload_n hk1 1 (dtL_law_10 7 (1108, .aload_n 0, 1) rfl) rfl ?_
                                        refine r_iload hk1 5 (dtL_law_10 8 (1109, .iload 4, 2) rfl) rfl ?_
                                        refine r_iconst (v := 3) hk1 (dtL_law_10 9 (1111, .iconst 3, 1) rfl) (by decide) ?_
                                        refine r_iadd hk1 hF (dtL_law_10 10 (1112, .iadd, 1) rfl) (fun v245 hF => ?_)
                                        refine r_sld hk1 hF (dtL_law_10 11 (1113, .iaload, 1) rfl) (fun v246 hF => ?_)
                                        refine r_callIm hF (fun v247 m248 h H locs ls hH hS hl => run_V (y := yX4_column) hk1 (in_mo 0 (by decide)) rfl rfl (c_X4_column (kl K) hk1.2.2.2.2.2.2.2.2.2.2.2 X  v242 v244 v246 m240 v247 m248 h) lk_L_147 me_X4_column yf_X4_column (by decide) (by decide) rfl (Nat.le_of_ble_eq_true rfl) rfl (dtL_law_10 12 (1114, .invokevirtual 147, 3) rfl) hH hS hl) (fun v247 m248 hF => ?_)
                                        refine r_istore hk1 [(6, .int v247), (5, .int v239), (0, .ref (xb X)), (1, .ref (xad X (0, 0, 0, 0))), (2, .ref (xad X (3, 0, 0, 0))), (3, .ref (xad X (4, 0, 0, 0))), (4, .int vi)] (dtL_law_10 13 (1117, .istore 6, 2) rfl) (by decide) rfl ?_
                                        refine r_aload_n hk1 4 (dtL_law_10 14 (1119, .aload_n 2, 1) rfl) rfl ?_
                                        refine r_callI hF (fun v249 h H locs ls hH hS hl => run_V (y := yX4_thrown) hk1 (in_mo 0 (by decide)) rfl rfl (c_X4_thrown (kl K) hk1.2.2.2.2.2.2.2.2.2.2.2 X   m248 v249 h) lk_L_91 me_X4_thrown yf_X4_thrown (by decide) (by decide) rfl (Nat.le_of_ble_eq_true rfl) rfl (dtL_law_10 15 (1120, .invokevirtual 91, 3) rfl) hH hS hl) (fun v249 hF => ?_)
                                        refine r_iload hk1 1 (dtL_law_10 16 (1123, .iload 5, 2) rfl) rfl ?_
                                        refine r_icmp_eq hk1 1130 hF (dtL_law_10 17 (1125, .if_icmp .eq 5, 3) rfl) (by decide) (fun hF => ?_) (fun hF => ?_)
                                        · refine r_iload hk1 1 (dtL_law_10 20 (1130, .iload 5, 2) rfl) rfl ?_
                                          have j1147_250 : (J_L_law_1147 vi (fun w0 w1 => LL (xL X) (xs X) n w0 w1) m248) = some () → G X (setc K (kce K + 1) (ksl K + 6)) 1147 [(0, .ref (xb X)), (1, .ref (xad X (0, 0, 0, 0))), (2, .ref (xad X (3, 0, 0, 0))), (3, .ref (xad X (4, 0, 0, 0))), (4, .int vi)] [] m248 := by
                                            intro hF
                                            unfold J_L_law_1147 at hF
                                            refine r_goto hk1 1549 (dtL_law_10 31 (1147, .goto 402, 3) rfl) (by decide) ?_
                                            exact r_sub hk1 [0, 1, 2, 3, 4] rfl (j1549_5 m248 hF)
                                          refine r_if_ne hk1 1147 hF (dtL_law_10 21 (1132, .ifCond .ne 15, 3) rfl) (by decide) (fun hF => ?_) (fun hF => ?_)
                                          · exact r_sub hk1 [2, 3, 4, 5, 6] rfl (j1147_250 hF)
                                          · refine r_aload_n hk1 5 (dtL_law_10 22 (1135, .aload_n 3, 1) rfl) rfl ?_
                                            refine r_iconst (v := 0) hk1 (dtL_law_10 23 (1136, .iconst 0, 1) rfl) (by decide) ?_
                                            refine r_lald hk1 hF (dtL_law_10 24 (1137, .laload, 1) rfl) (fun v251 hF => ?_)
                                            refine r_iload hk1 0 (dtL_law_10 25 (1138, .iload 6, 2) rfl) rfl ?_
                                            refine r_i2l hk1 hF (dtL_law_10 26 (1140, .i2l, 1) rfl) (fun v252 hF => ?_)
                                            refine r_lcmp hk1 hF (dtL_law_10 27 (1141, .lcmp, 1) rfl) (fun v253 hF => ?_)
                                            refine r_if_eq hk1 1147 hF (dtL_law_10 28 (1142, .ifCond .eq 5, 3) rfl) (by decide) (fun hF => ?_) (fun hF => ?_)
                                            · exact r_sub hk1 [2, 3, 4, 5, 6] rfl (j1147_250 hF)
                                            · refine r_iconst (v := 0) hk1 (dtL_law_10 29 (1145, .iconst 0, 1) rfl) (by decide) ?_
                                              exact nomatch hF
                                        · refine r_iconst (v := 0) hk1 (dtL_law_10 18 (1128, .iconst 0, 1) rfl) (by decide) ?_
                                          exact nomatch hF
                                      · rw [if_neg hs16] at hF
                                        by_cases hs17 : v3 = 17
                                        · rw [if_pos hs17] at hF
                                          unfold B_law_17 at hF
                                          refine r_tabIn hk 1150 (dtL_law_0 24 (39, .tableswitch 1510 0 23 #[109, 189, 257, 313, 381, 437, 517, 573, 629, 725, 781, 794, 807, 863, 919, 963, 1031, 1111, 1179, 1259, 1315, 1399, 1455, 1496], 109) rfl) (by rw [hs17]; decide) (by rw [hs17]; decide) (by rw [hs17]; rfl) (by decide) ?_
                                          refine r_aload_n hk 1 (dtL_law_10 32 (1150, .aload_n 1, 1) rfl) rfl ?_
                                          refine r_aload_n hk 0 (dtL_law_10 33 (1151, .aload_n 0, 1) rfl) rfl ?_
                                          refine r_iload hk 4 (dtL_law_10 34 (1152, .iload 4, 2) rfl) rfl ?_
                                          refine r_iconst (v := 1) hk (dtL_law_10 35 (1154, .iconst 1, 1) rfl) (by decide) ?_
                                          refine r_iadd hk hF (dtL_law_10 36 (1155, .iadd, 1) rfl) (fun v254 hF => ?_)
                                          refine r_sld hk hF (dtL_law_10 37 (1156, .iaload, 1) rfl) (fun v255 hF => ?_)
                                          refine r_aload_n hk 0 (dtL_law_10 38 (1157, .aload_n 0, 1) rfl) rfl ?_
                                          refine r_iload hk 4 (dtL_law_10 39 (1158, .iload 4, 2) rfl) rfl ?_
                                          refine r_iconst (v := 2) hk (dtL_law_10 40 (1160, .iconst 2, 1) rfl) (by decide) ?_
                                          refine r_iadd hk hF (dtL_law_10 41 (1161, .iadd, 1) rfl) (fun v256 hF => ?_)
                                          refine r_sld hk hF (dtL_law_10 42 (1162, .iaload, 1) rfl) (fun v257 hF => ?_)
                                          refine r_aload_n hk 3 (dtL_law_10 43 (1163, .aload_n 3, 1) rfl) rfl ?_
                                          refine r_callH hroom hF (fun v258 m259 h H locs ls hH hS hl => run_SW hk hroom (c_L_tenant (kl K) hk.2.2.2.2.2.2.2.2.2.2.2 X v255 v257 mi v258 m259 h) lk_L_148 mh_L_tenant yf_L_tenant (by decide) (by decide) rfl (Nat.le_of_ble_eq_true rfl) rfl (dtL_law_10 44 (1164, .invokestatic 148, 3) rfl) hH hS hl) (fun v258 m259 hF => ?_)
                                          refine r_istore hk1 [(5, .int v258), (0, .ref (xb X)), (1, .ref (xad X (0, 0, 0, 0))), (2, .ref (xad X (3, 0, 0, 0))), (3, .ref (xad X (4, 0, 0, 0))), (4, .int vi)] (dtL_law_10 45 (1167, .istore 5, 2) rfl) (by decide) rfl ?_
                                          refine r_aload_n hk1 3 (dtL_law_10 46 (1169, .aload_n 2, 1) rfl) rfl ?_
                                          refine r_aload_n hk1 1 (dtL_law_10 47 (1170, .aload_n 0, 1) rfl) rfl ?_
                                          refine r_iload hk1 5 (dtL_law_10 48 (1171, .iload 4, 2) rfl) rfl ?_
                                          refine r_iconst (v := 1) hk1 (dtL_law_10 49 (1173, .iconst 1, 1) rfl) (by decide) ?_
                                          refine r_iadd hk1 hF (dtL_law_10 50 (1174, .iadd, 1) rfl) (fun v260 hF => ?_)
                                          refine r_sld hk1 hF (dtL_law_10 51 (1175, .iaload, 1) rfl) (fun v261 hF => ?_)
                                          refine r_aload_n hk1 1 (dtL_law_10 52 (1176, .aload_n 0, 1) rfl) rfl ?_
                                          refine r_iload hk1 5 (dtL_law_10 53 (1177, .iload 4, 2) rfl) rfl ?_
                                          refine r_iconst (v := 2) hk1 (dtL_law_10 54 (1179, .iconst 2, 1) rfl) (by decide) ?_
                                          refine r_iadd hk1 hF (dtL_law_10 55 (1180, .iadd, 1) rfl) (fun v262 hF => ?_)
                                          refine r_sld hk1 hF (dtL_law_10 56 (1181, .iaload, 1) rfl) (fun v263 hF => ?_)
                                          refine r_callIm hF (fun v264 m265 h H locs ls hH hS hl => run_V (y := yX4_tenant) hk1 (in_mo 0 (by decide)) rfl rfl (c_X4_tenant (kl K) hk1.2.2.2.2.2.2.2.2.2.2.2 X  v261 v263 m259 v264 m265 h) lk_L_150 me_X4_tenant yf_X4_tenant (by decide) (by decide) rfl (Nat.le_of_ble_eq_true rfl) rfl (dtL_law_10 57 (1182, .invokevirtual 150, 3) rfl) hH hS hl) (fun v264 m265 hF => ?_)
                                          refine r_istore hk1 [(6, .int v264), (5, .int v258), (0, .ref (xb X)), (1, .ref (xad X (0, 0, 0, 0))), (2, .ref (xad X (3, 0, 0, 0))), (3, .ref (xad X (4, 0, 0, 0))), (4, .int vi)] (dtL_law_10 58 (1185, .istore 6, 2) rfl) (by decide) rfl ?_
                                          refine r_aload_n hk1 4 (dtL_law_10 59 (1187, .aload_n 2, 1) rfl) rfl ?_
                                          refine r_callI hF (fun v266 h H locs ls hH hS hl => run_V (y := yX4_thrown) hk1 (in_mo 0 (by decide)) rfl rfl (c_X4_thrown (kl K) hk1.2.2.2.2.2.2.2.2.2.2.2 X   m265 v266 h) lk_L_91 me_X4_thrown yf_X4_thrown (by decide) (by decide) rfl (Nat.le_of_ble_eq_true rfl) rfl (dtL_law_10 60 (1188, .invokevirtual 91, 3) rfl) hH hS hl) (fun v266 hF => ?_)
                                          refine r_iload hk1 1 (dtL_law_10 61 (1191, .iload 5, 2) rfl) rfl ?_
                                          refine r_icmp_eq hk1 1198 hF (dtL_law_10 62 (1193, .if_icmp .eq 5, 3) rfl) (by decide) (fun hF => ?_) (fun hF => ?_)
                                          · refine r_iload hk1 1 (dtL_law_11 1 (1198, .iload 5, 2) rfl) rfl ?_
                                            have j1215_267 : (J_L_law_1215 vi (fun w0 w1 => LL (xL X) (xs X) n w0 w1) m265) = some () → G X (setc K (kce K + 1) (ksl K + 6)) 1215 [(0, .ref (xb X)), (1, .ref (xad X (0, 0, 0, 0))), (2, .ref (xad X (3, 0, 0, 0))), (3, .ref (xad X (4, 0, 0, 0))), (4, .int vi)] [] m265 := by
                                              intro hF
                                              unfold J_L_law_1215 at hF
                                              refine r_goto hk1 1549 (dtL_law_11 12 (1215, .goto 334, 3) rfl) (by decide) ?_
                                              exact r_sub hk1 [0, 1, 2, 3, 4] rfl (j1549_5 m265 hF)
                                            refine r_if_ne hk1 1215 hF (dtL_law_11 2 (1200, .ifCond .ne 15, 3) rfl) (by decide) (fun hF => ?_) (fun hF => ?_)
                                            · exact r_sub hk1 [2, 3, 4, 5, 6] rfl (j1215_267 hF)
                                            · refine r_aload_n hk1 5 (dtL_law_11 3 (1203, .aload_n 3, 1) rfl) rfl ?_
                                              refine r_iconst (v := 0) hk1 (dtL_law_11 4 (1204, .iconst 0, 1) rfl) (by decide) ?_
                                              refine r_lald hk1 hF (dtL_law_11 5 (1205, .laload, 1) rfl) (fun v268 hF => ?_)
                                              refine r_iload hk1 0 (dtL_law_11 6 (1206, .iload 6, 2) rfl) rfl ?_
                                              refine r_i2l hk1 hF (dtL_law_11 7 (1208, .i2l, 1) rfl) (fun v269 hF => ?_)
                                              refine r_lcmp hk1 hF (dtL_law_11 8 (1209, .lcmp, 1) rfl) (fun v270 hF => ?_)
                                              refine r_if_eq hk1 1215 hF (dtL_law_11 9 (1210, .ifCond .eq 5, 3) rfl) (by decide) (fun hF => ?_) (fun hF => ?_)
                                              · exact r_sub hk1 [2, 3, 4, 5, 6] rfl (j1215_267 hF)
                                              · refine r_iconst (v := 0) hk1 (dtL_law_11 10 (1213, .iconst 0, 1) rfl) (by decide) ?_
                                                exact nomatch hF
                                          · refine r_iconst (v := 0) hk1 (dtL_law_10 63 (1196, .iconst 0, 1) rfl) (by decide) ?_
                                            exact nomatch hF
                                        · rw [if_neg hs17] at hF
                                          by_cases hs18 : v3 = 18
                                          · rw [if_pos hs18] at hF
                                            unfold B_law_18 at hF
                                            refine r_tabIn hk 1218 (dtL_law_0 24 (39, .tableswitch 1510 0 23 #[109, 189, 257, 313, 381, 437, 517, 573, 629, 725, 781, 794, 807, 863, 919, 963, 1031, 1111, 1179, 1259, 1315, 1399, 1455, 1496], 109) rfl) (by rw [hs18]; decide) (by rw [hs18]; decide) (by rw [hs18]; rfl) (by decide) ?_
                                            refine r_aload_n hk 1 (dtL_law_11 13 (1218, .aload_n 1, 1) rfl) rfl ?_
                                            refine r_aload_n hk 0 (dtL_law_11 14 (1219, .aload_n 0, 1) rfl) rfl ?_
                                            refine r_iload hk 4 (dtL_law_11 15 (1220, .iload 4, 2) rfl) rfl ?_
                                            refine r_iconst (v := 1) hk (dtL_law_11 16 (1222, .iconst 1, 1) rfl) (by decide) ?_
                                            refine r_iadd hk hF (dtL_law_11 17 (1223, .iadd, 1) rfl) (fun v271 hF => ?_)
                                            refine r_sld hk hF (dtL_law_11 18 (1224, .iaload, 1) rfl) (fun v272 hF => ?_)
                                            refine r_aload_n hk 0 (dtL_law_11 19 (1225, .aload_n 0, 1) rfl) rfl ?_
                                            refine r_iload hk 4 (dtL_law_11 20 (1226, .iload 4, 2) rfl) rfl ?_
                                            refine r_iconst (v := 2) hk (dtL_law_11 21 (1228, .iconst 2, 1) rfl) (by decide) ?_
                                            refine r_iadd hk hF (dtL_law_11 22 (1229, .iadd, 1) rfl) (fun v273 hF => ?_)
                                            refine r_sld hk hF (dtL_law_11 23 (1230, .iaload, 1) rfl) (fun v274 hF => ?_)
                                            refine r_aload_n hk 0 (dtL_law_11 24 (1231, .aload_n 0, 1) rfl) rfl ?_
                                            refine r_iload hk 4 (dtL_law_11 25 (1232, .iload 4, 2) rfl) rfl ?_
                                            refine r_iconst (v := 3) hk (dtL_law_11 26 (1234, .iconst 3, 1) rfl) (by decide) ?_
                                            refine r_iadd hk hF (dtL_law_11 27 (1235, .iadd, 1) rfl) (fun v275 hF => ?_)
                                            refine r_sld hk hF (dtL_law_11 28 (1236, .iaload, 1) rfl) (fun v276 hF => ?_)
                                            refine r_aload_n hk 3 (dtL_law_11 29 (1237, .aload_n 3, 1) rfl) rfl ?_
                                            refine r_callH hroom hF (fun v277 m278 h H locs ls hH hS hl => run_SW hk hroom (c_L_answer (kl K) hk.2.2.2.2.2.2.2.2.2.2.2 X v272 v274 v276 mi v277 m278 h) lk_L_151 mh_L_answer yf_L_answer (by decide) (by decide) rfl (Nat.le_of_ble_eq_true rfl) rfl (dtL_law_11 30 (1238, .invokestatic 151, 3) rfl) hH hS hl) (fun v277 m278 hF => ?_)
                                            refine r_istore hk1 [(5, .int v277), (0, .ref (xb X)), (1, .ref (xad X (0, 0, 0, 0))), (2, .ref (xad X (3, 0, 0, 0))), (3, .ref (xad X (4, 0, 0, 0))), (4, .int vi)] (dtL_law_11 31 (1241, .istore 5, 2) rfl) (by decide) rfl ?_
                                            refine r_aload_n hk1 3 (dtL_law_11 32 (1243, .aload_n 2, 1) rfl) rfl ?_
                                            refine r_aload_n hk1 1 (dtL_law_11 33 (1244, .aload_n 0, 1) rfl) rfl ?_
                                            refine r_iload hk1 5 (dtL_law_11 34 (1245, .iload 4, 2) rfl) rfl ?_
                                            refine r_iconst (v := 1) hk1 (dtL_law_11 35 (1247, .iconst 1, 1) rfl) (by decide) ?_
                                            refine r_iadd hk1 hF (dtL_law_11 36 (1248, .iadd, 1) rfl) (fun v279 hF => ?_)
                                            refine r_sld hk1 hF (dtL_law_11 37 (1249, .iaload, 1) rfl) (fun v280 hF => ?_)
                                            refine r_aload_n hk1 1 (dtL_law_11 38 (1250, .aload_n 0, 1) rfl) rfl ?_
                                            refine r_iload hk1 5 (dtL_law_11 39 (1251, .iload 4, 2) rfl) rfl ?_
                                            refine r_iconst (v := 2) hk1 (dtL_law_11 40 (1253, .iconst 2, 1) rfl) (by decide) ?_
                                            refine r_iadd hk1 hF (dtL_law_11 41 (1254, .iadd, 1) rfl) (fun v281 hF => ?_)
                                            refine r_sld hk1 hF (dtL_law_11 42 (1255, .iaload, 1) rfl) (fun v282 hF => ?_)
                                            refine r_aload_n hk1 1 (dtL_law_11 43 (1256, .aload_n 0, 1) rfl) rfl ?_
                                            refine r_iload hk1 5 (dtL_law_11 44 (1257, .iload 4, 2) rfl) rfl ?_
                                            refine r_iconst (v := 3) hk1 (dtL_law_11 45 (1259, .iconst 3, 1) rfl) (by decide) ?_
                                            refine r_iadd hk1 hF (dtL_law_11 46 (1260, .iadd, 1) rfl) (fun v283 hF => ?_)
                                            refine r_sld hk1 hF (dtL_law_11 47 (1261, .iaload, 1) rfl) (fun v284 hF => ?_)
                                            refine r_callIm hF (fun v285 m286 h H locs ls hH hS hl => run_V (y := yX4_answer) hk1 (in_mo 0 (by decide)) rfl rfl (c_X4_answer (kl K) hk1.2.2.2.2.2.2.2.2.2.2.2 X  v280 v282 v284 m278 v285 m286 h) lk_L_153 me_X4_answer yf_X4_answer (by decide) (by decide) rfl (Nat.le_of_ble_eq_true rfl) rfl (dtL_law_11 48 (1262, .invokevirtual 153, 3) rfl) hH hS hl) (fun v285 m286 hF => ?_)
                                            refine r_istore hk1 [(6, .int v285), (5, .int v277), (0, .ref (xb X)), (1, .ref (xad X (0, 0, 0, 0))), (2, .ref (xad X (3, 0, 0, 0))), (3, .ref (xad X (4, 0, 0, 0))), (4, .int vi)] (dtL_law_11 49 (1265, .istore 6, 2) rfl) (by decide) rfl ?_
                                            refine r_aload_n hk1 4 (dtL_law_11 50 (1267, .aload_n 2, 1) rfl) rfl ?_
                                            refine r_callI hF (fun v287 h H locs ls hH hS hl => run_V (y := yX4_thrown) hk1 (in_mo 0 (by decide)) rfl rfl (c_X4_thrown (kl K) hk1.2.2.2.2.2.2.2.2.2.2.2 X   m286 v287 h) lk_L_91 me_X4_thrown yf_X4_thrown (by decide) (by decide) rfl (Nat.le_of_ble_eq_true rfl) rfl (dtL_law_11 51 (1268, .invokevirtual 91, 3) rfl) hH hS hl) (fun v287 hF => ?_)
                                            refine r_iload hk1 1 (dtL_law_11 52 (1271, .iload 5, 2) rfl) rfl ?_
                                            refine r_icmp_eq hk1 1278 hF (dtL_law_11 53 (1273, .if_icmp .eq 5, 3) rfl) (by decide) (fun hF => ?_) (fun hF => ?_)
                                            · refine r_iload hk1 1 (dtL_law_11 56 (1278, .iload 5, 2) rfl) rfl ?_
                                              have j1295_288 : (J_L_law_1295 vi (fun w0 w1 => LL (xL X) (xs X) n w0 w1) m286) = some () → G X (setc K (kce K + 1) (ksl K + 6)) 1295 [(0, .ref (xb X)), (1, .ref (xad X (0, 0, 0, 0))), (2, .ref (xad X (3, 0, 0, 0))), (3, .ref (xad X (4, 0, 0, 0))), (4, .int vi)] [] m286 := by
                                                intro hF
                                                unfold J_L_law_1295 at hF
                                                refine r_goto hk1 1549 (dtL_law_12 3 (1295, .goto 254, 3) rfl) (by decide) ?_
                                                exact r_sub hk1 [0, 1, 2, 3, 4] rfl (j1549_5 m286 hF)
                                              refine r_if_ne hk1 1295 hF (dtL_law_11 57 (1280, .ifCond .ne 15, 3) rfl) (by decide) (fun hF => ?_) (fun hF => ?_)
                                              · exact r_sub hk1 [2, 3, 4, 5, 6] rfl (j1295_288 hF)
                                              · refine r_aload_n hk1 5 (dtL_law_11 58 (1283, .aload_n 3, 1) rfl) rfl ?_
                                                refine r_iconst (v := 0) hk1 (dtL_law_11 59 (1284, .iconst 0, 1) rfl) (by decide) ?_
                                                refine r_lald hk1 hF (dtL_law_11 60 (1285, .laload, 1) rfl) (fun v289 hF => ?_)
                                                refine r_iload hk1 0 (dtL_law_11 61 (1286, .iload 6, 2) rfl) rfl ?_
                                                refine r_i2l hk1 hF (dtL_law_11 62 (1288, .i2l, 1) rfl) (fun v290 hF => ?_)
                                                refine r_lcmp hk1 hF (dtL_law_11 63 (1289, .lcmp, 1) rfl) (fun v291 hF => ?_)
                                                refine r_if_eq hk1 1295 hF (dtL_law_12 0 (1290, .ifCond .eq 5, 3) rfl) (by decide) (fun hF => ?_) (fun hF => ?_)
                                                · exact r_sub hk1 [2, 3, 4, 5, 6] rfl (j1295_288 hF)
                                                · refine r_iconst (v := 0) hk1 (dtL_law_12 1 (1293, .iconst 0, 1) rfl) (by decide) ?_
                                                  exact nomatch hF
                                            · refine r_iconst (v := 0) hk1 (dtL_law_11 54 (1276, .iconst 0, 1) rfl) (by decide) ?_
                                              exact nomatch hF
                                          · rw [if_neg hs18] at hF
                                            by_cases hs19 : v3 = 19
                                            · rw [if_pos hs19] at hF
                                              unfold B_law_19 at hF
                                              refine r_tabIn hk 1298 (dtL_law_0 24 (39, .tableswitch 1510 0 23 #[109, 189, 257, 313, 381, 437, 517, 573, 629, 725, 781, 794, 807, 863, 919, 963, 1031, 1111, 1179, 1259, 1315, 1399, 1455, 1496], 109) rfl) (by rw [hs19]; decide) (by rw [hs19]; decide) (by rw [hs19]; rfl) (by decide) ?_
                                              refine r_aload_n hk 1 (dtL_law_12 4 (1298, .aload_n 1, 1) rfl) rfl ?_
                                              refine r_aload_n hk 0 (dtL_law_12 5 (1299, .aload_n 0, 1) rfl) rfl ?_
                                              refine r_iload hk 4 (dtL_law_12 6 (1300, .iload 4, 2) rfl) rfl ?_
                                              refine r_iconst (v := 1) hk (dtL_law_12 7 (1302, .iconst 1, 1) rfl) (by decide) ?_
                                              refine r_iadd hk hF (dtL_law_12 8 (1303, .iadd, 1) rfl) (fun v292 hF => ?_)
                                              refine r_sld hk hF (dtL_law_12 9 (1304, .iaload, 1) rfl) (fun v293 hF => ?_)
                                              refine r_aload_n hk 3 (dtL_law_12 10 (1305, .aload_n 3, 1) rfl) rfl ?_
                                              refine r_callH hroom hF (fun v294 m295 h H locs ls hH hS hl => run_SW hk hroom (c_L_count (kl K) hk.2.2.2.2.2.2.2.2.2.2.2 X v293 mi v294 m295 h) lk_L_154 mh_L_count yf_L_count (by decide) (by decide) rfl (Nat.le_of_ble_eq_true rfl) rfl (dtL_law_12 11 (1306, .invokestatic 154, 3) rfl) hH hS hl) (fun v294 m295 hF => ?_)
                                              refine r_istore hk1 [(5, .int v294), (0, .ref (xb X)), (1, .ref (xad X (0, 0, 0, 0))), (2, .ref (xad X (3, 0, 0, 0))), (3, .ref (xad X (4, 0, 0, 0))), (4, .int vi)] (dtL_law_12 12 (1309, .istore 5, 2) rfl) (by decide) rfl ?_
                                              refine r_aload_n hk1 3 (dtL_law_12 13 (1311, .aload_n 2, 1) rfl) rfl ?_
                                              refine r_aload_n hk1 1 (dtL_law_12 14 (1312, .aload_n 0, 1) rfl) rfl ?_
                                              refine r_iload hk1 5 (dtL_law_12 15 (1313, .iload 4, 2) rfl) rfl ?_
                                              refine r_iconst (v := 1) hk1 (dtL_law_12 16 (1315, .iconst 1, 1) rfl) (by decide) ?_
                                              refine r_iadd hk1 hF (dtL_law_12 17 (1316, .iadd, 1) rfl) (fun v296 hF => ?_)
                                              refine r_sld hk1 hF (dtL_law_12 18 (1317, .iaload, 1) rfl) (fun v297 hF => ?_)
                                              refine r_callIm hF (fun v298 m299 h H locs ls hH hS hl => run_V (y := yX4_count) hk1 (in_mo 0 (by decide)) rfl rfl (c_X4_count (kl K) hk1.2.2.2.2.2.2.2.2.2.2.2 X  v297 m295 v298 m299 h) lk_L_156 me_X4_count yf_X4_count (by decide) (by decide) rfl (Nat.le_of_ble_eq_true rfl) rfl (dtL_law_12 19 (1318, .invokevirtual 156, 3) rfl) hH hS hl) (fun v298 m299 hF => ?_)
                                              refine r_istore hk1 [(6, .int v298), (5, .int v294), (0, .ref (xb X)), (1, .ref (xad X (0, 0, 0, 0))), (2, .ref (xad X (3, 0, 0, 0))), (3, .ref (xad X (4, 0, 0, 0))), (4, .int vi)] (dtL_law_12 20 (1321, .istore 6, 2) rfl) (by decide) rfl ?_
                                              refine r_aload_n hk1 4 (dtL_law_12 21 (1323, .aload_n 2, 1) rfl) rfl ?_
                                              refine r_callI hF (fun v300 h H locs ls hH hS hl => run_V (y := yX4_thrown) hk1 (in_mo 0 (by decide)) rfl rfl (c_X4_thrown (kl K) hk1.2.2.2.2.2.2.2.2.2.2.2 X   m299 v300 h) lk_L_91 me_X4_thrown yf_X4_thrown (by decide) (by decide) rfl (Nat.le_of_ble_eq_true rfl) rfl (dtL_law_12 22 (1324, .invokevirtual 91, 3) rfl) hH hS hl) (fun v300 hF => ?_)
                                              refine r_iload hk1 1 (dtL_law_12 23 (1327, .iload 5, 2) rfl) rfl ?_
                                              refine r_icmp_eq hk1 1334 hF (dtL_law_12 24 (1329, .if_icmp .eq 5, 3) rfl) (by decide) (fun hF => ?_) (fun hF => ?_)
                                              · refine r_iload hk1 1 (dtL_law_12 27 (1334, .iload 5, 2) rfl) rfl ?_
                                                have j1351_301 : (J_L_law_1351 vi (fun w0 w1 => LL (xL X) (xs X) n w0 w1) m299) = some () → G X (setc K (kce K + 1) (ksl K + 6)) 1351 [(0, .ref (xb X)), (1, .ref (xad X (0, 0, 0, 0))), (2, .ref (xad X (3, 0, 0, 0))), (3, .ref (xad X (4, 0, 0, 0))), (4, .int vi)] [] m299 := by
                                                  intro hF
                                                  unfold J_L_law_1351 at hF
                                                  refine r_goto hk1 1549 (dtL_law_12 38 (1351, .goto 198, 3) rfl) (by decide) ?_
                                                  exact r_sub hk1 [0, 1, 2, 3, 4] rfl (j1549_5 m299 hF)
                                                refine r_if_ne hk1 1351 hF (dtL_law_12 28 (1336, .ifCond .ne 15, 3) rfl) (by decide) (fun hF => ?_) (fun hF => ?_)
                                                · exact r_sub hk1 [2, 3, 4, 5, 6] rfl (j1351_301 hF)
                                                · refine r_aload_n hk1 5 (dtL_law_12 29 (1339, .aload_n 3, 1) rfl) rfl ?_
                                                  refine r_iconst (v := 0) hk1 (dtL_law_12 30 (1340, .iconst 0, 1) rfl) (by decide) ?_
                                                  refine r_lald hk1 hF (dtL_law_12 31 (1341, .laload, 1) rfl) (fun v302 hF => ?_)
                                                  refine r_iload hk1 0 (dtL_law_12 32 (1342, .iload 6, 2) rfl) rfl ?_
                                                  refine r_i2l hk1 hF (dtL_law_12 33 (1344, .i2l, 1) rfl) (fun v303 hF => ?_)
                                                  refine r_lcmp hk1 hF (dtL_law_12 34 (1345, .lcmp, 1) rfl) (fun v304 hF => ?_)
                                                  refine r_if_eq hk1 1351 hF (dtL_law_12 35 (1346, .ifCond .eq 5, 3) rfl) (by decide) (fun hF => ?_) (fun hF => ?_)
                                                  · exact r_sub hk1 [2, 3, 4, 5, 6] rfl (j1351_301 hF)
                                                  · refine r_iconst (v := 0) hk1 (dtL_law_12 36 (1349, .iconst 0, 1) rfl) (by decide) ?_
                                                    exact nomatch hF
                                              · refine r_iconst (v := 0) hk1 (dtL_law_12 25 (1332, .iconst 0, 1) rfl) (by decide) ?_
                                                exact nomatch hF
                                            · rw [if_neg hs19] at hF
                                              by_cases hs20 : v3 = 20
                                              · rw [if_pos hs20] at hF
                                                unfold B_law_20 at hF
                                                refine r_tabIn hk 1354 (dtL_law_0 24 (39, .tableswitch 1510 0 23 #[109, 189, 257, 313, 381, 437, 517, 573, 629, 725, 781, 794, 807, 863, 919, 963, 1031, 1111, 1179, 1259, 1315, 1399, 1455, 1496], 109) rfl) (by rw [hs20]; decide) (by rw [hs20]; decide) (by rw [hs20]; rfl) (by decide) ?_
                                                refine r_aload_n hk 1 (dtL_law_12 39 (1354, .aload_n 1, 1) rfl) rfl ?_
                                                refine r_aload_n hk 0 (dtL_law_12 40 (1355, .aload_n 0, 1) rfl) rfl ?_
                                                refine r_iload hk 4 (dtL_law_12 41 (1356, .iload 4, 2) rfl) rfl ?_
                                                refine r_iconst (v := 1) hk (dtL_law_12 42 (1358, .iconst 1, 1) rfl) (by decide) ?_
                                                refine r_iadd hk hF (dtL_law_12 43 (1359, .iadd, 1) rfl) (fun v305 hF => ?_)
                                                refine r_sld hk hF (dtL_law_12 44 (1360, .iaload, 1) rfl) (fun v306 hF => ?_)
                                                refine r_aload_n hk 0 (dtL_law_12 45 (1361, .aload_n 0, 1) rfl) rfl ?_
                                                refine r_iload hk 4 (dtL_law_12 46 (1362, .iload 4, 2) rfl) rfl ?_
                                                refine r_iconst (v := 2) hk (dtL_law_12 47 (1364, .iconst 2, 1) rfl) (by decide) ?_
                                                refine r_iadd hk hF (dtL_law_12 48 (1365, .iadd, 1) rfl) (fun v307 hF => ?_)
                                                refine r_sld hk hF (dtL_law_12 49 (1366, .iaload, 1) rfl) (fun v308 hF => ?_)
                                                have j1375_310 : ∀ (v309 : Int32), (J_L_law_1375 (xL X) (xs X) vi mi (fun w0 w1 => LL (xL X) (xs X) n w0 w1) v306) v309 = some () → G X K 1375 [(0, .ref (xb X)), (1, .ref (xad X (0, 0, 0, 0))), (2, .ref (xad X (3, 0, 0, 0))), (3, .ref (xad X (4, 0, 0, 0))), (4, .int vi)] [.int v309, .int v306, .ref (xad X (0, 0, 0, 0))] mi := by
                                                  intro v309 hF
                                                  unfold J_L_law_1375 at hF
                                                  refine r_aload_n hk 3 (dtL_law_12 54 (1375, .aload_n 3, 1) rfl) rfl ?_
                                                  refine r_callH hroom hF (fun v311 m312 h H locs ls hH hS hl => run_SW hk hroom (c_L_looked (kl K) hk.2.2.2.2.2.2.2.2.2.2.2 X v306 v309 mi v311 m312 h) lk_L_157 mh_L_looked yf_L_looked (by decide) (by decide) rfl (Nat.le_of_ble_eq_true rfl) rfl (dtL_law_12 55 (1376, .invokestatic 157, 3) rfl) hH hS hl) (fun v311 m312 hF => ?_)
                                                  refine r_istore hk1 [(5, .int v311), (0, .ref (xb X)), (1, .ref (xad X (0, 0, 0, 0))), (2, .ref (xad X (3, 0, 0, 0))), (3, .ref (xad X (4, 0, 0, 0))), (4, .int vi)] (dtL_law_12 56 (1379, .istore 5, 2) rfl) (by decide) rfl ?_
                                                  refine r_aload_n hk1 3 (dtL_law_12 57 (1381, .aload_n 2, 1) rfl) rfl ?_
                                                  refine r_aload_n hk1 1 (dtL_law_12 58 (1382, .aload_n 0, 1) rfl) rfl ?_
                                                  refine r_iload hk1 5 (dtL_law_12 59 (1383, .iload 4, 2) rfl) rfl ?_
                                                  refine r_iconst (v := 1) hk1 (dtL_law_12 60 (1385, .iconst 1, 1) rfl) (by decide) ?_
                                                  refine r_iadd hk1 hF (dtL_law_12 61 (1386, .iadd, 1) rfl) (fun v313 hF => ?_)
                                                  refine r_sld hk1 hF (dtL_law_12 62 (1387, .iaload, 1) rfl) (fun v314 hF => ?_)
                                                  refine r_aload_n hk1 1 (dtL_law_12 63 (1388, .aload_n 0, 1) rfl) rfl ?_
                                                  refine r_iload hk1 5 (dtL_law_13 0 (1389, .iload 4, 2) rfl) rfl ?_
                                                  refine r_iconst (v := 2) hk1 (dtL_law_13 1 (1391, .iconst 2, 1) rfl) (by decide) ?_
                                                  refine r_iadd hk1 hF (dtL_law_13 2 (1392, .iadd, 1) rfl) (fun v315 hF => ?_)
                                                  refine r_sld hk1 hF (dtL_law_13 3 (1393, .iaload, 1) rfl) (fun v316 hF => ?_)
                                                  have j1402_318 : ∀ (v317 : Int32), (J_L_law_1402 vi (fun w0 w1 => LL (xL X) (xs X) n w0 w1) v311 m312 v314) v317 = some () → G X (setc K (kce K + 1) (ksl K + 6)) 1402 [(0, .ref (xb X)), (1, .ref (xad X (0, 0, 0, 0))), (2, .ref (xad X (3, 0, 0, 0))), (3, .ref (xad X (4, 0, 0, 0))), (4, .int vi), (5, .int v311)] [.int v317, .int v314, .ref (xad X (3, 0, 0, 0))] m312 := by
                                                    intro v317 hF
                                                    unfold J_L_law_1402 at hF
                                                    refine r_callIm hF (fun v319 m320 h H locs ls hH hS hl => run_V (y := yX4_looked) hk1 (in_mo 0 (by decide)) rfl rfl (c_X4_looked (kl K) hk1.2.2.2.2.2.2.2.2.2.2.2 X  v314 v317 m312 v319 m320 h) lk_L_160 me_X4_looked yf_X4_looked (by decide) (by decide) rfl (Nat.le_of_ble_eq_true rfl) rfl (dtL_law_13 8 (1402, .invokevirtual 160, 3) rfl) hH hS hl) (fun v319 m320 hF => ?_)
                                                    refine r_istore hk1 [(6, .int v319), (0, .ref (xb X)), (1, .ref (xad X (0, 0, 0, 0))), (2, .ref (xad X (3, 0, 0, 0))), (3, .ref (xad X (4, 0, 0, 0))), (4, .int vi), (5, .int v311)] (dtL_law_13 9 (1405, .istore 6, 2) rfl) (by decide) rfl ?_
                                                    refine r_aload_n hk1 3 (dtL_law_13 10 (1407, .aload_n 2, 1) rfl) rfl ?_
                                                    refine r_callI hF (fun v321 h H locs ls hH hS hl => run_V (y := yX4_thrown) hk1 (in_mo 0 (by decide)) rfl rfl (c_X4_thrown (kl K) hk1.2.2.2.2.2.2.2.2.2.2.2 X   m320 v321 h) lk_L_91 me_X4_thrown yf_X4_thrown (by decide) (by decide) rfl (Nat.le_of_ble_eq_true rfl) rfl (dtL_law_13 11 (1408, .invokevirtual 91, 3) rfl) hH hS hl) (fun v321 hF => ?_)
                                                    refine r_iload hk1 6 (dtL_law_13 12 (1411, .iload 5, 2) rfl) rfl ?_
                                                    refine r_icmp_eq hk1 1418 hF (dtL_law_13 13 (1413, .if_icmp .eq 5, 3) rfl) (by decide) (fun hF => ?_) (fun hF => ?_)
                                                    · refine r_iload hk1 6 (dtL_law_13 16 (1418, .iload 5, 2) rfl) rfl ?_
                                                      have j1435_322 : (J_L_law_1435 vi (fun w0 w1 => LL (xL X) (xs X) n w0 w1) m320) = some () → G X (setc K (kce K + 1) (ksl K + 6)) 1435 [(0, .ref (xb X)), (1, .ref (xad X (0, 0, 0, 0))), (2, .ref (xad X (3, 0, 0, 0))), (3, .ref (xad X (4, 0, 0, 0))), (4, .int vi)] [] m320 := by
                                                        intro hF
                                                        unfold J_L_law_1435 at hF
                                                        refine r_goto hk1 1549 (dtL_law_13 27 (1435, .goto 114, 3) rfl) (by decide) ?_
                                                        exact r_sub hk1 [0, 1, 2, 3, 4] rfl (j1549_5 m320 hF)
                                                      refine r_if_ne hk1 1435 hF (dtL_law_13 17 (1420, .ifCond .ne 15, 3) rfl) (by decide) (fun hF => ?_) (fun hF => ?_)
                                                      · exact r_sub hk1 [1, 2, 3, 4, 5] rfl (j1435_322 hF)
                                                      · refine r_aload_n hk1 4 (dtL_law_13 18 (1423, .aload_n 3, 1) rfl) rfl ?_
                                                        refine r_iconst (v := 0) hk1 (dtL_law_13 19 (1424, .iconst 0, 1) rfl) (by decide) ?_
                                                        refine r_lald hk1 hF (dtL_law_13 20 (1425, .laload, 1) rfl) (fun v323 hF => ?_)
                                                        refine r_iload hk1 0 (dtL_law_13 21 (1426, .iload 6, 2) rfl) rfl ?_
                                                        refine r_i2l hk1 hF (dtL_law_13 22 (1428, .i2l, 1) rfl) (fun v324 hF => ?_)
                                                        refine r_lcmp hk1 hF (dtL_law_13 23 (1429, .lcmp, 1) rfl) (fun v325 hF => ?_)
                                                        refine r_if_eq hk1 1435 hF (dtL_law_13 24 (1430, .ifCond .eq 5, 3) rfl) (by decide) (fun hF => ?_) (fun hF => ?_)
                                                        · exact r_sub hk1 [1, 2, 3, 4, 5] rfl (j1435_322 hF)
                                                        · refine r_iconst (v := 0) hk1 (dtL_law_13 25 (1433, .iconst 0, 1) rfl) (by decide) ?_
                                                          exact nomatch hF
                                                    · refine r_iconst (v := 0) hk1 (dtL_law_13 14 (1416, .iconst 0, 1) rfl) (by decide) ?_
                                                      exact nomatch hF
                                                  refine r_if_eq hk1 1401 hF (dtL_law_13 4 (1394, .ifCond .eq 7, 3) rfl) (by decide) (fun hF => ?_) (fun hF => ?_)
                                                  · refine r_iconst (v := 0) hk1 (dtL_law_13 7 (1401, .iconst 0, 1) rfl) (by decide) ?_
                                                    exact r_sub hk1 [1, 2, 3, 4, 5, 0] rfl (j1402_318 0 hF)
                                                  · refine r_iconst (v := 1) hk1 (dtL_law_13 5 (1397, .iconst 1, 1) rfl) (by decide) ?_
                                                    refine r_goto hk1 1402 (dtL_law_13 6 (1398, .goto 4, 3) rfl) (by decide) ?_
                                                    exact r_sub hk1 [1, 2, 3, 4, 5, 0] rfl (j1402_318 1 hF)
                                                refine r_if_eq hk 1374 hF (dtL_law_12 50 (1367, .ifCond .eq 7, 3) rfl) (by decide) (fun hF => ?_) (fun hF => ?_)
                                                · refine r_iconst (v := 0) hk (dtL_law_12 53 (1374, .iconst 0, 1) rfl) (by decide) ?_
                                                  exact r_sub hk [0, 1, 2, 3, 4] rfl (j1375_310 0 hF)
                                                · refine r_iconst (v := 1) hk (dtL_law_12 51 (1370, .iconst 1, 1) rfl) (by decide) ?_
                                                  refine r_goto hk 1375 (dtL_law_12 52 (1371, .goto 4, 3) rfl) (by decide) ?_
                                                  exact r_sub hk [0, 1, 2, 3, 4] rfl (j1375_310 1 hF)
                                              · rw [if_neg hs20] at hF
                                                by_cases hs21 : v3 = 21
                                                · rw [if_pos hs21] at hF
                                                  unfold B_law_21 at hF
                                                  refine r_tabIn hk 1438 (dtL_law_0 24 (39, .tableswitch 1510 0 23 #[109, 189, 257, 313, 381, 437, 517, 573, 629, 725, 781, 794, 807, 863, 919, 963, 1031, 1111, 1179, 1259, 1315, 1399, 1455, 1496], 109) rfl) (by rw [hs21]; decide) (by rw [hs21]; decide) (by rw [hs21]; rfl) (by decide) ?_
                                                  refine r_aload_n hk 1 (dtL_law_13 28 (1438, .aload_n 1, 1) rfl) rfl ?_
                                                  refine r_aload_n hk 0 (dtL_law_13 29 (1439, .aload_n 0, 1) rfl) rfl ?_
                                                  refine r_iload hk 4 (dtL_law_13 30 (1440, .iload 4, 2) rfl) rfl ?_
                                                  refine r_iconst (v := 1) hk (dtL_law_13 31 (1442, .iconst 1, 1) rfl) (by decide) ?_
                                                  refine r_iadd hk hF (dtL_law_13 32 (1443, .iadd, 1) rfl) (fun v326 hF => ?_)
                                                  refine r_sld hk hF (dtL_law_13 33 (1444, .iaload, 1) rfl) (fun v327 hF => ?_)
                                                  refine r_aload_n hk 3 (dtL_law_13 34 (1445, .aload_n 3, 1) rfl) rfl ?_
                                                  refine r_callH hroom hF (fun v328 m329 h H locs ls hH hS hl => run_SW hk hroom (c_L_bestIndex (kl K) hk.2.2.2.2.2.2.2.2.2.2.2 X v327 mi v328 m329 h) lk_L_161 mh_L_bestIndex yf_L_bestIndex (by decide) (by decide) rfl (Nat.le_of_ble_eq_true rfl) rfl (dtL_law_13 35 (1446, .invokestatic 161, 3) rfl) hH hS hl) (fun v328 m329 hF => ?_)
                                                  refine r_istore hk1 [(5, .int v328), (0, .ref (xb X)), (1, .ref (xad X (0, 0, 0, 0))), (2, .ref (xad X (3, 0, 0, 0))), (3, .ref (xad X (4, 0, 0, 0))), (4, .int vi)] (dtL_law_13 36 (1449, .istore 5, 2) rfl) (by decide) rfl ?_
                                                  refine r_aload_n hk1 3 (dtL_law_13 37 (1451, .aload_n 2, 1) rfl) rfl ?_
                                                  refine r_aload_n hk1 1 (dtL_law_13 38 (1452, .aload_n 0, 1) rfl) rfl ?_
                                                  refine r_iload hk1 5 (dtL_law_13 39 (1453, .iload 4, 2) rfl) rfl ?_
                                                  refine r_iconst (v := 1) hk1 (dtL_law_13 40 (1455, .iconst 1, 1) rfl) (by decide) ?_
                                                  refine r_iadd hk1 hF (dtL_law_13 41 (1456, .iadd, 1) rfl) (fun v330 hF => ?_)
                                                  refine r_sld hk1 hF (dtL_law_13 42 (1457, .iaload, 1) rfl) (fun v331 hF => ?_)
                                                  refine r_callIm hF (fun v332 m333 h H locs ls hH hS hl => run_V (y := yX4_bestIndex) hk1 (in_mo 0 (by decide)) rfl rfl (c_X4_bestIndex (kl K) hk1.2.2.2.2.2.2.2.2.2.2.2 X  v331 m329 v332 m333 h) lk_L_163 me_X4_bestIndex yf_X4_bestIndex (by decide) (by decide) rfl (Nat.le_of_ble_eq_true rfl) rfl (dtL_law_13 43 (1458, .invokevirtual 163, 3) rfl) hH hS hl) (fun v332 m333 hF => ?_)
                                                  refine r_istore hk1 [(6, .int v332), (5, .int v328), (0, .ref (xb X)), (1, .ref (xad X (0, 0, 0, 0))), (2, .ref (xad X (3, 0, 0, 0))), (3, .ref (xad X (4, 0, 0, 0))), (4, .int vi)] (dtL_law_13 44 (1461, .istore 6, 2) rfl) (by decide) rfl ?_
                                                  refine r_aload_n hk1 4 (dtL_law_13 45 (1463, .aload_n 2, 1) rfl) rfl ?_
                                                  refine r_callI hF (fun v334 h H locs ls hH hS hl => run_V (y := yX4_thrown) hk1 (in_mo 0 (by decide)) rfl rfl (c_X4_thrown (kl K) hk1.2.2.2.2.2.2.2.2.2.2.2 X   m333 v334 h) lk_L_91 me_X4_thrown yf_X4_thrown (by decide) (by decide) rfl (Nat.le_of_ble_eq_true rfl) rfl (dtL_law_13 46 (1464, .invokevirtual 91, 3) rfl) hH hS hl) (fun v334 hF => ?_)
                                                  refine r_iload hk1 1 (dtL_law_13 47 (1467, .iload 5, 2) rfl) rfl ?_
                                                  refine r_icmp_eq hk1 1474 hF (dtL_law_13 48 (1469, .if_icmp .eq 5, 3) rfl) (by decide) (fun hF => ?_) (fun hF => ?_)
                                                  · refine r_iload hk1 1 (dtL_law_13 51 (1474, .iload 5, 2) rfl) rfl ?_
                                                    have j1491_335 : (J_L_law_1491 vi (fun w0 w1 => LL (xL X) (xs X) n w0 w1) m333) = some () → G X (setc K (kce K + 1) (ksl K + 6)) 1491 [(0, .ref (xb X)), (1, .ref (xad X (0, 0, 0, 0))), (2, .ref (xad X (3, 0, 0, 0))), (3, .ref (xad X (4, 0, 0, 0))), (4, .int vi)] [] m333 := by
                                                      intro hF
                                                      unfold J_L_law_1491 at hF
                                                      refine r_goto hk1 1549 (dtL_law_13 62 (1491, .goto 58, 3) rfl) (by decide) ?_
                                                      exact r_sub hk1 [0, 1, 2, 3, 4] rfl (j1549_5 m333 hF)
                                                    refine r_if_ne hk1 1491 hF (dtL_law_13 52 (1476, .ifCond .ne 15, 3) rfl) (by decide) (fun hF => ?_) (fun hF => ?_)
                                                    · exact r_sub hk1 [2, 3, 4, 5, 6] rfl (j1491_335 hF)
                                                    · refine r_aload_n hk1 5 (dtL_law_13 53 (1479, .aload_n 3, 1) rfl) rfl ?_
                                                      refine r_iconst (v := 0) hk1 (dtL_law_13 54 (1480, .iconst 0, 1) rfl) (by decide) ?_
                                                      refine r_lald hk1 hF (dtL_law_13 55 (1481, .laload, 1) rfl) (fun v336 hF => ?_)
                                                      refine r_iload hk1 0 (dtL_law_13 56 (1482, .iload 6, 2) rfl) rfl ?_
                                                      refine r_i2l hk1 hF (dtL_law_13 57 (1484, .i2l, 1) rfl) (fun v337 hF => ?_)
                                                      refine r_lcmp hk1 hF (dtL_law_13 58 (1485, .lcmp, 1) rfl) (fun v338 hF => ?_)
                                                      refine r_if_eq hk1 1491 hF (dtL_law_13 59 (1486, .ifCond .eq 5, 3) rfl) (by decide) (fun hF => ?_) (fun hF => ?_)
                                                      · exact r_sub hk1 [2, 3, 4, 5, 6] rfl (j1491_335 hF)
                                                      · refine r_iconst (v := 0) hk1 (dtL_law_13 60 (1489, .iconst 0, 1) rfl) (by decide) ?_
                                                        exact nomatch hF
                                                  · refine r_iconst (v := 0) hk1 (dtL_law_13 49 (1472, .iconst 0, 1) rfl) (by decide) ?_
                                                    exact nomatch hF
                                                · rw [if_neg hs21] at hF
                                                  by_cases hs22 : v3 = 22
                                                  · rw [if_pos hs22] at hF
                                                    unfold B_law_22 at hF
                                                    refine r_tabIn hk 1494 (dtL_law_0 24 (39, .tableswitch 1510 0 23 #[109, 189, 257, 313, 381, 437, 517, 573, 629, 725, 781, 794, 807, 863, 919, 963, 1031, 1111, 1179, 1259, 1315, 1399, 1455, 1496], 109) rfl) (by rw [hs22]; decide) (by rw [hs22]; decide) (by rw [hs22]; rfl) (by decide) ?_
                                                    refine g_wid (c := kce K + 1) (s := ksl K + 6) (Nat.le_add_right _ _) (Nat.le_add_right _ _) ?_
                                                    refine r_aload_n hk1 1 (dtL_law_13 63 (1494, .aload_n 1, 1) rfl) rfl ?_
                                                    refine r_callD hF (fun v339 h H locs ls hH hS hl => run_V (y := yX3_fullness) hk1 (in_main 0 (by decide)) rfl rfl (c_X3_fullness (kl K) hk1.2.2.2.2.2.2.2.2.2.2.2 X   mi v339 h) lk_L_164 me_X3_fullness yf_X3_fullness (by decide) (by decide) rfl (Nat.le_of_ble_eq_true rfl) rfl (dtL_law_14 0 (1495, .invokevirtual 164, 3) rfl) hH hS hl) (fun v339 hF => ?_)
                                                    refine r_dstore hk1 [(5, .double v339), (0, .ref (xb X)), (1, .ref (xad X (0, 0, 0, 0))), (2, .ref (xad X (3, 0, 0, 0))), (3, .ref (xad X (4, 0, 0, 0))), (4, .int vi)] (dtL_law_14 1 (1498, .dstore 5, 2) rfl) (by decide) rfl ?_
                                                    refine r_aload_n hk1 3 (dtL_law_14 2 (1500, .aload_n 2, 1) rfl) rfl ?_
                                                    refine r_callDm hF (fun v340 m341 h H locs ls hH hS hl => run_V (y := yX4_fullness) hk1 (in_mo 0 (by decide)) rfl rfl (c_X4_fullness (kl K) hk1.2.2.2.2.2.2.2.2.2.2.2 X   mi v340 m341 h) lk_L_168 me_X4_fullness yf_X4_fullness (by decide) (by decide) rfl (Nat.le_of_ble_eq_true rfl) rfl (dtL_law_14 3 (1501, .invokevirtual 168, 3) rfl) hH hS hl) (fun v340 m341 hF => ?_)
                                                    refine r_dstore hk1 [(7, .double v340), (5, .double v339), (0, .ref (xb X)), (1, .ref (xad X (0, 0, 0, 0))), (2, .ref (xad X (3, 0, 0, 0))), (3, .ref (xad X (4, 0, 0, 0))), (4, .int vi)] (dtL_law_14 4 (1504, .dstore 7, 2) rfl) (by decide) rfl ?_
                                                    refine r_dload hk1 1 (dtL_law_14 5 (1506, .dload 5, 2) rfl) rfl ?_
                                                    refine r_dload hk1 0 (dtL_law_14 6 (1508, .dload 7, 2) rfl) rfl ?_
                                                    refine r_dcmp hk1 hF (dtL_law_14 7 (1510, .dcmp .l, 1) rfl) (fun v342 hF => ?_)
                                                    have j1532_343 : (J_L_law_1532 vi (fun w0 w1 => LL (xL X) (xs X) n w0 w1) m341) = some () → G X (setc K (kce K + 1) (ksl K + 6)) 1532 [(0, .ref (xb X)), (1, .ref (xad X (0, 0, 0, 0))), (2, .ref (xad X (3, 0, 0, 0))), (3, .ref (xad X (4, 0, 0, 0))), (4, .int vi)] [] m341 := by
                                                      intro hF
                                                      unfold J_L_law_1532 at hF
                                                      refine r_goto hk1 1549 (dtL_law_14 19 (1532, .goto 17, 3) rfl) (by decide) ?_
                                                      exact r_sub hk1 [0, 1, 2, 3, 4] rfl (j1549_5 m341 hF)
                                                    refine r_if_eq hk1 1532 hF (dtL_law_14 8 (1511, .ifCond .eq 21, 3) rfl) (by decide) (fun hF => ?_) (fun hF => ?_)
                                                    · exact r_sub hk1 [2, 3, 4, 5, 6] rfl (j1532_343 hF)
                                                    · refine r_dload hk1 1 (dtL_law_14 9 (1514, .dload 5, 2) rfl) rfl ?_
                                                      refine r_dload hk1 1 (dtL_law_14 10 (1516, .dload 5, 2) rfl) rfl ?_
                                                      refine r_dcmp hk1 hF (dtL_law_14 11 (1518, .dcmp .l, 1) rfl) (fun v344 hF => ?_)
                                                      have j1530_345 : J_L_law_1530 = some () → G X (setc K (kce K + 1) (ksl K + 6)) 1530 [] [] m341 := by
                                                        intro hF
                                                        unfold J_L_law_1530 at hF
                                                        refine r_iconst (v := 0) hk1 (dtL_law_14 17 (1530, .iconst 0, 1) rfl) (by decide) ?_
                                                        exact nomatch hF
                                                      refine r_if_eq hk1 1530 hF (dtL_law_14 12 (1519, .ifCond .eq 11, 3) rfl) (by decide) (fun hF => ?_) (fun hF => ?_)
                                                      · exact r_sub hk1 [] rfl (j1530_345 hF)
                                                      · refine r_dload hk1 0 (dtL_law_14 13 (1522, .dload 7, 2) rfl) rfl ?_
                                                        refine r_dload hk1 0 (dtL_law_14 14 (1524, .dload 7, 2) rfl) rfl ?_
                                                        refine r_dcmp hk1 hF (dtL_law_14 15 (1526, .dcmp .l, 1) rfl) (fun v346 hF => ?_)
                                                        refine r_if_ne hk1 1532 hF (dtL_law_14 16 (1527, .ifCond .ne 5, 3) rfl) (by decide) (fun hF => ?_) (fun hF => ?_)
                                                        · exact r_sub hk1 [2, 3, 4, 5, 6] rfl (j1532_343 hF)
                                                        · exact r_sub hk1 [] rfl (j1530_345 hF)
                                                  · rw [if_neg hs22] at hF
                                                    by_cases hs23 : v3 = 23
                                                    · rw [if_pos hs23] at hF
                                                      unfold B_law_23 at hF
                                                      refine r_tabIn hk 1535 (dtL_law_0 24 (39, .tableswitch 1510 0 23 #[109, 189, 257, 313, 381, 437, 517, 573, 629, 725, 781, 794, 807, 863, 919, 963, 1031, 1111, 1179, 1259, 1315, 1399, 1455, 1496], 109) rfl) (by rw [hs23]; decide) (by rw [hs23]; decide) (by rw [hs23]; rfl) (by decide) ?_
                                                      refine g_wid (c := kce K + 1) (s := ksl K + 6) (Nat.le_add_right _ _) (Nat.le_add_right _ _) ?_
                                                      refine r_aload_n hk1 1 (dtL_law_14 20 (1535, .aload_n 1, 1) rfl) rfl ?_
                                                      refine r_callLm hF (fun v347 m348 h H locs ls hH hS hl => run_V (y := yX3_digest) hk1 (in_main 0 (by decide)) rfl rfl (c_X3_digest (kl K) hk1.2.2.2.2.2.2.2.2.2.2.2 X   mi v347 m348 h) lk_L_169 me_X3_digest yf_X3_digest (by decide) (by decide) rfl (Nat.le_of_ble_eq_true rfl) rfl (dtL_law_14 21 (1536, .invokevirtual 169, 3) rfl) hH hS hl) (fun v347 m348 hF => ?_)
                                                      refine r_aload_n hk1 2 (dtL_law_14 22 (1539, .aload_n 2, 1) rfl) rfl ?_
                                                      refine r_callLm hF (fun v349 m350 h H locs ls hH hS hl => run_V (y := yX4_digest) hk1 (in_mo 0 (by decide)) rfl rfl (c_X4_digest (kl K) hk1.2.2.2.2.2.2.2.2.2.2.2 X   m348 v349 m350 h) lk_L_173 me_X4_digest yf_X4_digest (by decide) (by decide) rfl (Nat.le_of_ble_eq_true rfl) rfl (dtL_law_14 23 (1540, .invokevirtual 173, 3) rfl) hH hS hl) (fun v349 m350 hF => ?_)
                                                      refine r_lcmp hk1 hF (dtL_law_14 24 (1543, .lcmp, 1) rfl) (fun v351 hF => ?_)
                                                      refine r_if_eq hk1 1549 hF (dtL_law_14 25 (1544, .ifCond .eq 5, 3) rfl) (by decide) (fun hF => ?_) (fun hF => ?_)
                                                      · exact r_sub hk1 [0, 1, 2, 3, 4] rfl (j1549_5 m350 hF)
                                                      · refine r_iconst (v := 0) hk1 (dtL_law_14 26 (1547, .iconst 0, 1) rfl) (by decide) ?_
                                                        exact nomatch hF
                                                    · rw [if_neg hs23] at hF
                                                      refine r_tabOut hk 1549 (dtL_law_0 24 (39, .tableswitch 1510 0 23 #[109, 189, 257, 313, 381, 437, 517, 573, 629, 725, 781, 794, 807, 863, 919, 963, 1031, 1111, 1179, 1259, 1315, 1399, 1455, 1496], 109) rfl) (by have q0 := lv_neT hs0 (a := 0) (by decide); have q1 := lv_neT hs1 (a := 1) (by decide); have q2 := lv_neT hs2 (a := 2) (by decide); have q3 := lv_neT hs3 (a := 3) (by decide); have q4 := lv_neT hs4 (a := 4) (by decide); have q5 := lv_neT hs5 (a := 5) (by decide); have q6 := lv_neT hs6 (a := 6) (by decide); have q7 := lv_neT hs7 (a := 7) (by decide); have q8 := lv_neT hs8 (a := 8) (by decide); have q9 := lv_neT hs9 (a := 9) (by decide); have q10 := lv_neT hs10 (a := 10) (by decide); have q11 := lv_neT hs11 (a := 11) (by decide); have q12 := lv_neT hs12 (a := 12) (by decide); have q13 := lv_neT hs13 (a := 13) (by decide); have q14 := lv_neT hs14 (a := 14) (by decide); have q15 := lv_neT hs15 (a := 15) (by decide); have q16 := lv_neT hs16 (a := 16) (by decide); have q17 := lv_neT hs17 (a := 17) (by decide); have q18 := lv_neT hs18 (a := 18) (by decide); have q19 := lv_neT hs19 (a := 19) (by decide); have q20 := lv_neT hs20 (a := 20) (by decide); have q21 := lv_neT hs21 (a := 21) (by decide); have q22 := lv_neT hs22 (a := 22) (by decide); have q23 := lv_neT hs23 (a := 23) (by decide); omega) (by decide) ?_
                                                      refine g_wid (c := kce K + 1) (s := ksl K + 6) (Nat.le_add_right _ _) (Nat.le_add_right _ _) ?_
                                                      exact r_sub hk1 [0, 1, 2, 3, 4] rfl (j1549_5 mi hF)
