/-! functions read off the bytecode (written by dec.py) -/
def fu : Nat := 10000
def J_X3_isTenant_14  (v1 : Int32) : Option Int32 :=
  ck (isB v1) (some v1)
def J_X3_isTenant_13   : Option Int32 :=
  J_X3_isTenant_14 0
def F_X3_isTenant (p1 : Int32) (m0 : Mem) : Option Int32 :=
  (if p1 < 0 then J_X3_isTenant_13 else (if 3 ≤ p1 then J_X3_isTenant_13 else J_X3_isTenant_14 1))
def F_X3_require (p1 : Int32) (m0 : Mem) : Option (Unit ⊕ Nat) :=
  (if p1 = 0 then some (.inr 0) else some (.inl ()))
def J_X3_asNumber_9  (v1 : Int32) : Option Int32 :=
  some v1
def F_X3_asNumber (p1 : Int32) (m0 : Mem) : Option Int32 :=
  (if p1 = 0 then J_X3_asNumber_9 0 else J_X3_asNumber_9 1)
def C_X1_rowsOf_39  (v1 : Int32) : Option Int32 :=
  some v1
def J_X1_rowsOf_28 (m0 : Mem) (v3 : Int32) (v4 : Int32) (kb4_5 : Int32 → Int32 → Option Int32) (v9 : Int32) : Option Int32 :=
  bo (F_X3_asNumber v9 m0) fun v11 => bd (v3 + v11) fun v12 => bd (v4 + 1) fun v13 => kb4_5 v12 v13
def L_X1_rowsOf_4 (i0 : Nat) (p1 : Int32) (m0 : Mem) : Nat → Int32 → Int32 → Option Int32
  | 0, _, _ => none
  | n6 + 1, v3, v4 => bd (m0.1 (1, i0, 0, 0) 3) fun v7 => (if v7 ≤ v4 then C_X1_rowsOf_39 v3 else ck (ib v4 120) (bd (m0.1 (1, i0, 0, 2) (Int32.toNatClampNeg v4)) fun v8 => (if v8 = p1 then (J_X1_rowsOf_28 m0 v3 v4 (fun w0 w1 => L_X1_rowsOf_4 i0 p1 m0 n6 w0 w1)) 1 else (J_X1_rowsOf_28 m0 v3 v4 (fun w0 w1 => L_X1_rowsOf_4 i0 p1 m0 n6 w0 w1)) 0)))
def F_X1_rowsOf (i0 : Nat) (p1 : Int32) (m0 : Mem) : Option Int32 :=
  L_X1_rowsOf_4 i0 p1 m0 fu 0 0
def C_X2_meanings_37  (v1 : Int32) : Option Int32 :=
  some v1
def J_X2_meanings_26 (m0 : Mem) (v3 : Int32) (v4 : Int32) (kb4_5 : Int32 → Int32 → Option Int32) (v8 : Int32) : Option Int32 :=
  bo (F_X3_asNumber v8 m0) fun v10 => bd (v3 + v10) fun v11 => bd (v4 + 1) fun v12 => kb4_5 v11 v12
def L_X2_meanings_4 (i0 : Nat) (j0 : Nat) (m0 : Mem) : Nat → Int32 → Int32 → Option Int32
  | 0, _, _ => none
  | n6 + 1, v3, v4 => (if 8 ≤ v4 then C_X2_meanings_37 v3 else ck (ib v4 8) (bd (m0.1 (2, i0, j0, 1) (Int32.toNatClampNeg v4)) fun v7 => (if v7 = (-1) then (J_X2_meanings_26 m0 v3 v4 (fun w0 w1 => L_X2_meanings_4 i0 j0 m0 n6 w0 w1)) 0 else (J_X2_meanings_26 m0 v3 v4 (fun w0 w1 => L_X2_meanings_4 i0 j0 m0 n6 w0 w1)) 1)))
def F_X2_meanings (i0 : Nat) (j0 : Nat) (m0 : Mem) : Option Int32 :=
  L_X2_meanings_4 i0 j0 m0 fu 0 0
def J_X3_tenant_22 (p1 : Int32) (p2 : Int32) (m0 : Mem) (v2 : Int32) : Option (Int32 ⊕ Nat) :=
  bts (F_X3_require v2 m0) (fun c => some (.inr c)) fun _ => bp (m0.2.1 6) 7 fun q4 => ck (ib p1 3) (bp (Int32.toNatClampNeg p1) 3 fun q5 => (if p2 = 0 then bp (m0.2.1 6) 7 fun q6 => bo (F_X1_rowsOf q6 p1 m0) fun v7 => some (.inl v7) else (if p2 = 1 then bo (F_X2_meanings q4 q5 m0) fun v8 => some (.inl v8) else (if p2 = 2 then bd (m0.1 (2, q4, q5, 0) 3) fun v9 => some (.inl v9) else (if p2 = 3 then bd (m0.1 (2, q4, q5, 0) 4) fun v10 => some (.inl v10) else (if p2 = 4 then bd (m0.1 (2, q4, q5, 0) 5) fun v11 => bo (F_X3_asNumber v11 m0) fun v12 => some (.inl v12) else (if p2 = 5 then bd (m0.1 (2, q4, q5, 0) 6) fun v13 => some (.inl v13) else (if p2 = 6 then bd (m0.1 (2, q4, q5, 0) 7) fun v14 => some (.inl v14) else (if p2 = 7 then bd (m0.1 (2, q4, q5, 0) 8) fun v15 => some (.inl v15) else bd (m0.1 (2, q4, q5, 0) 9) fun v16 => some (.inl v16))))))))))
def J_X3_tenant_21 (p1 : Int32) (p2 : Int32) (m0 : Mem)  : Option (Int32 ⊕ Nat) :=
  (J_X3_tenant_22 p1 p2 m0) 0
def F_X3_tenant (p1 : Int32) (p2 : Int32) (m0 : Mem) : Option (Int32 ⊕ Nat) :=
  bo (F_X3_isTenant p1 m0) fun v1 => (if v1 = 0 then (J_X3_tenant_21 p1 p2 m0) else (if p2 < 0 then (J_X3_tenant_21 p1 p2 m0) else (if 8 < p2 then (J_X3_tenant_21 p1 p2 m0) else (J_X3_tenant_22 p1 p2 m0) 1)))
def F_X1_ownerOf (i0 : Nat) (p1 : Int32) (m0 : Mem) : Option Nat :=
  ck (ib p1 120) (bd (m0.1 (1, i0, 0, 2) (Int32.toNatClampNeg p1)) fun v1 => ck (ib v1 3) (bp (Int32.toNatClampNeg v1) 3 fun q2 => some q2))
def C_X1_tableRows_40  (v1 : Int32) : Option Int32 :=
  some v1
def J_X1_tableRows_29 (m0 : Mem) (v3 : Int32) (v4 : Int32) (kb4_5 : Int32 → Int32 → Option Int32) (v10 : Int32) : Option Int32 :=
  bo (F_X3_asNumber v10 m0) fun v12 => bd (v3 + v12) fun v13 => bd (v4 + 1) fun v14 => kb4_5 v13 v14
def L_X1_tableRows_4 (i0 : Nat) (m0 : Mem) : Nat → Int32 → Int32 → Option Int32
  | 0, _, _ => none
  | n6 + 1, v3, v4 => bd (m0.1 (1, i0, 0, 0) 3) fun v7 => (if v7 ≤ v4 then C_X1_tableRows_40 v3 else bo (F_X1_ownerOf i0 v4 m0) fun q8 => bp q8 3 fun q8 => bd (m0.1 (2, i0, q8, 0) 5) fun v9 => (if v9 = 0 then (J_X1_tableRows_29 m0 v3 v4 (fun w0 w1 => L_X1_tableRows_4 i0 m0 n6 w0 w1)) 1 else (J_X1_tableRows_29 m0 v3 v4 (fun w0 w1 => L_X1_tableRows_4 i0 m0 n6 w0 w1)) 0))
def F_X1_tableRows (i0 : Nat) (m0 : Mem) : Option Int32 :=
  L_X1_tableRows_4 i0 m0 fu 0 0
def J_X1_valueAt_22   : Option Int32 :=
  some (-1000000)
def F_X1_valueAt (i0 : Nat) (p1 : Int32) (p2 : Int32) (m0 : Mem) : Option Int32 :=
  (if p1 < 0 then J_X1_valueAt_22 else bd (m0.1 (1, i0, 0, 0) 3) fun v2 => (if v2 ≤ p1 then J_X1_valueAt_22 else (if p2 < 0 then J_X1_valueAt_22 else (if p2 < 8 then bd (p1 * 8) fun v3 => bd (v3 + p2) fun v4 => ck (ib v4 960) (bd (m0.1 (1, i0, 0, 3) (Int32.toNatClampNeg v4)) fun v5 => some v5) else J_X1_valueAt_22))))
def C_X1_valuesIn_38  (v1 : Int32) : Option Int32 :=
  some v1
def J_X1_valuesIn_27 (m0 : Mem) (v3 : Int32) (v4 : Int32) (kb4_5 : Int32 → Int32 → Option Int32) (v8 : Int32) : Option Int32 :=
  bo (F_X3_asNumber v8 m0) fun v10 => bd (v3 + v10) fun v11 => bd (v4 + 1) fun v12 => kb4_5 v11 v12
def L_X1_valuesIn_4 (i0 : Nat) (p1 : Int32) (m0 : Mem) : Nat → Int32 → Int32 → Option Int32
  | 0, _, _ => none
  | n6 + 1, v3, v4 => (if 8 ≤ v4 then C_X1_valuesIn_38 v3 else bo (F_X1_valueAt i0 p1 v4 m0) fun v7 => (if v7 = (-1000000) then (J_X1_valuesIn_27 m0 v3 v4 (fun w0 w1 => L_X1_valuesIn_4 i0 p1 m0 n6 w0 w1)) 0 else (J_X1_valuesIn_27 m0 v3 v4 (fun w0 w1 => L_X1_valuesIn_4 i0 p1 m0 n6 w0 w1)) 1))
def F_X1_valuesIn (i0 : Nat) (p1 : Int32) (m0 : Mem) : Option Int32 :=
  L_X1_valuesIn_4 i0 p1 m0 fu 0 0
def C_X1_tableValues_41  (v1 : Int32) : Option Int32 :=
  some v1
def J_X1_tableValues_33 (v3 : Int32) (v4 : Int32) (kb4_5 : Int32 → Int32 → Option Int32) (v10 : Int32) : Option Int32 :=
  bd (v3 + v10) fun v12 => bd (v4 + 1) fun v13 => kb4_5 v12 v13
def L_X1_tableValues_4 (i0 : Nat) (m0 : Mem) : Nat → Int32 → Int32 → Option Int32
  | 0, _, _ => none
  | n6 + 1, v3, v4 => bd (m0.1 (1, i0, 0, 0) 3) fun v7 => (if v7 ≤ v4 then C_X1_tableValues_41 v3 else bo (F_X1_ownerOf i0 v4 m0) fun q8 => bp q8 3 fun q8 => bd (m0.1 (2, i0, q8, 0) 5) fun v9 => (if v9 = 0 then bo (F_X1_valuesIn i0 v4 m0) fun v14 => (J_X1_tableValues_33 v3 v4 (fun w0 w1 => L_X1_tableValues_4 i0 m0 n6 w0 w1)) v14 else (J_X1_tableValues_33 v3 v4 (fun w0 w1 => L_X1_tableValues_4 i0 m0 n6 w0 w1)) 0))
def F_X1_tableValues (i0 : Nat) (m0 : Mem) : Option Int32 :=
  L_X1_tableValues_4 i0 m0 fu 0 0
def C_X1_columnsWithMeanings_89  (v1 : Int32) : Option Int32 :=
  some v1
def J_X1_columnsWithMeanings_78 (m0 : Mem) (v3 : Int32) (v4 : Int32) (kb5_5 : Int32 → Int32 → Option Int32) (v9 : Int32) : Option Int32 :=
  bo (F_X3_asNumber v9 m0) fun v11 => bd (v3 + v11) fun v12 => bd (v4 + 1) fun v13 => kb5_5 v12 v13
def J_X1_columnsWithMeanings_77 (m0 : Mem) (v3 : Int32) (v4 : Int32) (kb5_5 : Int32 → Int32 → Option Int32)  : Option Int32 :=
  (J_X1_columnsWithMeanings_78 m0 v3 v4 kb5_5) 0
def C_X1_columnsWithMeanings_60 (p1 : Int32) (p2 : Int32) (m0 : Mem) (v3 : Int32) (v4 : Int32) (kb5_5 : Int32 → Int32 → Option Int32) (v7 : Int32) : Option Int32 :=
  (if v7 < p1 then (J_X1_columnsWithMeanings_77 m0 v3 v4 kb5_5) else (if p2 < v7 then (J_X1_columnsWithMeanings_77 m0 v3 v4 kb5_5) else (J_X1_columnsWithMeanings_78 m0 v3 v4 kb5_5) 1))
def J_X1_columnsWithMeanings_48 (m0 : Mem) (v15 : Int32) (v16 : Int32) (kb18_17 : Int32 → Int32 → Option Int32) (v21 : Int32) : Option Int32 :=
  bo (F_X3_asNumber v21 m0) fun v23 => bd (v15 + v23) fun v24 => bd (v16 + 1) fun v25 => kb18_17 v24 v25
def L_X1_columnsWithMeanings_18 (i0 : Nat) (p1 : Int32) (p2 : Int32) (m0 : Mem) (v3 : Int32) (v4 : Int32) (kb5_5 : Int32 → Int32 → Option Int32) : Nat → Int32 → Int32 → Option Int32
  | 0, _, _ => none
  | n18 + 1, v15, v16 => (if 3 ≤ v16 then (C_X1_columnsWithMeanings_60 p1 p2 m0 v3 v4 kb5_5) v15 else ck (ib v16 3) (bp (Int32.toNatClampNeg v16) 3 fun q19 => ck (ib v4 8) (bd (m0.1 (2, i0, q19, 1) (Int32.toNatClampNeg v4)) fun v20 => (if v20 = (-1) then (J_X1_columnsWithMeanings_48 m0 v15 v16 (fun w0 w1 => L_X1_columnsWithMeanings_18 i0 p1 p2 m0 v3 v4 kb5_5 n18 w0 w1)) 0 else (J_X1_columnsWithMeanings_48 m0 v15 v16 (fun w0 w1 => L_X1_columnsWithMeanings_18 i0 p1 p2 m0 v3 v4 kb5_5 n18 w0 w1)) 1))))
def L_X1_columnsWithMeanings_5 (i0 : Nat) (p1 : Int32) (p2 : Int32) (m0 : Mem) : Nat → Int32 → Int32 → Option Int32
  | 0, _, _ => none
  | n6 + 1, v3, v4 => (if 8 ≤ v4 then C_X1_columnsWithMeanings_89 v3 else L_X1_columnsWithMeanings_18 i0 p1 p2 m0 v3 v4 (fun w0 w1 => L_X1_columnsWithMeanings_5 i0 p1 p2 m0 n6 w0 w1) fu 0 0)
def F_X1_columnsWithMeanings (i0 : Nat) (p1 : Int32) (p2 : Int32) (m0 : Mem) : Option Int32 :=
  L_X1_columnsWithMeanings_5 i0 p1 p2 m0 fu 0 0
def C_X1_indexes_46  (v1 : Int32) : Option Int32 :=
  some v1
def C_X1_indexes_40 (v4 : Int32) (kb4_5 : Int32 → Int32 → Option Int32) (v7 : Int32) : Option Int32 :=
  bd (v4 + 1) fun v9 => kb4_5 v7 v9
def L_X1_indexes_11 (i0 : Nat) (m0 : Mem) (v4 : Int32) (kb4_5 : Int32 → Int32 → Option Int32) : Nat → Int32 → Int32 → Option Int32
  | 0, _, _ => none
  | n13 + 1, v10, v11 => (if 8 ≤ v11 then (C_X1_indexes_40 v4 kb4_5) v10 else ck (ib v4 3) (bp (Int32.toNatClampNeg v4) 3 fun q14 => ck (ib v11 8) (bd (m0.1 (2, i0, q14, 3) (Int32.toNatClampNeg v11)) fun v15 => bo (F_X3_asNumber v15 m0) fun v16 => bd (v10 + v16) fun v17 => bd (v11 + 1) fun v18 => (fun w0 w1 => L_X1_indexes_11 i0 m0 v4 kb4_5 n13 w0 w1) v17 v18)))
def L_X1_indexes_4 (i0 : Nat) (m0 : Mem) : Nat → Int32 → Int32 → Option Int32
  | 0, _, _ => none
  | n6 + 1, v3, v4 => (if 3 ≤ v4 then C_X1_indexes_46 v3 else L_X1_indexes_11 i0 m0 v4 (fun w0 w1 => L_X1_indexes_4 i0 m0 n6 w0 w1) fu v3 0)
def F_X1_indexes (i0 : Nat) (m0 : Mem) : Option Int32 :=
  L_X1_indexes_4 i0 m0 fu 0 0
def C_X1_movedTenants_30  (v1 : Int32) : Option Int32 :=
  some v1
def L_X1_movedTenants_4 (i0 : Nat) (m0 : Mem) : Nat → Int32 → Int32 → Option Int32
  | 0, _, _ => none
  | n6 + 1, v3, v4 => (if 3 ≤ v4 then C_X1_movedTenants_30 v3 else ck (ib v4 3) (bp (Int32.toNatClampNeg v4) 3 fun q7 => bd (m0.1 (2, i0, q7, 0) 5) fun v8 => bo (F_X3_asNumber v8 m0) fun v9 => bd (v3 + v9) fun v10 => bd (v4 + 1) fun v11 => (fun w0 w1 => L_X1_movedTenants_4 i0 m0 n6 w0 w1) v10 v11))
def F_X1_movedTenants (i0 : Nat) (m0 : Mem) : Option Int32 :=
  L_X1_movedTenants_4 i0 m0 fu 0 0
def J_X3_count_15 (p1 : Int32) (m0 : Mem) (v1 : Int32) : Option (Int32 ⊕ Nat) :=
  bts (F_X3_require v1 m0) (fun c => some (.inr c)) fun _ => (if p1 = 0 then bp (m0.2.1 6) 7 fun q3 => bo (F_X1_tableRows q3 m0) fun v4 => some (.inl v4) else (if p1 = 1 then bp (m0.2.1 6) 7 fun q5 => bd (m0.1 (1, q5, 0, 0) 3) fun v6 => some (.inl v6) else (if p1 = 2 then bp (m0.2.1 6) 7 fun q7 => bo (F_X1_tableValues q7 m0) fun v8 => some (.inl v8) else (if p1 = 3 then bp (m0.2.1 6) 7 fun q9 => bo (F_X1_columnsWithMeanings q9 2 3 m0) fun v10 => some (.inl v10) else (if p1 = 4 then bp (m0.2.1 6) 7 fun q11 => bo (F_X1_columnsWithMeanings q11 0 0 m0) fun v12 => some (.inl v12) else (if p1 = 5 then bp (m0.2.1 6) 7 fun q13 => bo (F_X1_indexes q13 m0) fun v14 => some (.inl v14) else (if p1 = 6 then bp (m0.2.1 6) 7 fun q15 => bo (F_X1_movedTenants q15 m0) fun v16 => some (.inl v16) else bd (m0.1 (0, 0, 0, 0) 5) fun v17 => some (.inl v17))))))))
def J_X3_count_14 (p1 : Int32) (m0 : Mem)  : Option (Int32 ⊕ Nat) :=
  (J_X3_count_15 p1 m0) 0
def F_X3_count (p1 : Int32) (m0 : Mem) : Option (Int32 ⊕ Nat) :=
  (if p1 < 0 then (J_X3_count_14 p1 m0) else (if 7 < p1 then (J_X3_count_14 p1 m0) else (J_X3_count_15 p1 m0) 1))
def J_X3_requireRow_15   : Option (Unit ⊕ Nat) :=
  some (.inr 2)
def F_X3_requireRow (p1 : Int32) (m0 : Mem) : Option (Unit ⊕ Nat) :=
  (if p1 < 0 then J_X3_requireRow_15 else bp (m0.2.1 6) 7 fun q2 => bd (m0.1 (1, q2, 0, 0) 3) fun v3 => (if p1 < v3 then some (.inl ()) else J_X3_requireRow_15))
def J_X3_rowOf_79  (v6 : Int32) : Option (Int32 ⊕ Nat) :=
  some (.inl v6)
def J_X3_rowOf_20 (p1 : Int32) (p2 : Int32) (m0 : Mem) (v1 : Int32) : Option (Int32 ⊕ Nat) :=
  bts (F_X3_require v1 m0) (fun c => some (.inr c)) fun _ => (if p2 = 0 then bp (m0.2.1 6) 7 fun q11 => ck (ib p1 120) (bd (m0.1 (1, q11, 0, 2) (Int32.toNatClampNeg p1)) fun v12 => some (.inl v12)) else (if p2 = 9 then bp (m0.2.1 6) 7 fun q9 => bo (F_X1_valuesIn q9 p1 m0) fun v10 => some (.inl v10) else bp (m0.2.1 6) 7 fun q3 => bd (p2 - 1) fun v4 => bo (F_X1_valueAt q3 p1 v4 m0) fun v5 => (if v5 = (-1000000) then J_X3_rowOf_79 (-1) else bd (v5 + 10000) fun v8 => J_X3_rowOf_79 v8)))
def J_X3_rowOf_19 (p1 : Int32) (p2 : Int32) (m0 : Mem)  : Option (Int32 ⊕ Nat) :=
  (J_X3_rowOf_20 p1 p2 m0) 0
def F_X3_rowOf (p1 : Int32) (p2 : Int32) (m0 : Mem) : Option (Int32 ⊕ Nat) :=
  bts (F_X3_requireRow p1 m0) (fun c => some (.inr c)) fun _ => (if p2 < 0 then (J_X3_rowOf_19 p1 p2 m0) else (if 9 < p2 then (J_X3_rowOf_19 p1 p2 m0) else (J_X3_rowOf_20 p1 p2 m0) 1))
def C_X1_rowsWith_56  (v1 : Int32) : Option Int32 :=
  some v1
def J_X1_rowsWith_44 (m0 : Mem) (v3 : Int32) (v4 : Int32) (kb6_5 : Int32 → Int32 → Option Int32) (v9 : Int32) : Option Int32 :=
  bo (F_X3_asNumber v9 m0) fun v11 => bd (v3 + v11) fun v12 => bd (v4 + 1) fun v13 => kb6_5 v12 v13
def J_X1_rowsWith_43 (m0 : Mem) (v3 : Int32) (v4 : Int32) (kb6_5 : Int32 → Int32 → Option Int32)  : Option Int32 :=
  (J_X1_rowsWith_44 m0 v3 v4 kb6_5) 0
def L_X1_rowsWith_6 (i0 : Nat) (p1 : Int32) (p2 : Int32) (p3 : Int32) (m0 : Mem) : Nat → Int32 → Int32 → Option Int32
  | 0, _, _ => none
  | n6 + 1, v3, v4 => bd (m0.1 (1, i0, 0, 0) 3) fun v7 => (if v7 ≤ v4 then C_X1_rowsWith_56 v3 else ck (ib v4 120) (bd (m0.1 (1, i0, 0, 2) (Int32.toNatClampNeg v4)) fun v8 => (if v8 = p1 then bo (F_X1_valueAt i0 v4 p2 m0) fun v15 => (if v15 = p3 then (J_X1_rowsWith_44 m0 v3 v4 (fun w0 w1 => L_X1_rowsWith_6 i0 p1 p2 p3 m0 n6 w0 w1)) 1 else (J_X1_rowsWith_43 m0 v3 v4 (fun w0 w1 => L_X1_rowsWith_6 i0 p1 p2 p3 m0 n6 w0 w1))) else (J_X1_rowsWith_43 m0 v3 v4 (fun w0 w1 => L_X1_rowsWith_6 i0 p1 p2 p3 m0 n6 w0 w1)))))
def F_X1_rowsWith (i0 : Nat) (p1 : Int32) (p2 : Int32) (p3 : Int32) (m0 : Mem) : Option Int32 :=
  L_X1_rowsWith_6 i0 p1 p2 p3 m0 fu 0 0
def F_X1_rowsWithValue (i0 : Nat) (p1 : Int32) (p2 : Int32) (m0 : Mem) : Option Int32 :=
  bo (F_X1_rowsOf i0 p1 m0) fun v1 => bo (F_X1_rowsWith i0 p1 p2 (-1000000) m0) fun v2 => bd (v1 - v2) fun v3 => some v3
def C_X1_sumOf_56  (v1 : Int32) : Option Int32 :=
  some v1
def J_X1_sumOf_48 (v3 : Int32) (v4 : Int32) (kb5_5 : Int32 → Int32 → Option Int32) (v10 : Int32) : Option Int32 :=
  bd (v3 + v10) fun v12 => bd (v4 + 1) fun v13 => kb5_5 v12 v13
def J_X1_sumOf_47 (v3 : Int32) (v4 : Int32) (kb5_5 : Int32 → Int32 → Option Int32)  : Option Int32 :=
  (J_X1_sumOf_48 v3 v4 kb5_5) 0
def L_X1_sumOf_5 (i0 : Nat) (p1 : Int32) (p2 : Int32) (m0 : Mem) : Nat → Int32 → Int32 → Option Int32
  | 0, _, _ => none
  | n6 + 1, v3, v4 => bd (m0.1 (1, i0, 0, 0) 3) fun v7 => (if v7 ≤ v4 then C_X1_sumOf_56 v3 else bo (F_X1_valueAt i0 v4 p2 m0) fun v8 => ck (ib v4 120) (bd (m0.1 (1, i0, 0, 2) (Int32.toNatClampNeg v4)) fun v9 => (if v9 = p1 then (if v8 = (-1000000) then (J_X1_sumOf_47 v3 v4 (fun w0 w1 => L_X1_sumOf_5 i0 p1 p2 m0 n6 w0 w1)) else (J_X1_sumOf_48 v3 v4 (fun w0 w1 => L_X1_sumOf_5 i0 p1 p2 m0 n6 w0 w1)) v8) else (J_X1_sumOf_47 v3 v4 (fun w0 w1 => L_X1_sumOf_5 i0 p1 p2 m0 n6 w0 w1)))))
def F_X1_sumOf (i0 : Nat) (p1 : Int32) (p2 : Int32) (m0 : Mem) : Option Int32 :=
  L_X1_sumOf_5 i0 p1 p2 m0 fu 0 0
def C_X1_standsAhead_48   : Option Int32 :=
  ck (isB 0) (some 0)
def J_X1_standsAhead_42 (v3 : Int32) (kb11_4 : Int32 → Option Int32)  : Option Int32 :=
  bd (v3 + 1) fun v8 => kb11_4 v8
def L_X1_standsAhead_11 (i0 : Nat) (p1 : Int32) (p2 : Int32) (p3 : Int32) (m0 : Mem) (v1 : Int32) : Nat → Int32 → Option Int32
  | 0, _ => none
  | n5 + 1, v3 => (if p3 ≤ v3 then C_X1_standsAhead_48 else ck (ib v3 120) (bd (m0.1 (1, i0, 0, 2) (Int32.toNatClampNeg v3)) fun v6 => (if v6 = p1 then bo (F_X1_valueAt i0 v3 p2 m0) fun v9 => (if v9 = v1 then ck (isB 1) (some 1) else (J_X1_standsAhead_42 v3 (fun w0 => L_X1_standsAhead_11 i0 p1 p2 p3 m0 v1 n5 w0))) else (J_X1_standsAhead_42 v3 (fun w0 => L_X1_standsAhead_11 i0 p1 p2 p3 m0 v1 n5 w0)))))
def F_X1_standsAhead (i0 : Nat) (p1 : Int32) (p2 : Int32) (p3 : Int32) (m0 : Mem) : Option Int32 :=
  bo (F_X1_valueAt i0 p3 p2 m0) fun v1 => L_X1_standsAhead_11 i0 p1 p2 p3 m0 v1 fu 0
def C_X1_unlikeValues_65  (v1 : Int32) : Option Int32 :=
  some v1
def J_X1_unlikeValues_59 (v4 : Int32) (kb5_5 : Int32 → Int32 → Option Int32) (v9 : Int32) : Option Int32 :=
  bd (v4 + 1) fun v11 => kb5_5 v9 v11
def J_X1_unlikeValues_54 (m0 : Mem) (v3 : Int32) (v4 : Int32) (kb5_5 : Int32 → Int32 → Option Int32) (v14 : Int32) : Option Int32 :=
  bo (F_X3_asNumber v14 m0) fun v16 => bd (v3 + v16) fun v17 => (J_X1_unlikeValues_59 v4 kb5_5) v17
def L_X1_unlikeValues_5 (i0 : Nat) (p1 : Int32) (p2 : Int32) (m0 : Mem) : Nat → Int32 → Int32 → Option Int32
  | 0, _, _ => none
  | n6 + 1, v3, v4 => bd (m0.1 (1, i0, 0, 0) 3) fun v7 => (if v7 ≤ v4 then C_X1_unlikeValues_65 v3 else ck (ib v4 120) (bd (m0.1 (1, i0, 0, 2) (Int32.toNatClampNeg v4)) fun v8 => (if v8 = p1 then bo (F_X1_valueAt i0 v4 p2 m0) fun v12 => (if v12 = (-1000000) then (J_X1_unlikeValues_59 v4 (fun w0 w1 => L_X1_unlikeValues_5 i0 p1 p2 m0 n6 w0 w1)) v3 else bo (F_X1_standsAhead i0 p1 p2 v4 m0) fun v13 => (if v13 = 0 then (J_X1_unlikeValues_54 m0 v3 v4 (fun w0 w1 => L_X1_unlikeValues_5 i0 p1 p2 m0 n6 w0 w1)) 1 else (J_X1_unlikeValues_54 m0 v3 v4 (fun w0 w1 => L_X1_unlikeValues_5 i0 p1 p2 m0 n6 w0 w1)) 0)) else (J_X1_unlikeValues_59 v4 (fun w0 w1 => L_X1_unlikeValues_5 i0 p1 p2 m0 n6 w0 w1)) v3)))
def F_X1_unlikeValues (i0 : Nat) (p1 : Int32) (p2 : Int32) (m0 : Mem) : Option Int32 :=
  L_X1_unlikeValues_5 i0 p1 p2 m0 fu 0 0
def J_X3_column_31 (p1 : Int32) (p2 : Int32) (p3 : Int32) (m0 : Mem) (v2 : Int32) : Option (Int32 ⊕ Nat) :=
  bts (F_X3_require v2 m0) (fun c => some (.inr c)) fun _ => bp (m0.2.1 6) 7 fun q4 => ck (ib p1 3) (bp (Int32.toNatClampNeg p1) 3 fun q5 => ck (ib p2 8) (bd (m0.1 (2, q4, q5, 1) (Int32.toNatClampNeg p2)) fun v6 => (if v6 = (-1) then some (.inl (-1)) else (if p3 = 0 then ck (ib p2 8) (bd (m0.1 (2, q4, q5, 1) (Int32.toNatClampNeg p2)) fun v7 => some (.inl v7)) else (if p3 = 1 then ck (ib p2 8) (bd (m0.1 (2, q4, q5, 2) (Int32.toNatClampNeg p2)) fun v8 => some (.inl v8)) else (if p3 = 2 then ck (ib p2 8) (bd (m0.1 (2, q4, q5, 3) (Int32.toNatClampNeg p2)) fun v9 => bo (F_X3_asNumber v9 m0) fun v10 => some (.inl v10)) else (if p3 = 3 then bp (m0.2.1 6) 7 fun q11 => bo (F_X1_rowsWithValue q11 p1 p2 m0) fun v12 => some (.inl v12) else (if p3 = 4 then bp (m0.2.1 6) 7 fun q13 => bo (F_X1_sumOf q13 p1 p2 m0) fun v14 => bd (v14 + 1000000) fun v15 => some (.inl v15) else bp (m0.2.1 6) 7 fun q16 => bo (F_X1_unlikeValues q16 p1 p2 m0) fun v17 => some (.inl v17)))))))))
def J_X3_column_30 (p1 : Int32) (p2 : Int32) (p3 : Int32) (m0 : Mem)  : Option (Int32 ⊕ Nat) :=
  (J_X3_column_31 p1 p2 p3 m0) 0
def F_X3_column (p1 : Int32) (p2 : Int32) (p3 : Int32) (m0 : Mem) : Option (Int32 ⊕ Nat) :=
  bo (F_X3_isTenant p1 m0) fun v1 => (if v1 = 0 then (J_X3_column_30 p1 p2 p3 m0) else (if p2 < 0 then (J_X3_column_30 p1 p2 p3 m0) else (if 8 ≤ p2 then (J_X3_column_30 p1 p2 p3 m0) else (if p3 < 0 then (J_X3_column_30 p1 p2 p3 m0) else (if 5 < p3 then (J_X3_column_30 p1 p2 p3 m0) else (J_X3_column_31 p1 p2 p3 m0) 1)))))
def J_X3_fullness_30  (v4 : UInt64) : Option UInt64 :=
  some v4
def F_X3_fullness (m0 : Mem) : Option UInt64 :=
  bp (m0.2.1 6) 7 fun q1 => bo (F_X1_tableRows q1 m0) fun v2 => bd (8 * v2) fun v3 => (if 0 < v3 then bp (m0.2.1 6) 7 fun q6 => bo (F_X1_tableValues q6 m0) fun v7 => bd (FP.i2d v7) fun v8 => bd (FP.i2d v3) fun v9 => ck (nn (FP.ddiv v8 v9)) (bd (FP.ddiv v8 v9) fun v10 => J_X3_fullness_30 v10) else J_X3_fullness_30 0)
def J_X3_append_17 (p1 : Int32) (m0 : Mem) (v1 : Int32) : Option ((Int32 ⊕ Nat) × Mem) :=
  bts (F_X3_require v1 m0) (fun c => some (.inr c, m0)) fun _ => bd (m0.1 (0, 0, 0, 0) 6) fun v3 => (if v3 < 40 then bd (m0.1 (0, 0, 0, 0) 6) fun v4 => ck (ib v4 40) (bd (wI m0 (0, 0, 0, 2) (Int32.toNatClampNeg v4) p1) fun m5 => bd (m5.1 (0, 0, 0, 0) 6) fun v6 => bd (v6 + 1) fun v7 => bd (wI m5 (0, 0, 0, 0) 6 v7) fun m8 => bd (m8.1 (0, 0, 0, 0) 6) fun v9 => some (.inl v9, m8)) else some (.inr 1, m0))
def J_X3_append_16 (p1 : Int32) (m0 : Mem)  : Option ((Int32 ⊕ Nat) × Mem) :=
  (J_X3_append_17 p1 m0) 0
def F_X3_append (p1 : Int32) (m0 : Mem) : Option ((Int32 ⊕ Nat) × Mem) :=
  (if p1 < 33 then (J_X3_append_16 p1 m0) else (if 126 < p1 then (J_X3_append_16 p1 m0) else (J_X3_append_17 p1 m0) 1))
def J_X3_isLetter_15  (v1 : Int32) : Option Int32 :=
  ck (isB v1) (some v1)
def J_X3_isLetter_14   : Option Int32 :=
  J_X3_isLetter_15 0
def F_X3_isLetter (p1 : Int32) (m0 : Mem) : Option Int32 :=
  (if p1 < 0 then J_X3_isLetter_14 else (if 8 ≤ p1 then J_X3_isLetter_14 else J_X3_isLetter_15 1))
def J_X0_takeLetter_21 (m0 : Mem)  : Option (Int32 × Mem) :=
  ck (isB 0) (some (0, m0))
def F_X0_takeLetter (p1 : Int32) (m0 : Mem) : Option (Int32 × Mem) :=
  (if p1 < 97 then (J_X0_takeLetter_21 m0) else (if 104 < p1 then (J_X0_takeLetter_21 m0) else bd (m0.1 (0, 0, 0, 3) 3) fun v2 => (if v2 < 10 then bd (m0.1 (0, 0, 0, 3) 3) fun v3 => bd (p1 - 97) fun v4 => ck (ib v3 10) (bd (wI m0 (0, 0, 0, 5) (Int32.toNatClampNeg v3) v4) fun m5 => bd (m5.1 (0, 0, 0, 3) 3) fun v6 => ck (ib v6 10) (bd (wI m5 (0, 0, 0, 6) (Int32.toNatClampNeg v6) 0) fun m7 => bd (m7.1 (0, 0, 0, 3) 3) fun v8 => ck (ib v8 10) (bd (wI m7 (0, 0, 0, 7) (Int32.toNatClampNeg v8) 0) fun m9 => ck (isB 0) (bd (wI m9 (0, 0, 0, 3) 5 0) fun m10 => bd (m10.1 (0, 0, 0, 3) 3) fun v11 => bd (v11 + 1) fun v12 => bd (wI m10 (0, 0, 0, 3) 3 v12) fun m13 => bd (wI m13 (0, 0, 0, 3) 4 1) fun m14 => ck (isB 1) (some (1, m14)))))) else (J_X0_takeLetter_21 m0))))
def J_X0_takeSign_25 (m0 : Mem)  : Option (Int32 × Mem) :=
  ck (isB 0) (some (0, m0))
def J_X0_takeSign_27 (p1 : Int32) (m0 : Mem)  : Option (Int32 × Mem) :=
  bd (m0.1 (0, 0, 0, 3) 3) fun v4 => bd (v4 - 1) fun v5 => ck (ib v5 10) (bd (wI m0 (0, 0, 0, 6) (Int32.toNatClampNeg v5) p1) fun m6 => bd (wI m6 (0, 0, 0, 3) 4 2) fun m7 => ck (isB 1) (some (1, m7)))
def F_X0_takeSign (p1 : Int32) (m0 : Mem) : Option (Int32 × Mem) :=
  bd (m0.1 (0, 0, 0, 3) 3) fun v1 => (if v1 ≤ 0 then (J_X0_takeSign_25 m0) else (if p1 = 61 then (J_X0_takeSign_27 p1 m0) else (if p1 = 60 then (J_X0_takeSign_27 p1 m0) else (if p1 = 62 then (J_X0_takeSign_27 p1 m0) else (J_X0_takeSign_25 m0)))))
def F_X0_takeMinus (p1 : Int32) (m0 : Mem) : Option (Int32 × Mem) :=
  (if p1 = 45 then ck (isB 1) (bd (wI m0 (0, 0, 0, 3) 5 1) fun m1 => bd (wI m1 (0, 0, 0, 3) 4 3) fun m2 => ck (isB 1) (some (1, m2))) else ck (isB 0) (some (0, m0)))
def J_X0_takeDigit_19 (m0 : Mem)  : Option (Int32 × Mem) :=
  ck (isB 0) (some (0, m0))
def J_X0_takeDigit_63 (m0 : Mem) (v5 : Int32) (v9 : Int32) (v11 : Int32) : Option (Int32 × Mem) :=
  bd (v9 + v11) fun v13 => ck (ib v5 10) (bd (wI m0 (0, 0, 0, 7) (Int32.toNatClampNeg v5) v13) fun m14 => bd (wI m14 (0, 0, 0, 3) 4 4) fun m15 => ck (isB 1) (some (1, m15)))
def F_X0_takeDigit (p1 : Int32) (m0 : Mem) : Option (Int32 × Mem) :=
  bd (m0.1 (0, 0, 0, 3) 3) fun v1 => (if v1 ≤ 0 then (J_X0_takeDigit_19 m0) else (if p1 < 48 then (J_X0_takeDigit_19 m0) else (if p1 ≤ 57 then bd (p1 - 48) fun v3 => bd (m0.1 (0, 0, 0, 3) 3) fun v4 => bd (v4 - 1) fun v5 => bd (m0.1 (0, 0, 0, 3) 3) fun v6 => bd (v6 - 1) fun v7 => ck (ib v7 10) (bd (m0.1 (0, 0, 0, 7) (Int32.toNatClampNeg v7)) fun v8 => bd (v8 * 10) fun v9 => bd (m0.1 (0, 0, 0, 3) 5) fun v10 => (if v10 = 0 then (J_X0_takeDigit_63 m0 v5 v9) v3 else bd (-v3) fun v16 => (J_X0_takeDigit_63 m0 v5 v9) v16)) else (J_X0_takeDigit_19 m0))))
def F_X0_takeAnd (p1 : Int32) (m0 : Mem) : Option (Int32 × Mem) :=
  (if p1 = 38 then bd (wI m0 (0, 0, 0, 3) 4 0) fun m1 => ck (isB 1) (some (1, m1)) else ck (isB 0) (some (0, m0)))
def J_X0_mayGrow_42  (v4 : Int32) : Option Int32 :=
  ck (isB v4) (some v4)
def J_X0_mayGrow_41   : Option Int32 :=
  J_X0_mayGrow_42 0
def J_X0_mayGrow_25  (v2 : Int32) : Option Int32 :=
  (if v2 ≤ 0 then J_X0_mayGrow_41 else (if 1000 ≤ v2 then J_X0_mayGrow_41 else J_X0_mayGrow_42 1))
def F_X0_mayGrow (m0 : Mem) : Option Int32 :=
  bd (m0.1 (0, 0, 0, 3) 3) fun v1 => (if 0 < v1 then bd (m0.1 (0, 0, 0, 3) 3) fun v7 => bd (v7 - 1) fun v8 => ck (ib v8 10) (bd (m0.1 (0, 0, 0, 7) (Int32.toNatClampNeg v8)) fun v9 => bd (if 0 ≤ v9 then v9 else 0 - v9) fun v10 => J_X0_mayGrow_25 v10) else J_X0_mayGrow_25 0)
def J_X0_take_73  (v8 : Int32) (m9 : Mem) : Option (Int32 × Mem) :=
  ck (isB v8) (some (v8, m9))
def J_X0_take_68  (m11 : Mem) : Option (Int32 × Mem) :=
  J_X0_take_73 1 m11
def J_X0_take_108  (v19 : Int32) (m20 : Mem) : Option (Int32 × Mem) :=
  ck (isB v19) (some (v19, m20))
def J_X0_take_103  (m22 : Mem) : Option (Int32 × Mem) :=
  J_X0_take_108 1 m22
def J_X0_take_107  (m25 : Mem) : Option (Int32 × Mem) :=
  J_X0_take_108 0 m25
def F_X0_take (p1 : Int32) (m0 : Mem) : Option (Int32 × Mem) :=
  bd (m0.1 (0, 0, 0, 3) 4) fun v1 => (if v1 = 0 then bm (F_X0_takeLetter p1 m0) fun v2 m3 => ck (isB v2) (some (v2, m3)) else (if v1 = 1 then bm (F_X0_takeSign p1 m0) fun v4 m5 => ck (isB v4) (some (v4, m5)) else (if v1 = 2 then bm (F_X0_takeMinus p1 m0) fun v6 m7 => (if v6 = 0 then bm (F_X0_takeDigit p1 m7) fun v13 m14 => (if v13 = 0 then J_X0_take_73 0 m14 else J_X0_take_68 m14) else J_X0_take_68 m7) else (if v1 = 3 then bm (F_X0_takeDigit p1 m0) fun v15 m16 => ck (isB v15) (some (v15, m16)) else (if v1 = 4 then bm (F_X0_takeAnd p1 m0) fun v17 m18 => (if v17 = 0 then bo (F_X0_mayGrow m18) fun v24 => (if v24 = 0 then J_X0_take_107 m18 else bm (F_X0_takeDigit p1 m18) fun v27 m28 => (if v27 = 0 then J_X0_take_107 m28 else J_X0_take_103 m28)) else J_X0_take_103 m18) else ck (isB 0) (some (0, m0)))))))
def C_X0_read_46 (p2 : Int32) (m3 : Mem) : Option (Int32 × Mem) :=
  some (p2, m3)
def L_X0_read_12 (p2 : Int32) : Nat → Int32 → Mem → Option (Int32 × Mem)
  | 0, _, _ => none
  | n8 + 1, v5, m6 => (if p2 ≤ v5 then (C_X0_read_46 p2) m6 else (if 40 ≤ v5 then (C_X0_read_46 p2) m6 else ck (ib v5 40) (bd (m6.1 (0, 0, 0, 2) (Int32.toNatClampNeg v5)) fun v9 => bm (F_X0_take v9 m6) fun v10 m11 => (if v10 = 0 then bd (wI m11 (0, 0, 0, 3) 4 5) fun m13 => some (v5, m13) else bd (v5 + 1) fun v12 => (fun w0 w1 => L_X0_read_12 p2 n8 w0 w1) v12 m11))))
def F_X0_read (p2 : Int32) (m0 : Mem) : Option (Int32 × Mem) :=
  bd (wI m0 (0, 0, 0, 3) 3 0) fun m1 => bd (wI m1 (0, 0, 0, 3) 4 0) fun m2 => L_X0_read_12 p2 fu 0 m2
def J_X0_isWhole_13  (v2 : Int32) : Option Int32 :=
  ck (isB v2) (some v2)
def F_X0_isWhole (m0 : Mem) : Option Int32 :=
  bd (m0.1 (0, 0, 0, 3) 4) fun v1 => (if v1 = 4 then J_X0_isWhole_13 1 else J_X0_isWhole_13 0)
def F_X3_readQuestion (m0 : Mem) : Option (Int32 × Mem) :=
  bd (m0.1 (0, 0, 0, 0) 6) fun v1 => bm (F_X0_read v1 m0) fun v2 m3 => bo (F_X0_isWhole m3) fun v4 => ck (isB v4) (some (v4, m3))
def C_X2_columnOf_26   : Option Int32 :=
  some (-1)
def L_X2_columnOf_2 (i0 : Nat) (j0 : Nat) (p1 : Int32) (m0 : Mem) : Nat → Int32 → Option Int32
  | 0, _ => none
  | n4 + 1, v2 => (if 8 ≤ v2 then C_X2_columnOf_26 else ck (ib v2 8) (bd (m0.1 (2, i0, j0, 1) (Int32.toNatClampNeg v2)) fun v5 => (if v5 = p1 then some v2 else bd (v2 + 1) fun v6 => (fun w0 => L_X2_columnOf_2 i0 j0 p1 m0 n4 w0) v6)))
def F_X2_columnOf (i0 : Nat) (j0 : Nat) (p1 : Int32) (m0 : Mem) : Option Int32 :=
  L_X2_columnOf_2 i0 j0 p1 m0 fu 0
def J_X0_allows_63  (v3 : Int32) : Option Int32 :=
  ck (isB v3) (some v3)
def J_X0_allows_47  (v6 : Int32) : Option Int32 :=
  ck (isB v6) (some v6)
def J_X0_allows_79  (v9 : Int32) : Option Int32 :=
  ck (isB v9) (some v9)
def F_X0_allows (p1 : Int32) (p2 : Int32) (m0 : Mem) : Option Int32 :=
  ck (ib p1 10) (bd (m0.1 (0, 0, 0, 6) (Int32.toNatClampNeg p1)) fun v1 => (if v1 = 60 then ck (ib p1 10) (bd (m0.1 (0, 0, 0, 7) (Int32.toNatClampNeg p1)) fun v2 => (if v2 ≤ p2 then J_X0_allows_63 0 else J_X0_allows_63 1)) else (if v1 = 61 then ck (ib p1 10) (bd (m0.1 (0, 0, 0, 7) (Int32.toNatClampNeg p1)) fun v5 => (if p2 = v5 then J_X0_allows_47 1 else J_X0_allows_47 0)) else ck (ib p1 10) (bd (m0.1 (0, 0, 0, 7) (Int32.toNatClampNeg p1)) fun v8 => (if p2 ≤ v8 then J_X0_allows_79 0 else J_X0_allows_79 1)))))
def C_X3_isAnswer_64   : Option Int32 :=
  ck (isB 1) (some 1)
def J_X3_isAnswer_56   : Option Int32 :=
  ck (isB 0) (some 0)
def L_X3_isAnswer_2 (i2 : Nat) (j2 : Nat) (p1 : Int32) (m0 : Mem) : Nat → Int32 → Option Int32
  | 0, _ => none
  | n4 + 1, v2 => bd (m0.1 (0, 0, 0, 3) 3) fun v5 => (if v5 ≤ v2 then C_X3_isAnswer_64 else bp (m0.2.1 6) 7 fun q6 => ck (ib v2 10) (bd (m0.1 (0, 0, 0, 5) (Int32.toNatClampNeg v2)) fun v7 => bo (F_X2_columnOf i2 j2 v7 m0) fun v8 => bo (F_X1_valueAt q6 p1 v8 m0) fun v9 => (if v9 = (-1000000) then J_X3_isAnswer_56 else bo (F_X0_allows v2 v9 m0) fun v11 => (if v11 = 0 then J_X3_isAnswer_56 else bd (v2 + 1) fun v12 => (fun w0 => L_X3_isAnswer_2 i2 j2 p1 m0 n4 w0) v12))))
def F_X3_isAnswer (i2 : Nat) (j2 : Nat) (p1 : Int32) (m0 : Mem) : Option Int32 :=
  L_X3_isAnswer_2 i2 j2 p1 m0 fu 0
def C_X3_collectAnswers_67  (v1 : Int32) (m2 : Mem) : Option (Int32 × Mem) :=
  some (v1, m2)
def J_X3_collectAnswers_61 (v5 : Int32) (kb4_7 : Int32 → Int32 → Mem → Option (Int32 × Mem)) (v13 : Int32) (m14 : Mem) : Option (Int32 × Mem) :=
  bd (v5 + 1) fun v16 => kb4_7 v13 v16 m14
def L_X3_collectAnswers_4 (p1 : Int32) : Nat → Int32 → Int32 → Mem → Option (Int32 × Mem)
  | 0, _, _, _ => none
  | n8 + 1, v4, v5, m6 => bp (m6.2.1 6) 7 fun q9 => bd (m6.1 (1, q9, 0, 0) 3) fun v10 => (if v10 ≤ v5 then C_X3_collectAnswers_67 v4 m6 else (if 120 ≤ v5 then C_X3_collectAnswers_67 v4 m6 else bp (m6.2.1 6) 7 fun q11 => ck (ib v5 120) (bd (m6.1 (1, q11, 0, 2) (Int32.toNatClampNeg v5)) fun v12 => (if v12 = p1 then bp (m6.2.1 6) 7 fun q17 => ck (ib p1 3) (bp (Int32.toNatClampNeg p1) 3 fun q18 => bo (F_X3_isAnswer q17 q18 v5 m6) fun v19 => (if v19 = 0 then (J_X3_collectAnswers_61 v5 (fun w0 w1 w2 => L_X3_collectAnswers_4 p1 n8 w0 w1 w2)) v4 m6 else ck (ib v4 120) (bd (wI m6 (0, 0, 0, 4) (Int32.toNatClampNeg v4) v5) fun m20 => bd (v4 + 1) fun v21 => (J_X3_collectAnswers_61 v5 (fun w0 w1 w2 => L_X3_collectAnswers_4 p1 n8 w0 w1 w2)) v21 m20))) else (J_X3_collectAnswers_61 v5 (fun w0 w1 w2 => L_X3_collectAnswers_4 p1 n8 w0 w1 w2)) v4 m6))))
def F_X3_collectAnswers (p1 : Int32) (m0 : Mem) : Option (Int32 × Mem) :=
  L_X3_collectAnswers_4 p1 fu 0 0 m0
def J_X3_comesBefore_50  (v5 : Int32) : Option Int32 :=
  ck (isB v5) (some v5)
def J_X3_comesBefore_45   : Option Int32 :=
  J_X3_comesBefore_50 1
def F_X3_comesBefore (p1 : Int32) (p2 : Int32) (p3 : Int32) (m0 : Mem) : Option Int32 :=
  bp (m0.2.1 6) 7 fun q1 => bo (F_X1_valueAt q1 p1 p3 m0) fun v2 => bp (m0.2.1 6) 7 fun q3 => bo (F_X1_valueAt q3 p2 p3 m0) fun v4 => (if v2 = (-1000000) then ck (isB 0) (some 0) else (if v4 = (-1000000) then J_X3_comesBefore_45 else (if v4 ≤ v2 then J_X3_comesBefore_50 0 else J_X3_comesBefore_45)))
def C_X3_sortAnswers_79  (m1 : Mem) : Option (Unit × Mem) :=
  some ((), m1)
def C_X3_sortAnswers_64 (v3 : Int32) (kb2_5 : Int32 → Mem → Option (Unit × Mem)) (v7 : Int32) (v8 : Int32) (m9 : Mem) : Option (Unit × Mem) :=
  ck (ib v8 120) (bd (wI m9 (0, 0, 0, 4) (Int32.toNatClampNeg v8) v7) fun m11 => bd (v3 + 1) fun v12 => kb2_5 v12 m11)
def L_X3_sortAnswers_18 (p2 : Int32) (v3 : Int32) (kb2_5 : Int32 → Mem → Option (Unit × Mem)) (v7 : Int32) : Nat → Int32 → Mem → Option (Unit × Mem)
  | 0, _, _ => none
  | n16 + 1, v13, m14 => (if v13 ≤ 0 then (C_X3_sortAnswers_64 v3 kb2_5 v7) v13 m14 else bd (v13 - 1) fun v17 => ck (ib v17 120) (bd (m14.1 (0, 0, 0, 4) (Int32.toNatClampNeg v17)) fun v18 => bo (F_X3_comesBefore v7 v18 p2 m14) fun v19 => (if v19 = 0 then (C_X3_sortAnswers_64 v3 kb2_5 v7) v13 m14 else bd (v13 - 1) fun v20 => ck (ib v20 120) (bd (m14.1 (0, 0, 0, 4) (Int32.toNatClampNeg v20)) fun v21 => ck (ib v13 120) (bd (wI m14 (0, 0, 0, 4) (Int32.toNatClampNeg v13) v21) fun m22 => bd (v13 + (-1)) fun v23 => (fun w0 w1 => L_X3_sortAnswers_18 p2 v3 kb2_5 v7 n16 w0 w1) v23 m22)))))
def L_X3_sortAnswers_2 (p1 : Int32) (p2 : Int32) : Nat → Int32 → Mem → Option (Unit × Mem)
  | 0, _, _ => none
  | n6 + 1, v3, m4 => (if p1 ≤ v3 then C_X3_sortAnswers_79 m4 else ck (ib v3 120) (bd (m4.1 (0, 0, 0, 4) (Int32.toNatClampNeg v3)) fun v7 => L_X3_sortAnswers_18 p2 v3 (fun w0 w1 => L_X3_sortAnswers_2 p1 p2 n6 w0 w1) v7 fu v3 m4))
def F_X3_sortAnswers (p1 : Int32) (p2 : Int32) (m0 : Mem) : Option (Unit × Mem) :=
  L_X3_sortAnswers_2 p1 p2 fu 1 m0
def J_X3_answerAt_25  (v1 : Int32) : Option Int32 :=
  some v1
def J_X3_answerAt_24   : Option Int32 :=
  J_X3_answerAt_25 (-1)
def F_X3_answerAt (p1 : Int32) (p2 : Int32) (m0 : Mem) : Option Int32 :=
  (if p1 < 0 then J_X3_answerAt_24 else (if p2 ≤ p1 then J_X3_answerAt_24 else (if 120 ≤ p1 then J_X3_answerAt_24 else ck (ib p1 120) (bd (m0.1 (0, 0, 0, 4) (Int32.toNatClampNeg p1)) fun v4 => J_X3_answerAt_25 v4))))
def J_X3_answer_71 (p3 : Int32) (v6 : Int32) (m8 : Mem) : Option ((Int32 ⊕ Nat) × Mem) :=
  bo (F_X3_answerAt p3 v6 m8) fun v10 => some (.inl v10, m8)
def J_X3_answer_28 (p1 : Int32) (p2 : Int32) (p3 : Int32) (m0 : Mem) (v2 : Int32) : Option ((Int32 ⊕ Nat) × Mem) :=
  bts (F_X3_require v2 m0) (fun c => some (.inr c, m0)) fun _ => bm (F_X3_readQuestion m0) fun v4 m5 => (if v4 = 0 then some (.inl (-1), m5) else bm (F_X3_collectAnswers p1 m5) fun v6 m7 => (if p2 = (-1) then (J_X3_answer_71 p3 v6) m7 else bp (m7.2.1 6) 7 fun q11 => ck (ib p1 3) (bp (Int32.toNatClampNeg p1) 3 fun q12 => bo (F_X2_columnOf q11 q12 p2 m7) fun v13 => bm (F_X3_sortAnswers v6 v13 m7) fun _ m14 => (J_X3_answer_71 p3 v6) m14)))
def J_X3_answer_27 (p1 : Int32) (p2 : Int32) (p3 : Int32) (m0 : Mem)  : Option ((Int32 ⊕ Nat) × Mem) :=
  (J_X3_answer_28 p1 p2 p3 m0) 0
def J_X3_answer_19 (p1 : Int32) (p2 : Int32) (p3 : Int32) (m0 : Mem)  : Option ((Int32 ⊕ Nat) × Mem) :=
  (if p3 < 0 then (J_X3_answer_27 p1 p2 p3 m0) else (J_X3_answer_28 p1 p2 p3 m0) 1)
def F_X3_answer (p1 : Int32) (p2 : Int32) (p3 : Int32) (m0 : Mem) : Option ((Int32 ⊕ Nat) × Mem) :=
  bo (F_X3_isTenant p1 m0) fun v1 => (if v1 = 0 then (J_X3_answer_27 p1 p2 p3 m0) else (if p2 = (-1) then (J_X3_answer_19 p1 p2 p3 m0) else bo (F_X3_isLetter p2 m0) fun v17 => (if v17 = 0 then (J_X3_answer_27 p1 p2 p3 m0) else (J_X3_answer_19 p1 p2 p3 m0))))
def C_X3_rowsToLookAt_140  (v5 : Int32) : Option Int32 :=
  some v5
def J_X3_rowsToLookAt_134 (v8 : Int32) (kb36_9 : Int32 → Int32 → Option Int32) (v15 : Int32) : Option Int32 :=
  bd (v8 + 1) fun v17 => kb36_9 v15 v17
def J_X3_rowsToLookAt_107 (p1 : Int32) (m0 : Mem) (v7 : Int32) (v8 : Int32) (kb36_9 : Int32 → Int32 → Option Int32) (v13 : Int32)  : Option Int32 :=
  bp (m0.2.1 6) 7 fun q20 => ck (ib v8 10) (bd (m0.1 (0, 0, 0, 7) (Int32.toNatClampNeg v8)) fun v21 => bo (F_X1_rowsWith q20 p1 v13 v21 m0) fun v22 => bd (if v22 < v7 then v22 else v7) fun v23 => (J_X3_rowsToLookAt_134 v8 kb36_9) v23)
def L_X3_rowsToLookAt_36 (p1 : Int32) (p3 : Int32) (m0 : Mem) (q1 : Nat) (q2 : Nat) : Nat → Int32 → Int32 → Option Int32
  | 0, _, _ => none
  | n10 + 1, v7, v8 => bd (m0.1 (0, 0, 0, 3) 3) fun v11 => (if v11 ≤ v8 then C_X3_rowsToLookAt_140 v7 else ck (ib v8 10) (bd (m0.1 (0, 0, 0, 5) (Int32.toNatClampNeg v8)) fun v12 => bo (F_X2_columnOf q1 q2 v12 m0) fun v13 => ck (ib v8 10) (bd (m0.1 (0, 0, 0, 6) (Int32.toNatClampNeg v8)) fun v14 => (if v14 = 61 then (if v13 = (-1) then (J_X3_rowsToLookAt_134 v8 (fun w0 w1 => L_X3_rowsToLookAt_36 p1 p3 m0 q1 q2 n10 w0 w1)) v7 else ck (ib v13 8) (bd (m0.1 (2, q1, q2, 3) (Int32.toNatClampNeg v13)) fun v18 => (if v18 = 0 then (if v12 = p3 then (J_X3_rowsToLookAt_107 p1 m0 v7 v8 (fun w0 w1 => L_X3_rowsToLookAt_36 p1 p3 m0 q1 q2 n10 w0 w1) v13) else (J_X3_rowsToLookAt_134 v8 (fun w0 w1 => L_X3_rowsToLookAt_36 p1 p3 m0 q1 q2 n10 w0 w1)) v7) else (J_X3_rowsToLookAt_107 p1 m0 v7 v8 (fun w0 w1 => L_X3_rowsToLookAt_36 p1 p3 m0 q1 q2 n10 w0 w1) v13)))) else (J_X3_rowsToLookAt_134 v8 (fun w0 w1 => L_X3_rowsToLookAt_36 p1 p3 m0 q1 q2 n10 w0 w1)) v7))))
def F_X3_rowsToLookAt (p1 : Int32) (p2 : Int32) (p3 : Int32) (m0 : Mem) : Option Int32 :=
  (if p2 = 0 then bp (m0.2.1 6) 7 fun q1 => ck (ib p1 3) (bp (Int32.toNatClampNeg p1) 3 fun q2 => bp (m0.2.1 6) 7 fun q3 => bo (F_X1_tableRows q3 m0) fun v4 => L_X3_rowsToLookAt_36 p1 p3 m0 q1 q2 fu v4 0) else bp (m0.2.1 6) 7 fun q24 => bo (F_X1_rowsOf q24 p1 m0) fun v25 => some v25)
def J_X3_looked_42 (p1 : Int32) (m3 : Mem) (v4 : Int32) : Option ((Int32 ⊕ Nat) × Mem) :=
  bo (F_X3_rowsToLookAt p1 v4 (-1) m3) fun v6 => some (.inl v6, m3)
def J_X3_looked_37 (p1 : Int32) (m3 : Mem)  : Option ((Int32 ⊕ Nat) × Mem) :=
  (J_X3_looked_42 p1 m3) 1
def F_X3_looked (p1 : Int32) (p2 : Int32) (m0 : Mem) : Option ((Int32 ⊕ Nat) × Mem) :=
  bo (F_X3_isTenant p1 m0) fun v1 => bts (F_X3_require v1 m0) (fun c => some (.inr c, m0)) fun _ => bm (F_X3_readQuestion m0) fun v2 m3 => (if v2 = 0 then some (.inl (-1), m3) else (if p2 = 0 then bp (m3.2.1 6) 7 fun q8 => ck (ib p1 3) (bp (Int32.toNatClampNeg p1) 3 fun q9 => bd (m3.1 (2, q8, q9, 0) 5) fun v10 => (if v10 = 0 then (J_X3_looked_42 p1 m3) 0 else (J_X3_looked_37 p1 m3))) else (J_X3_looked_37 p1 m3)))
def J_X2_define_32  (m1 : Mem) : Option (Unit × Mem) :=
  some ((), m1)
def F_X2_define (i0 : Nat) (j0 : Nat) (p1 : Int32) (p2 : Int32) (p3 : Int32) (p4 : Int32) (m0 : Mem) : Option (Unit × Mem) :=
  (if p1 < 0 then J_X2_define_32 m0 else (if 8 ≤ p1 then J_X2_define_32 m0 else ck (ib p1 8) (bd (wI m0 (2, i0, j0, 1) (Int32.toNatClampNeg p1) p2) fun m3 => ck (ib p1 8) (bd (wI m3 (2, i0, j0, 2) (Int32.toNatClampNeg p1) p3) fun m4 => ck (ib p1 8) (ck (isB p4) (bd (wI m4 (2, i0, j0, 3) (Int32.toNatClampNeg p1) p4) fun m5 => J_X2_define_32 m5))))))
def C_X2_copyFrom_37 (i0 : Nat) (j0 : Nat) (i1 : Nat) (j1 : Nat) (m1 : Mem) : Option (Unit × Mem) :=
  bd (m1.1 (2, i1, j1, 0) 3) fun v3 => bd (wI m1 (2, i0, j0, 0) 3 v3) fun m4 => bd (m4.1 (2, i1, j1, 0) 4) fun v5 => bd (wI m4 (2, i0, j0, 0) 4 v5) fun m6 => bd (m6.1 (2, i1, j1, 0) 5) fun v7 => ck (isB v7) (bd (wI m6 (2, i0, j0, 0) 5 v7) fun m8 => bd (m8.1 (2, i1, j1, 0) 6) fun v9 => bd (wI m8 (2, i0, j0, 0) 6 v9) fun m10 => bd (m10.1 (2, i1, j1, 0) 7) fun v11 => bd (wI m10 (2, i0, j0, 0) 7 v11) fun m12 => bd (m12.1 (2, i1, j1, 0) 8) fun v13 => bd (wI m12 (2, i0, j0, 0) 8 v13) fun m14 => bd (m14.1 (2, i1, j1, 0) 9) fun v15 => bd (wI m14 (2, i0, j0, 0) 9 v15) fun m16 => some ((), m16))
def L_X2_copyFrom_2 (i0 : Nat) (j0 : Nat) (i1 : Nat) (j1 : Nat) : Nat → Int32 → Mem → Option (Unit × Mem)
  | 0, _, _ => none
  | n20 + 1, v17, m18 => (if 8 ≤ v17 then (C_X2_copyFrom_37 i0 j0 i1 j1) m18 else ck (ib v17 8) (bd (m18.1 (2, i1, j1, 1) (Int32.toNatClampNeg v17)) fun v21 => ck (ib v17 8) (bd (m18.1 (2, i1, j1, 2) (Int32.toNatClampNeg v17)) fun v22 => ck (ib v17 8) (bd (m18.1 (2, i1, j1, 3) (Int32.toNatClampNeg v17)) fun v23 => bm (F_X2_define i0 j0 v17 v21 v22 v23 m18) fun _ m24 => bd (v17 + 1) fun v25 => (fun w0 w1 => L_X2_copyFrom_2 i0 j0 i1 j1 n20 w0 w1) v25 m24))))
def F_X2_copyFrom (i0 : Nat) (j0 : Nat) (i1 : Nat) (j1 : Nat) (m0 : Mem) : Option (Unit × Mem) :=
  L_X2_copyFrom_2 i0 j0 i1 j1 fu 0 m0
def C_X1_copyFrom_28 (i0 : Nat) (i1 : Nat) (m1 : Mem) : Option (Unit × Mem) :=
  bd (m1.1 (1, i1, 0, 0) 3) fun v3 => bd (wI m1 (1, i0, 0, 0) 3 v3) fun m4 => bd (m4.1 (1, i0, 0, 0) 3) fun v5 => ck (!decide (0 < 0) && !decide (0 < 0) && !decide (v5 < 0) && decide ((Int32.toNatClampNeg 0) + (Int32.toNatClampNeg v5) ≤ 120) && decide ((Int32.toNatClampNeg 0) + (Int32.toNatClampNeg v5) ≤ 120)) (bd (wA m4 (1, i0, 0, 2) (va_cpy (m4.1 (1, i1, 0, 2)) (m4.1 (1, i0, 0, 2)) (Int32.toNatClampNeg 0) (Int32.toNatClampNeg 0) (Int32.toNatClampNeg v5))) fun m6 => bd (m6.1 (1, i0, 0, 0) 3) fun v7 => bd (v7 * 8) fun v8 => ck (!decide (0 < 0) && !decide (0 < 0) && !decide (v8 < 0) && decide ((Int32.toNatClampNeg 0) + (Int32.toNatClampNeg v8) ≤ 960) && decide ((Int32.toNatClampNeg 0) + (Int32.toNatClampNeg v8) ≤ 960)) (bd (wA m6 (1, i0, 0, 3) (va_cpy (m6.1 (1, i1, 0, 3)) (m6.1 (1, i0, 0, 3)) (Int32.toNatClampNeg 0) (Int32.toNatClampNeg 0) (Int32.toNatClampNeg v8))) fun m9 => some ((), m9)))
def L_X1_copyFrom_2 (i0 : Nat) (i1 : Nat) : Nat → Int32 → Mem → Option (Unit × Mem)
  | 0, _, _ => none
  | n13 + 1, v10, m11 => (if 3 ≤ v10 then (C_X1_copyFrom_28 i0 i1) m11 else ck (ib v10 3) (bp (Int32.toNatClampNeg v10) 3 fun q14 => ck (ib v10 3) (bp (Int32.toNatClampNeg v10) 3 fun q15 => bm (F_X2_copyFrom i0 q14 i1 q15 m11) fun _ m16 => bd (v10 + 1) fun v17 => (fun w0 w1 => L_X1_copyFrom_2 i0 i1 n13 w0 w1) v17 m16)))
def F_X1_copyFrom (i0 : Nat) (i1 : Nat) (m0 : Mem) : Option (Unit × Mem) :=
  L_X1_copyFrom_2 i0 i1 fu 0 m0
def J_X3_save_56  (m2 : Mem) : Option (Nat × Mem) :=
  bd (m2.1 (0, 0, 0, 0) 5) fun v4 => ck (ib v4 6) (bp (m2.2.1 (Int32.toNatClampNeg v4)) 7 fun q5 => bp (m2.2.1 6) 7 fun q6 => bm (F_X1_copyFrom q5 q6 m2) fun _ m7 => bd (m7.1 (0, 0, 0, 0) 5) fun v8 => bd (v8 + 1) fun v9 => bd (wI m7 (0, 0, 0, 0) 5 v9) fun m10 => some (q5, m10))
def C_X3_save_44 (q11 : Nat) (m12 : Mem) : Option (Nat × Mem) :=
  ck (ib 5 6) (bd (wP m12 (Int32.toNatClampNeg 5) q11) fun m14 => bd (wI m14 (0, 0, 0, 0) 5 5) fun m15 => J_X3_save_56 m15)
def L_X3_save_18 (q11 : Nat) : Nat → Int32 → Mem → Option (Nat × Mem)
  | 0, _, _ => none
  | n19 + 1, v16, m17 => (if 6 ≤ v16 then (C_X3_save_44 q11) m17 else bd (v16 - 1) fun v20 => ck (ib v16 6) (bp (m17.2.1 (Int32.toNatClampNeg v16)) 7 fun q21 => ck (ib v20 6) (bd (wP m17 (Int32.toNatClampNeg v20) q21) fun m22 => bd (v16 + 1) fun v23 => (fun w0 w1 => L_X3_save_18 q11 n19 w0 w1) v23 m22)))
def F_X3_save (m0 : Mem) : Option (Nat × Mem) :=
  bd (m0.1 (0, 0, 0, 0) 5) fun v1 => (if v1 < 6 then J_X3_save_56 m0 else ck (ib 0 6) (bp (m0.2.1 (Int32.toNatClampNeg 0)) 7 fun q11 => L_X3_save_18 q11 fu 1 m0))
def J_X3_ask_19 (p1 : Int32) (v2 : Int32) (m3 : Mem) : Option ((Int32 ⊕ Nat) × Mem) :=
  bts (F_X3_require v2 m3) (fun c => some (.inr c, m3)) fun _ => bm (F_X3_save m3) fun q5 m6 => bp q5 7 fun q5 => bp (m6.2.1 6) 7 fun q7 => ck (ib p1 3) (bp (Int32.toNatClampNeg p1) 3 fun q8 => bm (F_X3_collectAnswers p1 m6) fun v9 m10 => bd (m10.1 (2, q7, q8, 0) 6) fun v11 => bd (v11 + 1) fun v12 => bd (wI m10 (2, q7, q8, 0) 6 v12) fun m13 => bd (m13.1 (2, q7, q8, 0) 7) fun v14 => bd (m13.1 (2, q7, q8, 0) 5) fun v15 => bo (F_X3_rowsToLookAt p1 v15 (-1) m13) fun v16 => bd (v14 + v16) fun v17 => bd (wI m13 (2, q7, q8, 0) 7 v17) fun m18 => bd (m18.1 (2, q7, q8, 0) 8) fun v19 => bd (v19 + v9) fun v20 => bd (wI m18 (2, q7, q8, 0) 8 v20) fun m21 => some (.inl v9, m21))
def J_X3_ask_18 (p1 : Int32) (m22 : Mem) : Option ((Int32 ⊕ Nat) × Mem) :=
  (J_X3_ask_19 p1) 0 m22
def F_X3_ask (p1 : Int32) (m0 : Mem) : Option ((Int32 ⊕ Nat) × Mem) :=
  bo (F_X3_isTenant p1 m0) fun v1 => (if v1 = 0 then (J_X3_ask_18 p1) m0 else bm (F_X3_readQuestion m0) fun v24 m25 => (if v24 = 0 then (J_X3_ask_18 p1) m25 else (J_X3_ask_19 p1) 1 m25))
def C_X3_bestLetter_123  (v5 : Int32) : Option Int32 :=
  some v5
def J_X3_bestLetter_117 (v9 : Int32) (kb27_10 : Int32 → Int32 → Int32 → Option Int32) (v16 : Int32) (v17 : Int32) : Option Int32 :=
  bd (v9 + 1) fun v19 => kb27_10 v16 v17 v19
def L_X3_bestLetter_27 (p1 : Int32) (m0 : Mem) (q1 : Nat) (q2 : Nat) : Nat → Int32 → Int32 → Int32 → Option Int32
  | 0, _, _, _ => none
  | n11 + 1, v7, v8, v9 => bd (m0.1 (0, 0, 0, 3) 3) fun v12 => (if v12 ≤ v9 then C_X3_bestLetter_123 v7 else ck (ib v9 10) (bd (m0.1 (0, 0, 0, 5) (Int32.toNatClampNeg v9)) fun v13 => bo (F_X2_columnOf q1 q2 v13 m0) fun v14 => ck (ib v9 10) (bd (m0.1 (0, 0, 0, 6) (Int32.toNatClampNeg v9)) fun v15 => (if v15 = 61 then (if v14 = (-1) then (J_X3_bestLetter_117 v9 (fun w0 w1 w2 => L_X3_bestLetter_27 p1 m0 q1 q2 n11 w0 w1 w2)) v7 v8 else ck (ib v14 8) (bd (m0.1 (2, q1, q2, 3) (Int32.toNatClampNeg v14)) fun v20 => (if v20 = 0 then bd (m0.1 (2, q1, q2, 0) 5) fun v21 => bo (F_X3_rowsToLookAt p1 v21 v13 m0) fun v22 => (if v8 ≤ v22 then (J_X3_bestLetter_117 v9 (fun w0 w1 w2 => L_X3_bestLetter_27 p1 m0 q1 q2 n11 w0 w1 w2)) v7 v8 else (J_X3_bestLetter_117 v9 (fun w0 w1 w2 => L_X3_bestLetter_27 p1 m0 q1 q2 n11 w0 w1 w2)) v13 v22) else (J_X3_bestLetter_117 v9 (fun w0 w1 w2 => L_X3_bestLetter_27 p1 m0 q1 q2 n11 w0 w1 w2)) v7 v8))) else (J_X3_bestLetter_117 v9 (fun w0 w1 w2 => L_X3_bestLetter_27 p1 m0 q1 q2 n11 w0 w1 w2)) v7 v8))))
def F_X3_bestLetter (p1 : Int32) (m0 : Mem) : Option Int32 :=
  bp (m0.2.1 6) 7 fun q1 => ck (ib p1 3) (bp (Int32.toNatClampNeg p1) 3 fun q2 => bd (m0.1 (2, q1, q2, 0) 5) fun v3 => bo (F_X3_rowsToLookAt p1 v3 (-1) m0) fun v4 => L_X3_bestLetter_27 p1 m0 q1 q2 fu (-1) v4 0)
def J_X3_bestIndex_23 (m3 : Mem) (v4 : Int32) : Option ((Int32 ⊕ Nat) × Mem) :=
  some (.inl v4, m3)
def F_X3_bestIndex (p1 : Int32) (m0 : Mem) : Option ((Int32 ⊕ Nat) × Mem) :=
  bo (F_X3_isTenant p1 m0) fun v1 => bts (F_X3_require v1 m0) (fun c => some (.inr c, m0)) fun _ => bm (F_X3_readQuestion m0) fun v2 m3 => (if v2 = 0 then (J_X3_bestIndex_23 m3) (-1) else bo (F_X3_bestLetter p1 m3) fun v6 => (J_X3_bestIndex_23 m3) v6)
def F_X3_clearBuffer (m0 : Mem) : Option (Int32 × Mem) :=
  bd (m0.1 (0, 0, 0, 0) 6) fun v1 => bd (wI m0 (0, 0, 0, 0) 6 0) fun m2 => some (v1, m2)
def F_X2_refuse (i0 : Nat) (j0 : Nat) (p1 : Int32) (m0 : Mem) : Option (Int32 × Mem) :=
  bd (m0.1 (2, i0, j0, 0) 9) fun v1 => bd (v1 + 1) fun v2 => bd (wI m0 (2, i0, j0, 0) 9 v2) fun m3 => bd (-p1) fun v4 => bd (v4 - 1) fun v5 => some (v5, m3)
def J_X3_mean_28 (p1 : Int32) (p2 : Int32) (p3 : Int32) (m0 : Mem) (v2 : Int32) : Option ((Int32 ⊕ Nat) × Mem) :=
  bts (F_X3_require v2 m0) (fun c => some (.inr c, m0)) fun _ => bm (F_X3_save m0) fun q4 m5 => bp q4 7 fun q4 => bp (m5.2.1 6) 7 fun q6 => ck (ib p1 3) (bp (Int32.toNatClampNeg p1) 3 fun q7 => bo (F_X2_meanings q6 q7 m5) fun v8 => bd (m5.1 (2, q6, q7, 0) 4) fun v9 => (if v8 < v9 then bo (F_X2_columnOf q6 q7 p2 m5) fun v10 => (if v10 = (-1) then bo (F_X2_columnOf q6 q7 (-1) m5) fun v11 => (if v11 = (-1) then bm (F_X2_refuse q6 q7 4 m5) fun v13 m14 => some (.inl v13, m14) else bm (F_X2_define q6 q7 v11 p2 p3 0 m5) fun _ m12 => some (.inl v11, m12)) else bm (F_X2_refuse q6 q7 3 m5) fun v15 m16 => some (.inl v15, m16)) else bm (F_X2_refuse q6 q7 1 m5) fun v17 m18 => some (.inl v17, m18)))
def J_X3_mean_27 (p1 : Int32) (p2 : Int32) (p3 : Int32) (m0 : Mem)  : Option ((Int32 ⊕ Nat) × Mem) :=
  (J_X3_mean_28 p1 p2 p3 m0) 0
def F_X3_mean (p1 : Int32) (p2 : Int32) (p3 : Int32) (m0 : Mem) : Option ((Int32 ⊕ Nat) × Mem) :=
  bo (F_X3_isTenant p1 m0) fun v1 => (if v1 = 0 then (J_X3_mean_27 p1 p2 p3 m0) else bo (F_X3_isLetter p2 m0) fun v20 => (if v20 = 0 then (J_X3_mean_27 p1 p2 p3 m0) else (if p3 < 0 then (J_X3_mean_27 p1 p2 p3 m0) else (if 2 < p3 then (J_X3_mean_27 p1 p2 p3 m0) else (J_X3_mean_28 p1 p2 p3 m0) 1))))
def J_X1_setValue_34  (m1 : Mem) : Option (Unit × Mem) :=
  some ((), m1)
def F_X1_setValue (i0 : Nat) (p1 : Int32) (p2 : Int32) (p3 : Int32) (m0 : Mem) : Option (Unit × Mem) :=
  (if p1 < 0 then J_X1_setValue_34 m0 else bd (m0.1 (1, i0, 0, 0) 3) fun v3 => (if v3 ≤ p1 then J_X1_setValue_34 m0 else (if p2 < 0 then J_X1_setValue_34 m0 else (if 8 ≤ p2 then J_X1_setValue_34 m0 else bd (p1 * 8) fun v4 => bd (v4 + p2) fun v5 => ck (ib v5 960) (bd (wI m0 (1, i0, 0, 3) (Int32.toNatClampNeg v5) p3) fun m6 => J_X1_setValue_34 m6)))))
def C_X1_shiftValues_52  (m1 : Mem) : Option (Unit × Mem) :=
  some ((), m1)
def J_X1_shiftValues_46 (v3 : Int32) (kb3_5 : Int32 → Mem → Option (Unit × Mem)) (m9 : Mem) : Option (Unit × Mem) :=
  bd (v3 + 1) fun v11 => kb3_5 v11 m9
def L_X1_shiftValues_3 (i0 : Nat) (p1 : Int32) (p2 : Int32) (p3 : Int32) : Nat → Int32 → Mem → Option (Unit × Mem)
  | 0, _, _ => none
  | n6 + 1, v3, m4 => bd (m4.1 (1, i0, 0, 0) 3) fun v7 => (if v7 ≤ v3 then C_X1_shiftValues_52 m4 else ck (ib v3 120) (bd (m4.1 (1, i0, 0, 2) (Int32.toNatClampNeg v3)) fun v8 => (if v8 = p1 then bo (F_X1_valueAt i0 v3 p2 m4) fun v12 => bm (F_X1_setValue i0 v3 p3 v12 m4) fun _ m13 => bm (F_X1_setValue i0 v3 p2 (-1000000) m13) fun _ m14 => (J_X1_shiftValues_46 v3 (fun w0 w1 => L_X1_shiftValues_3 i0 p1 p2 p3 n6 w0 w1)) m14 else (J_X1_shiftValues_46 v3 (fun w0 w1 => L_X1_shiftValues_3 i0 p1 p2 p3 n6 w0 w1)) m4)))
def F_X1_shiftValues (i0 : Nat) (p1 : Int32) (p2 : Int32) (p3 : Int32) (m0 : Mem) : Option (Unit × Mem) :=
  L_X1_shiftValues_3 i0 p1 p2 p3 fu 0 m0
def F_X2_makeSpare (i0 : Nat) (j0 : Nat) (p1 : Int32) (m0 : Mem) : Option (Unit × Mem) :=
  bm (F_X2_define i0 j0 p1 (-1) 0 0 m0) fun _ m1 => some ((), m1)
def J_X3_forget_19 (p1 : Int32) (p2 : Int32) (m0 : Mem) (v2 : Int32) : Option ((Int32 ⊕ Nat) × Mem) :=
  bts (F_X3_require v2 m0) (fun c => some (.inr c, m0)) fun _ => bm (F_X3_save m0) fun q4 m5 => bp q4 7 fun q4 => bp (m5.2.1 6) 7 fun q6 => ck (ib p1 3) (bp (Int32.toNatClampNeg p1) 3 fun q7 => bo (F_X2_columnOf q6 q7 p2 m5) fun v8 => (if v8 = (-1) then bm (F_X2_refuse q6 q7 5 m5) fun v14 m15 => some (.inl v14, m15) else bp (m5.2.1 6) 7 fun q9 => bo (F_X1_rowsWithValue q9 p1 v8 m5) fun v10 => bp (m5.2.1 6) 7 fun q11 => bm (F_X1_shiftValues q11 p1 v8 (-1) m5) fun _ m12 => bm (F_X2_makeSpare q6 q7 v8 m12) fun _ m13 => some (.inl v10, m13)))
def J_X3_forget_18 (p1 : Int32) (p2 : Int32) (m0 : Mem)  : Option ((Int32 ⊕ Nat) × Mem) :=
  (J_X3_forget_19 p1 p2 m0) 0
def F_X3_forget (p1 : Int32) (p2 : Int32) (m0 : Mem) : Option ((Int32 ⊕ Nat) × Mem) :=
  bo (F_X3_isTenant p1 m0) fun v1 => (if v1 = 0 then (J_X3_forget_18 p1 p2 m0) else bo (F_X3_isLetter p2 m0) fun v17 => (if v17 = 0 then (J_X3_forget_18 p1 p2 m0) else (J_X3_forget_19 p1 p2 m0) 1))
def C_X3_pack_109  (v6 : Int32) (m7 : Mem) : Option ((Int32 ⊕ Nat) × Mem) :=
  some (.inl v6, m7)
def J_X3_pack_103 (v11 : Int32) (kb30_13 : Int32 → Int32 → Int32 → Mem → Option ((Int32 ⊕ Nat) × Mem)) (v16 : Int32) (v17 : Int32) (m18 : Mem) : Option ((Int32 ⊕ Nat) × Mem) :=
  bd (v11 + 1) fun v20 => kb30_13 v16 v17 v20 m18
def J_X3_pack_100 (v9 : Int32) (v11 : Int32) (kb30_13 : Int32 → Int32 → Int32 → Mem → Option ((Int32 ⊕ Nat) × Mem)) (v21 : Int32) (m22 : Mem) : Option ((Int32 ⊕ Nat) × Mem) :=
  bd (v9 + 1) fun v24 => (J_X3_pack_103 v11 kb30_13) v24 v21 m22
def L_X3_pack_30 (p1 : Int32) (q4 : Nat) (q5 : Nat) : Nat → Int32 → Int32 → Int32 → Mem → Option ((Int32 ⊕ Nat) × Mem)
  | 0, _, _, _, _ => none
  | n14 + 1, v9, v10, v11, m12 => (if 8 ≤ v11 then C_X3_pack_109 v10 m12 else ck (ib v11 8) (bd (m12.1 (2, q4, q5, 1) (Int32.toNatClampNeg v11)) fun v15 => (if v15 = (-1) then (J_X3_pack_103 v11 (fun w0 w1 w2 w3 => L_X3_pack_30 p1 q4 q5 n14 w0 w1 w2 w3)) v9 v10 m12 else (if v11 ≤ v9 then (J_X3_pack_100 v9 v11 (fun w0 w1 w2 w3 => L_X3_pack_30 p1 q4 q5 n14 w0 w1 w2 w3)) v10 m12 else ck (ib v11 8) (bd (m12.1 (2, q4, q5, 1) (Int32.toNatClampNeg v11)) fun v25 => ck (ib v11 8) (bd (m12.1 (2, q4, q5, 2) (Int32.toNatClampNeg v11)) fun v26 => ck (ib v11 8) (bd (m12.1 (2, q4, q5, 3) (Int32.toNatClampNeg v11)) fun v27 => bm (F_X2_define q4 q5 v9 v25 v26 v27 m12) fun _ m28 => bm (F_X2_makeSpare q4 q5 v11 m28) fun _ m29 => bp (m29.2.1 6) 7 fun q30 => bm (F_X1_shiftValues q30 p1 v11 v9 m29) fun _ m31 => bd (v10 + 1) fun v32 => (J_X3_pack_100 v9 v11 (fun w0 w1 w2 w3 => L_X3_pack_30 p1 q4 q5 n14 w0 w1 w2 w3)) v32 m31)))))))
def F_X3_pack (p1 : Int32) (m0 : Mem) : Option ((Int32 ⊕ Nat) × Mem) :=
  bo (F_X3_isTenant p1 m0) fun v1 => bts (F_X3_require v1 m0) (fun c => some (.inr c, m0)) fun _ => bm (F_X3_save m0) fun q2 m3 => bp q2 7 fun q2 => bp (m3.2.1 6) 7 fun q4 => ck (ib p1 3) (bp (Int32.toNatClampNeg p1) 3 fun q5 => L_X3_pack_30 p1 q4 q5 fu 0 0 0 m3)
def J_X3_index_77 (m5 : Mem) (q6 : Nat) (q7 : Nat) (v8 : Int32) (v10 : Int32) : Option ((Int32 ⊕ Nat) × Mem) :=
  ck (ib v8 8) (ck (isB v10) (bd (wI m5 (2, q6, q7, 3) (Int32.toNatClampNeg v8) v10) fun m12 => ck (ib v8 8) (bd (m12.1 (2, q6, q7, 3) (Int32.toNatClampNeg v8)) fun v13 => bo (F_X3_asNumber v13 m12) fun v14 => some (.inl v14, m12))))
def J_X3_index_19 (p1 : Int32) (p2 : Int32) (m0 : Mem) (v2 : Int32) : Option ((Int32 ⊕ Nat) × Mem) :=
  bts (F_X3_require v2 m0) (fun c => some (.inr c, m0)) fun _ => bm (F_X3_save m0) fun q4 m5 => bp q4 7 fun q4 => bp (m5.2.1 6) 7 fun q6 => ck (ib p1 3) (bp (Int32.toNatClampNeg p1) 3 fun q7 => bo (F_X2_columnOf q6 q7 p2 m5) fun v8 => (if v8 = (-1) then bm (F_X2_refuse q6 q7 5 m5) fun v15 m16 => some (.inl v15, m16) else ck (ib v8 8) (bd (m5.1 (2, q6, q7, 3) (Int32.toNatClampNeg v8)) fun v9 => (if v9 = 0 then (J_X3_index_77 m5 q6 q7 v8) 1 else (J_X3_index_77 m5 q6 q7 v8) 0))))
def J_X3_index_18 (p1 : Int32) (p2 : Int32) (m0 : Mem)  : Option ((Int32 ⊕ Nat) × Mem) :=
  (J_X3_index_19 p1 p2 m0) 0
def F_X3_index (p1 : Int32) (p2 : Int32) (m0 : Mem) : Option ((Int32 ⊕ Nat) × Mem) :=
  bo (F_X3_isTenant p1 m0) fun v1 => (if v1 = 0 then (J_X3_index_18 p1 p2 m0) else bo (F_X3_isLetter p2 m0) fun v18 => (if v18 = 0 then (J_X3_index_18 p1 p2 m0) else (J_X3_index_19 p1 p2 m0) 1))
def J_X1_tableOf_19  (v3 : Int32) : Option Int32 :=
  some v3
def F_X1_tableOf (i0 : Nat) (p1 : Int32) (m0 : Mem) : Option Int32 :=
  ck (ib p1 3) (bp (Int32.toNatClampNeg p1) 3 fun q1 => bd (m0.1 (2, i0, q1, 0) 5) fun v2 => (if v2 = 0 then J_X1_tableOf_19 0 else bd (p1 + 1) fun v5 => J_X1_tableOf_19 v5))
def C_X1_insertRow_135 (v2 : Int32) (m19 : Mem) : Option (Int32 × Mem) :=
  some (v2, m19)
def L_X1_insertRow_115 (i0 : Nat) (v2 : Int32) : Nat → Int32 → Mem → Option (Int32 × Mem)
  | 0, _, _ => none
  | n24 + 1, v21, m22 => (if 8 ≤ v21 then (C_X1_insertRow_135 v2) m22 else bm (F_X1_setValue i0 v2 v21 (-1000000) m22) fun _ m25 => bd (v21 + 1) fun v26 => (fun w0 w1 => L_X1_insertRow_115 i0 v2 n24 w0 w1) v26 m25)
def C_X1_insertRow_45 (i0 : Nat) (p1 : Int32) (m0 : Mem) (v2 : Int32) : Option (Int32 × Mem) :=
  bd (v2 + 1) fun v4 => bd (m0.1 (1, i0, 0, 0) 3) fun v5 => bd (v5 - v2) fun v6 => ck (!decide (v2 < 0) && !decide (v4 < 0) && !decide (v6 < 0) && decide ((Int32.toNatClampNeg v2) + (Int32.toNatClampNeg v6) ≤ 120) && decide ((Int32.toNatClampNeg v4) + (Int32.toNatClampNeg v6) ≤ 120)) (bd (wA m0 (1, i0, 0, 2) (va_cpy (m0.1 (1, i0, 0, 2)) (m0.1 (1, i0, 0, 2)) (Int32.toNatClampNeg v2) (Int32.toNatClampNeg v4) (Int32.toNatClampNeg v6))) fun m7 => bd (v2 * 8) fun v8 => bd (v2 + 1) fun v9 => bd (v9 * 8) fun v10 => bd (m7.1 (1, i0, 0, 0) 3) fun v11 => bd (v11 - v2) fun v12 => bd (v12 * 8) fun v13 => ck (!decide (v8 < 0) && !decide (v10 < 0) && !decide (v13 < 0) && decide ((Int32.toNatClampNeg v8) + (Int32.toNatClampNeg v13) ≤ 960) && decide ((Int32.toNatClampNeg v10) + (Int32.toNatClampNeg v13) ≤ 960)) (bd (wA m7 (1, i0, 0, 3) (va_cpy (m7.1 (1, i0, 0, 3)) (m7.1 (1, i0, 0, 3)) (Int32.toNatClampNeg v8) (Int32.toNatClampNeg v10) (Int32.toNatClampNeg v13))) fun m14 => bd (m14.1 (1, i0, 0, 0) 3) fun v15 => bd (v15 + 1) fun v16 => bd (wI m14 (1, i0, 0, 0) 3 v16) fun m17 => ck (ib v2 120) (bd (wI m17 (1, i0, 0, 2) (Int32.toNatClampNeg v2) p1) fun m18 => L_X1_insertRow_115 i0 v2 fu 0 m18)))
def L_X1_insertRow_13 (i0 : Nat) (p1 : Int32) (m0 : Mem) : Nat → Int32 → Option (Int32 × Mem)
  | 0, _ => none
  | n29 + 1, v27 => bd (m0.1 (1, i0, 0, 0) 3) fun v30 => (if v30 ≤ v27 then (C_X1_insertRow_45 i0 p1 m0) v27 else ck (ib v27 120) (bd (m0.1 (1, i0, 0, 2) (Int32.toNatClampNeg v27)) fun v31 => bo (F_X1_tableOf i0 v31 m0) fun v32 => bo (F_X1_tableOf i0 p1 m0) fun v33 => (if v33 < v32 then (C_X1_insertRow_45 i0 p1 m0) v27 else bd (v27 + 1) fun v34 => (fun w0 => L_X1_insertRow_13 i0 p1 m0 n29 w0) v34)))
def F_X1_insertRow (i0 : Nat) (p1 : Int32) (m0 : Mem) : Option (Int32 × Mem) :=
  bd (m0.1 (1, i0, 0, 0) 3) fun v1 => (if v1 < 120 then L_X1_insertRow_13 i0 p1 m0 fu 0 else some ((-1), m0))
def J_X3_row_68 (p1 : Int32) (m3 : Mem)  : Option ((Int32 ⊕ Nat) × Mem) :=
  bp (m3.2.1 6) 7 fun q11 => bm (F_X1_insertRow q11 p1 m3) fun v12 m13 => some (.inl v12, m13)
def F_X3_row (p1 : Int32) (m0 : Mem) : Option ((Int32 ⊕ Nat) × Mem) :=
  bo (F_X3_isTenant p1 m0) fun v1 => bts (F_X3_require v1 m0) (fun c => some (.inr c, m0)) fun _ => bm (F_X3_save m0) fun q2 m3 => bp q2 7 fun q2 => bp (m3.2.1 6) 7 fun q4 => ck (ib p1 3) (bp (Int32.toNatClampNeg p1) 3 fun q5 => bp (m3.2.1 6) 7 fun q6 => bo (F_X1_rowsOf q6 p1 m3) fun v7 => bd (m3.1 (2, q4, q5, 0) 3) fun v8 => (if v7 < v8 then bd (m3.1 (2, q4, q5, 0) 5) fun v9 => (if v9 = 0 then bp (m3.2.1 6) 7 fun q14 => bo (F_X1_tableRows q14 m3) fun v15 => (if v15 < 40 then (J_X3_row_68 p1 m3) else bm (F_X2_refuse q4 q5 2 m3) fun v16 m17 => some (.inl v16, m17)) else (J_X3_row_68 p1 m3)) else bm (F_X2_refuse q4 q5 1 m3) fun v18 m19 => some (.inl v18, m19)))
def J_X3_fits_47  (v1 : Int32) : Option Int32 :=
  ck (isB v1) (some v1)
def J_X3_fits_46   : Option Int32 :=
  J_X3_fits_47 0
def J_X3_fits_62  (v4 : Int32) : Option Int32 :=
  ck (isB v4) (some v4)
def J_X3_fits_57   : Option Int32 :=
  J_X3_fits_62 1
def J_X3_fits_79  (v7 : Int32) : Option Int32 :=
  ck (isB v7) (some v7)
def J_X3_fits_78   : Option Int32 :=
  J_X3_fits_79 0
def F_X3_fits (p1 : Int32) (p2 : Int32) (m0 : Mem) : Option Int32 :=
  (if p1 = 0 then (if p2 < (-999) then J_X3_fits_46 else (if 999 < p2 then J_X3_fits_46 else J_X3_fits_47 1)) else (if p1 = 1 then (if p2 = 0 then J_X3_fits_57 else (if p2 = 1 then J_X3_fits_57 else J_X3_fits_62 0)) else (if p2 < 0 then J_X3_fits_78 else (if 3650 < p2 then J_X3_fits_78 else J_X3_fits_79 1))))
def J_X3_put_113 (p1 : Int32) (p3 : Int32) (m5 : Mem) (v8 : Int32) (v13 : Int32) : Option ((Int32 ⊕ Nat) × Mem) :=
  bp (m5.2.1 6) 7 fun q15 => bm (F_X1_setValue q15 p1 v8 p3 m5) fun _ m16 => bo (F_X3_asNumber v13 m16) fun v17 => some (.inl v17, m16)
def J_X3_put_31 (p1 : Int32) (p2 : Int32) (p3 : Int32) (m0 : Mem) (v2 : Int32) : Option ((Int32 ⊕ Nat) × Mem) :=
  bts (F_X3_require v2 m0) (fun c => some (.inr c, m0)) fun _ => bm (F_X3_save m0) fun q4 m5 => bp q4 7 fun q4 => bp (m5.2.1 6) 7 fun q6 => bo (F_X1_ownerOf q6 p1 m5) fun q7 => bp q7 3 fun q7 => bo (F_X2_columnOf q6 q7 p2 m5) fun v8 => (if v8 = (-1) then bm (F_X2_refuse q6 q7 5 m5) fun v20 m21 => some (.inl v20, m21) else ck (ib v8 8) (bd (m5.1 (2, q6, q7, 2) (Int32.toNatClampNeg v8)) fun v9 => bo (F_X3_fits v9 p3 m5) fun v10 => (if v10 = 0 then bm (F_X2_refuse q6 q7 6 m5) fun v18 m19 => some (.inl v18, m19) else bp (m5.2.1 6) 7 fun q11 => bo (F_X1_valueAt q11 p1 v8 m5) fun v12 => (if v12 = (-1000000) then (J_X3_put_113 p1 p3 m5 v8) 0 else (J_X3_put_113 p1 p3 m5 v8) 1))))
def J_X3_put_30 (p1 : Int32) (p2 : Int32) (p3 : Int32) (m0 : Mem)  : Option ((Int32 ⊕ Nat) × Mem) :=
  (J_X3_put_31 p1 p2 p3 m0) 0
def F_X3_put (p1 : Int32) (p2 : Int32) (p3 : Int32) (m0 : Mem) : Option ((Int32 ⊕ Nat) × Mem) :=
  bts (F_X3_requireRow p1 m0) (fun c => some (.inr c, m0)) fun _ => bo (F_X3_isLetter p2 m0) fun v1 => (if v1 = 0 then (J_X3_put_30 p1 p2 p3 m0) else (if p3 < (-9999) then (J_X3_put_30 p1 p2 p3 m0) else (if 9999 < p3 then (J_X3_put_30 p1 p2 p3 m0) else (J_X3_put_31 p1 p2 p3 m0) 1)))
def F_X1_copyRow (i0 : Nat) (i1 : Nat) (p2 : Int32) (p3 : Int32) (m0 : Mem) : Option (Unit × Mem) :=
  ck (ib p2 120) (bd (m0.1 (1, i1, 0, 2) (Int32.toNatClampNeg p2)) fun v1 => ck (ib p3 120) (bd (wI m0 (1, i0, 0, 2) (Int32.toNatClampNeg p3) v1) fun m2 => bd (p2 * 8) fun v3 => bd (p3 * 8) fun v4 => ck (!decide (v3 < 0) && !decide (v4 < 0) && !decide (8 < 0) && decide ((Int32.toNatClampNeg v3) + (Int32.toNatClampNeg 8) ≤ 960) && decide ((Int32.toNatClampNeg v4) + (Int32.toNatClampNeg 8) ≤ 960)) (bd (wA m2 (1, i0, 0, 3) (va_cpy (m2.1 (1, i1, 0, 3)) (m2.1 (1, i0, 0, 3)) (Int32.toNatClampNeg v3) (Int32.toNatClampNeg v4) (Int32.toNatClampNeg 8))) fun m5 => some ((), m5))))
def C_X1_removeRows_62 (i0 : Nat) (v1 : Int32) (m2 : Mem) : Option (Unit × Mem) :=
  bd (wI m2 (1, i0, 0, 0) 3 v1) fun m4 => some ((), m4)
def J_X1_removeRows_56 (v7 : Int32) (kb8_9 : Int32 → Int32 → Int32 → Mem → Option (Unit × Mem)) (v12 : Int32) (v13 : Int32) (m14 : Mem) : Option (Unit × Mem) :=
  bd (v7 + 1) fun v16 => kb8_9 v12 v13 v16 m14
def J_X1_removeRows_45 (i0 : Nat) (v5 : Int32) (v6 : Int32) (v7 : Int32) (m8 : Mem) (kb8_9 : Int32 → Int32 → Int32 → Mem → Option (Unit × Mem))  : Option (Unit × Mem) :=
  bm (F_X1_copyRow i0 i0 v7 v5 m8) fun _ m18 => bd (v5 + 1) fun v19 => (J_X1_removeRows_56 v7 kb8_9) v19 v6 m18
def L_X1_removeRows_8 (i0 : Nat) (p2 : Int32) : Nat → Int32 → Int32 → Int32 → Mem → Option (Unit × Mem)
  | 0, _, _, _, _ => none
  | n10 + 1, v5, v6, v7, m8 => bd (m8.1 (1, i0, 0, 0) 3) fun v11 => (if v11 ≤ v7 then (C_X1_removeRows_62 i0) v5 m8 else (if p2 ≤ v6 then (J_X1_removeRows_45 i0 v5 v6 v7 m8 (fun w0 w1 w2 w3 => L_X1_removeRows_8 i0 p2 n10 w0 w1 w2 w3)) else (if 120 ≤ v6 then (J_X1_removeRows_45 i0 v5 v6 v7 m8 (fun w0 w1 w2 w3 => L_X1_removeRows_8 i0 p2 n10 w0 w1 w2 w3)) else ck (ib v6 120) (bd (m8.1 (0, 0, 0, 4) (Int32.toNatClampNeg v6)) fun v20 => (if v20 = v7 then bd (v6 + 1) fun v21 => (J_X1_removeRows_56 v7 (fun w0 w1 w2 w3 => L_X1_removeRows_8 i0 p2 n10 w0 w1 w2 w3)) v5 v21 m8 else (J_X1_removeRows_45 i0 v5 v6 v7 m8 (fun w0 w1 w2 w3 => L_X1_removeRows_8 i0 p2 n10 w0 w1 w2 w3)))))))
def F_X1_removeRows (i0 : Nat) (p2 : Int32) (m0 : Mem) : Option (Unit × Mem) :=
  L_X1_removeRows_8 i0 p2 fu 0 0 0 m0
def F_X3_remove (p1 : Int32) (m0 : Mem) : Option ((Int32 ⊕ Nat) × Mem) :=
  bts (F_X3_requireRow p1 m0) (fun c => some (.inr c, m0)) fun _ => bm (F_X3_save m0) fun q1 m2 => bp q1 7 fun q1 => bp (m2.2.1 6) 7 fun q3 => ck (ib p1 120) (bd (m2.1 (1, q3, 0, 2) (Int32.toNatClampNeg p1)) fun v4 => ck (ib 0 120) (bd (wI m2 (0, 0, 0, 4) (Int32.toNatClampNeg 0) p1) fun m5 => bp (m5.2.1 6) 7 fun q6 => bm (F_X1_removeRows q6 1 m5) fun _ m7 => some (.inl v4, m7)))
def C_X1_orderRowsOf_68  (m2 : Mem) : Option (Unit × Mem) :=
  some ((), m2)
def C_X1_orderRowsOf_62 (v4 : Int32) (kb7_6 : Int32 → Mem → Option (Unit × Mem)) (m8 : Mem) : Option (Unit × Mem) :=
  bd (v4 + 1) fun v10 => kb7_6 v10 m8
def J_X1_orderRowsOf_56 (v11 : Int32) (kb14_13 : Int32 → Mem → Option (Unit × Mem)) (m18 : Mem) : Option (Unit × Mem) :=
  bd (v11 + 1) fun v20 => kb14_13 v20 m18
def L_X1_orderRowsOf_14 (i0 : Nat) (i1 : Nat) (v4 : Int32) (kb7_6 : Int32 → Mem → Option (Unit × Mem)) : Nat → Int32 → Mem → Option (Unit × Mem)
  | 0, _, _ => none
  | n14 + 1, v11, m12 => bd (m12.1 (1, i1, 0, 0) 3) fun v15 => (if v15 ≤ v11 then (C_X1_orderRowsOf_62 v4 kb7_6) m12 else ck (ib v11 120) (bd (m12.1 (1, i1, 0, 2) (Int32.toNatClampNeg v11)) fun v16 => bo (F_X1_tableOf i0 v16 m12) fun v17 => (if v17 = v4 then bd (m12.1 (1, i0, 0, 0) 3) fun v21 => bm (F_X1_copyRow i0 i1 v11 v21 m12) fun _ m22 => bd (m22.1 (1, i0, 0, 0) 3) fun v23 => bd (v23 + 1) fun v24 => bd (wI m22 (1, i0, 0, 0) 3 v24) fun m25 => (J_X1_orderRowsOf_56 v11 (fun w0 w1 => L_X1_orderRowsOf_14 i0 i1 v4 kb7_6 n14 w0 w1)) m25 else (J_X1_orderRowsOf_56 v11 (fun w0 w1 => L_X1_orderRowsOf_14 i0 i1 v4 kb7_6 n14 w0 w1)) m12)))
def L_X1_orderRowsOf_7 (i0 : Nat) (i1 : Nat) : Nat → Int32 → Mem → Option (Unit × Mem)
  | 0, _, _ => none
  | n7 + 1, v4, m5 => (if 3 < v4 then C_X1_orderRowsOf_68 m5 else L_X1_orderRowsOf_14 i0 i1 v4 (fun w0 w1 => L_X1_orderRowsOf_7 i0 i1 n7 w0 w1) fu 0 m5)
def F_X1_orderRowsOf (i0 : Nat) (i1 : Nat) (m0 : Mem) : Option (Unit × Mem) :=
  bd (wI m0 (1, i0, 0, 0) 3 0) fun m1 => L_X1_orderRowsOf_7 i0 i1 fu 0 m1
def J_X3_move_69 (q2 : Nat) (m3 : Mem) (q4 : Nat) (q5 : Nat) (v9 : Int32) : Option ((Int32 ⊕ Nat) × Mem) :=
  ck (isB v9) (bd (wI m3 (2, q4, q5, 0) 5 v9) fun m11 => bp (m11.2.1 6) 7 fun q12 => bm (F_X1_orderRowsOf q12 q2 m11) fun _ m13 => bd (m13.1 (2, q4, q5, 0) 5) fun v14 => bo (F_X3_asNumber v14 m13) fun v15 => some (.inl v15, m13))
def J_X3_move_56 (q2 : Nat) (m3 : Mem) (q4 : Nat) (q5 : Nat)  : Option ((Int32 ⊕ Nat) × Mem) :=
  bd (m3.1 (2, q4, q5, 0) 5) fun v8 => (if v8 = 0 then (J_X3_move_69 q2 m3 q4 q5) 1 else (J_X3_move_69 q2 m3 q4 q5) 0)
def F_X3_move (p1 : Int32) (m0 : Mem) : Option ((Int32 ⊕ Nat) × Mem) :=
  bo (F_X3_isTenant p1 m0) fun v1 => bts (F_X3_require v1 m0) (fun c => some (.inr c, m0)) fun _ => bm (F_X3_save m0) fun q2 m3 => bp q2 7 fun q2 => bp (m3.2.1 6) 7 fun q4 => ck (ib p1 3) (bp (Int32.toNatClampNeg p1) 3 fun q5 => bd (m3.1 (2, q4, q5, 0) 5) fun v6 => (if v6 = 0 then (J_X3_move_56 q2 m3 q4 q5) else bp (m3.2.1 6) 7 fun q16 => bo (F_X1_tableRows q16 m3) fun v17 => bp (m3.2.1 6) 7 fun q18 => bo (F_X1_rowsOf q18 p1 m3) fun v19 => bd (v17 + v19) fun v20 => (if v20 ≤ 40 then (J_X3_move_56 q2 m3 q4 q5) else bm (F_X2_refuse q4 q5 2 m3) fun v21 m22 => some (.inl v21, m22))))
def J_X3_limit_88 (v8 : Int32) (m10 : Mem) : Option ((Int32 ⊕ Nat) × Mem) :=
  some (.inl v8, m10)
def J_X3_limit_67 (p2 : Int32) (p3 : Int32) (m5 : Mem) (q6 : Nat) (q7 : Nat) (v8 : Int32) : Option ((Int32 ⊕ Nat) × Mem) :=
  (if p2 = 0 then bd (wI m5 (2, q6, q7, 0) 3 p3) fun m12 => (J_X3_limit_88 v8) m12 else bd (wI m5 (2, q6, q7, 0) 4 p3) fun m13 => (J_X3_limit_88 v8) m13)
def J_X3_limit_31 (p1 : Int32) (p2 : Int32) (p3 : Int32) (m0 : Mem) (v2 : Int32) : Option ((Int32 ⊕ Nat) × Mem) :=
  bts (F_X3_require v2 m0) (fun c => some (.inr c, m0)) fun _ => bm (F_X3_save m0) fun q4 m5 => bp q4 7 fun q4 => bp (m5.2.1 6) 7 fun q6 => ck (ib p1 3) (bp (Int32.toNatClampNeg p1) 3 fun q7 => (if p2 = 0 then bd (m5.1 (2, q6, q7, 0) 3) fun v14 => (J_X3_limit_67 p2 p3 m5 q6 q7) v14 else bd (m5.1 (2, q6, q7, 0) 4) fun v15 => (J_X3_limit_67 p2 p3 m5 q6 q7) v15))
def J_X3_limit_30 (p1 : Int32) (p2 : Int32) (p3 : Int32) (m0 : Mem)  : Option ((Int32 ⊕ Nat) × Mem) :=
  (J_X3_limit_31 p1 p2 p3 m0) 0
def J_X3_limit_23 (p1 : Int32) (p2 : Int32) (p3 : Int32) (m0 : Mem) (v17 : Int32) : Option ((Int32 ⊕ Nat) × Mem) :=
  (if v17 < p3 then (J_X3_limit_30 p1 p2 p3 m0) else (J_X3_limit_31 p1 p2 p3 m0) 1)
def F_X3_limit (p1 : Int32) (p2 : Int32) (p3 : Int32) (m0 : Mem) : Option ((Int32 ⊕ Nat) × Mem) :=
  bo (F_X3_isTenant p1 m0) fun v1 => (if v1 = 0 then (J_X3_limit_30 p1 p2 p3 m0) else (if p3 < 0 then (J_X3_limit_30 p1 p2 p3 m0) else (if p2 = 0 then (J_X3_limit_23 p1 p2 p3 m0) 40 else (J_X3_limit_23 p1 p2 p3 m0) 8)))
def F_X3_undo (m0 : Mem) : Option ((Int32 ⊕ Nat) × Mem) :=
  bd (m0.1 (0, 0, 0, 0) 5) fun v1 => (if 0 < v1 then bd (m0.1 (0, 0, 0, 0) 5) fun v2 => bd (v2 - 1) fun v3 => bd (wI m0 (0, 0, 0, 0) 5 v3) fun m4 => bd (m4.1 (0, 0, 0, 0) 5) fun v5 => ck (ib v5 6) (bp (m4.2.1 (Int32.toNatClampNeg v5)) 7 fun q6 => bd (m4.1 (0, 0, 0, 0) 5) fun v7 => bp (m4.2.1 6) 7 fun q8 => ck (ib v7 6) (bd (wP m4 (Int32.toNatClampNeg v7) q8) fun m9 => bd (wP m9 6 q6) fun m10 => bd (m10.1 (0, 0, 0, 0) 5) fun v11 => some (.inl v11, m10))) else some (.inr 1, m0))
