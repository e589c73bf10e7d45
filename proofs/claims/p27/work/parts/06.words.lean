/-! what the tables say, by place (written by dec.py) -/
theorem wd_list {L : List Cond} (h : L.all (fun w => (decide (w ∈ lw_tbl) && okw w)) = true) (a : Array Value) (U : State) (hU : Wd U) : ∀ w ∈ L, w.before a U = true := by
  intro w hw
  have h1 := List.all_eq_true.mp h w hw
  rw [Bool.and_eq_true, decide_eq_true_eq] at h1
  exact okw_at (State.WarmedH.refl U) h1.2 (hU w h1.1 h1.2)
theorem th_X3_267_271 : ∀ (a : Array Value) (U : State), Wd U → (Cond.classLink RX3 267 (en 0)).before a U = true ∧ (Cond.initialized (en 0)).before a U = true ∧ ∀ w ∈ vx_atS RX3 271 (en 0) ["java/lang/RuntimeException", "java/lang/Exception"], w.before a U = true := fun a U h => ⟨h.use a 179 (by decide +kernel) (by decide +kernel), h.use a 29 (by decide +kernel) (by decide +kernel), wd_list (by decide +kernel) a U h⟩
theorem th_X3_267_271_g : ∀ w ∈ Cond.classLink RX3 267 (en 0) :: Cond.initialized (en 0) :: vx_atS RX3 271 (en 0) ["java/lang/RuntimeException", "java/lang/Exception"], vx_ot w = true := by decide +kernel
theorem fl_X1_29 : ∀ (a : Array Value) (U : State), Wd U → (Cond.fieldLink RX1 29 (TX1 3).1 (TX1 3).2.1 (TX1 3).2.2.1).before a U = true := fun a U h => h.use a 136 (by decide +kernel) (by decide +kernel)
theorem fl_X1_17 : ∀ (a : Array Value) (U : State), Wd U → (Cond.fieldLink RX1 17 (TX1 1).1 (TX1 1).2.1 (TX1 1).2.2.1).before a U = true := fun a U h => h.use a 133 (by decide +kernel) (by decide +kernel)
theorem yf_X3_asNumber : YF yX3_asNumber 1 := ⟨⟨by decide +kernel, by decide +kernel⟩, by decide +kernel⟩
theorem me_X3_asNumber : MeS yX3_asNumber cX3_asNumber 1 (some .int) := fun a U h => ⟨h.use a 252 (by decide +kernel) (by decide +kernel), h.use a 22 (by decide +kernel) (by decide +kernel), h.use a 253 (by decide +kernel) (by decide +kernel)⟩
theorem lk_X1_64 : LkN RX1 64 yX3_asNumber "SharedColumns" := fun a U h => h.use a 251 (by decide +kernel) (by decide +kernel)
theorem fl_X2_9 : ∀ (a : Array Value) (U : State), Wd U → (Cond.fieldLink RX2 9 (TX2 0).1 (TX2 0).2.1 (TX2 0).2.2.1).before a U = true := fun a U h => h.use a 86 (by decide +kernel) (by decide +kernel)
theorem lk_X2_49 : LkN RX2 49 yX3_asNumber "SharedColumns" := fun a U h => h.use a 258 (by decide +kernel) (by decide +kernel)
theorem yf_X3_isTenant : YF yX3_isTenant 1 := ⟨⟨by decide +kernel, by decide +kernel⟩, by decide +kernel⟩
theorem me_X3_isTenant : MeS yX3_isTenant cX3_isTenant 1 (some .boolean) := fun a U h => ⟨h.use a 174 (by decide +kernel) (by decide +kernel), h.use a 22 (by decide +kernel) (by decide +kernel), h.use a 175 (by decide +kernel) (by decide +kernel)⟩
theorem lk_X3_34 : Lk RX3 34 yX3_isTenant := fun a U h => h.use a 173 (by decide +kernel) (by decide +kernel)
theorem yf_X3_require : YF yX3_require 1 := ⟨⟨by decide +kernel, by decide +kernel⟩, by decide +kernel⟩
theorem me_X3_require : MeS yX3_require cX3_require 1 none := fun a U h => ⟨h.use a 177 (by decide +kernel) (by decide +kernel), h.use a 22 (by decide +kernel) (by decide +kernel), h.use a 178 (by decide +kernel) (by decide +kernel)⟩
theorem lk_X3_41 : Lk RX3 41 yX3_require := fun a U h => h.use a 176 (by decide +kernel) (by decide +kernel)
theorem fl_X3_30 : ∀ (a : Array Value) (U : State), Wd U → (Cond.fieldLink RX3 30 (TX3 4).1 (TX3 4).2.1 (TX3 4).2.2.1).before a U = true := fun a U h => h.use a 151 (by decide +kernel) (by decide +kernel)
theorem fl_X3_49 : ∀ (a : Array Value) (U : State), Wd U → (Cond.fieldLink RX3 49 (TX1 0).1 (TX1 0).2.1 (TX1 0).2.2.1).before a U = true := fun a U h => h.use a 132 (by decide +kernel) (by decide +kernel)
theorem yf_X1_rowsOf : YF yX1_rowsOf 1 := ⟨⟨by decide +kernel, by decide +kernel⟩, by decide +kernel⟩
theorem me_X1_rowsOf : MeV yX1_rowsOf cX1_rowsOf 4 (some .int) := fun a U h => ⟨h.use a 248 (by decide +kernel) (by decide +kernel), h.use a 249 (by decide +kernel) (by decide +kernel), h.use a 24 (by decide +kernel) (by decide +kernel), h.use a 250 (by decide +kernel) (by decide +kernel)⟩
theorem lk_X3_100 : Lk RX3 100 yX1_rowsOf := fun a U h => h.use a 247 (by decide +kernel) (by decide +kernel)
theorem yf_X2_meanings : YF yX2_meanings 0 := ⟨⟨by decide +kernel, by decide +kernel⟩, by decide +kernel⟩
theorem me_X2_meanings : MeV yX2_meanings cX2_meanings 3 (some .int) := fun a U h => ⟨h.use a 255 (by decide +kernel) (by decide +kernel), h.use a 256 (by decide +kernel) (by decide +kernel), h.use a 25 (by decide +kernel) (by decide +kernel), h.use a 257 (by decide +kernel) (by decide +kernel)⟩
theorem lk_X3_53 : Lk RX3 53 yX2_meanings := fun a U h => h.use a 254 (by decide +kernel) (by decide +kernel)
theorem fl_X3_103 : ∀ (a : Array Value) (U : State), Wd U → (Cond.fieldLink RX3 103 (TX2 3).1 (TX2 3).2.1 (TX2 3).2.2.1).before a U = true := fun a U h => h.use a 95 (by decide +kernel) (by decide +kernel)
theorem fl_X3_59 : ∀ (a : Array Value) (U : State), Wd U → (Cond.fieldLink RX3 59 (TX2 4).1 (TX2 4).2.1 (TX2 4).2.2.1).before a U = true := fun a U h => h.use a 97 (by decide +kernel) (by decide +kernel)
theorem fl_X3_106 : ∀ (a : Array Value) (U : State), Wd U → (Cond.fieldLink RX3 106 (TX2 5).1 (TX2 5).2.1 (TX2 5).2.2.1).before a U = true := fun a U h => h.use a 99 (by decide +kernel) (by decide +kernel)
theorem lk_X3_96 : Lk RX3 96 yX3_asNumber := fun a U h => h.use a 259 (by decide +kernel) (by decide +kernel)
theorem fl_X3_166 : ∀ (a : Array Value) (U : State), Wd U → (Cond.fieldLink RX3 166 (TX2 6).1 (TX2 6).2.1 (TX2 6).2.2.1).before a U = true := fun a U h => h.use a 102 (by decide +kernel) (by decide +kernel)
theorem fl_X3_169 : ∀ (a : Array Value) (U : State), Wd U → (Cond.fieldLink RX3 169 (TX2 7).1 (TX2 7).2.1 (TX2 7).2.2.1).before a U = true := fun a U h => h.use a 104 (by decide +kernel) (by decide +kernel)
theorem fl_X3_176 : ∀ (a : Array Value) (U : State), Wd U → (Cond.fieldLink RX3 176 (TX2 8).1 (TX2 8).2.1 (TX2 8).2.2.1).before a U = true := fun a U h => h.use a 106 (by decide +kernel) (by decide +kernel)
theorem fl_X3_194 : ∀ (a : Array Value) (U : State), Wd U → (Cond.fieldLink RX3 194 (TX2 9).1 (TX2 9).2.1 (TX2 9).2.2.1).before a U = true := fun a U h => h.use a 108 (by decide +kernel) (by decide +kernel)
theorem fl_X1_11 : ∀ (a : Array Value) (U : State), Wd U → (Cond.fieldLink RX1 11 (TX1 0).1 (TX1 0).2.1 (TX1 0).2.2.1).before a U = true := fun a U h => h.use a 131 (by decide +kernel) (by decide +kernel)
theorem yf_X1_ownerOf : YF yX1_ownerOf 1 := ⟨⟨by decide +kernel, by decide +kernel⟩, by decide +kernel⟩
theorem me_X1_ownerOf : MeV yX1_ownerOf cX1_ownerOf 2 (some (.object RX2)) := fun a U h => ⟨h.use a 269 (by decide +kernel) (by decide +kernel), h.use a 270 (by decide +kernel) (by decide +kernel), h.use a 24 (by decide +kernel) (by decide +kernel), h.use a 271 (by decide +kernel) (by decide +kernel)⟩
theorem lk_X1_60 : Lk RX1 60 yX1_ownerOf := fun a U h => h.use a 268 (by decide +kernel) (by decide +kernel)
theorem fl_X1_56 : ∀ (a : Array Value) (U : State), Wd U → (Cond.fieldLink RX1 56 (TX2 5).1 (TX2 5).2.1 (TX2 5).2.2.1).before a U = true := fun a U h => h.use a 100 (by decide +kernel) (by decide +kernel)
theorem cn_X1_39 : ∀ (a : Array Value) (U : State), Wd U → (Cond.constant RX1 39 (-1000000)).before a U = true := fun a U h => h.use a 284 (by decide +kernel) (by decide +kernel)
theorem fl_X1_21 : ∀ (a : Array Value) (U : State), Wd U → (Cond.fieldLink RX1 21 (TX1 2).1 (TX1 2).2.1 (TX1 2).2.2.1).before a U = true := fun a U h => h.use a 135 (by decide +kernel) (by decide +kernel)
theorem yf_X1_valueAt : YF yX1_valueAt 2 := ⟨⟨by decide +kernel, by decide +kernel⟩, by decide +kernel⟩
theorem me_X1_valueAt : MeV yX1_valueAt cX1_valueAt 3 (some .int) := fun a U h => ⟨h.use a 281 (by decide +kernel) (by decide +kernel), h.use a 282 (by decide +kernel) (by decide +kernel), h.use a 24 (by decide +kernel) (by decide +kernel), h.use a 283 (by decide +kernel) (by decide +kernel)⟩
theorem lk_X1_40 : Lk RX1 40 yX1_valueAt := fun a U h => h.use a 280 (by decide +kernel) (by decide +kernel)
theorem yf_X1_valuesIn : YF yX1_valuesIn 1 := ⟨⟨by decide +kernel, by decide +kernel⟩, by decide +kernel⟩
theorem me_X1_valuesIn : MeV yX1_valuesIn cX1_valuesIn 4 (some .int) := fun a U h => ⟨h.use a 277 (by decide +kernel) (by decide +kernel), h.use a 278 (by decide +kernel) (by decide +kernel), h.use a 24 (by decide +kernel) (by decide +kernel), h.use a 279 (by decide +kernel) (by decide +kernel)⟩
theorem lk_X1_68 : Lk RX1 68 yX1_valuesIn := fun a U h => h.use a 276 (by decide +kernel) (by decide +kernel)
theorem fl_X1_82 : ∀ (a : Array Value) (U : State), Wd U → (Cond.fieldLink RX1 82 (TX2 0).1 (TX2 0).2.1 (TX2 0).2.2.1).before a U = true := fun a U h => h.use a 88 (by decide +kernel) (by decide +kernel)
theorem fl_X1_85 : ∀ (a : Array Value) (U : State), Wd U → (Cond.fieldLink RX1 85 (TX2 2).1 (TX2 2).2.1 (TX2 2).2.2.1).before a U = true := fun a U h => h.use a 93 (by decide +kernel) (by decide +kernel)
theorem yf_X1_tableRows : YF yX1_tableRows 0 := ⟨⟨by decide +kernel, by decide +kernel⟩, by decide +kernel⟩
theorem me_X1_tableRows : MeV yX1_tableRows cX1_tableRows 3 (some .int) := fun a U h => ⟨h.use a 265 (by decide +kernel) (by decide +kernel), h.use a 266 (by decide +kernel) (by decide +kernel), h.use a 24 (by decide +kernel) (by decide +kernel), h.use a 267 (by decide +kernel) (by decide +kernel)⟩
theorem lk_X3_110 : Lk RX3 110 yX1_tableRows := fun a U h => h.use a 264 (by decide +kernel) (by decide +kernel)
theorem fl_X3_204 : ∀ (a : Array Value) (U : State), Wd U → (Cond.fieldLink RX3 204 (TX1 3).1 (TX1 3).2.1 (TX1 3).2.2.1).before a U = true := fun a U h => h.use a 137 (by decide +kernel) (by decide +kernel)
theorem yf_X1_tableValues : YF yX1_tableValues 0 := ⟨⟨by decide +kernel, by decide +kernel⟩, by decide +kernel⟩
theorem me_X1_tableValues : MeV yX1_tableValues cX1_tableValues 3 (some .int) := fun a U h => ⟨h.use a 273 (by decide +kernel) (by decide +kernel), h.use a 274 (by decide +kernel) (by decide +kernel), h.use a 24 (by decide +kernel) (by decide +kernel), h.use a 275 (by decide +kernel) (by decide +kernel)⟩
theorem lk_X3_207 : Lk RX3 207 yX1_tableValues := fun a U h => h.use a 272 (by decide +kernel) (by decide +kernel)
theorem yf_X1_columnsWithMeanings : YF yX1_columnsWithMeanings 2 := ⟨⟨by decide +kernel, by decide +kernel⟩, by decide +kernel⟩
theorem me_X1_columnsWithMeanings : MeV yX1_columnsWithMeanings cX1_columnsWithMeanings 7 (some .int) := fun a U h => ⟨h.use a 286 (by decide +kernel) (by decide +kernel), h.use a 287 (by decide +kernel) (by decide +kernel), h.use a 24 (by decide +kernel) (by decide +kernel), h.use a 288 (by decide +kernel) (by decide +kernel)⟩
theorem lk_X3_210 : Lk RX3 210 yX1_columnsWithMeanings := fun a U h => h.use a 285 (by decide +kernel) (by decide +kernel)
theorem yf_X1_indexes : YF yX1_indexes 0 := ⟨⟨by decide +kernel, by decide +kernel⟩, by decide +kernel⟩
theorem me_X1_indexes : MeV yX1_indexes cX1_indexes 4 (some .int) := fun a U h => ⟨h.use a 290 (by decide +kernel) (by decide +kernel), h.use a 291 (by decide +kernel) (by decide +kernel), h.use a 24 (by decide +kernel) (by decide +kernel), h.use a 292 (by decide +kernel) (by decide +kernel)⟩
theorem lk_X3_213 : Lk RX3 213 yX1_indexes := fun a U h => h.use a 289 (by decide +kernel) (by decide +kernel)
theorem yf_X1_movedTenants : YF yX1_movedTenants 0 := ⟨⟨by decide +kernel, by decide +kernel⟩, by decide +kernel⟩
theorem me_X1_movedTenants : MeV yX1_movedTenants cX1_movedTenants 3 (some .int) := fun a U h => ⟨h.use a 294 (by decide +kernel) (by decide +kernel), h.use a 295 (by decide +kernel) (by decide +kernel), h.use a 24 (by decide +kernel) (by decide +kernel), h.use a 296 (by decide +kernel) (by decide +kernel)⟩
theorem lk_X3_216 : Lk RX3 216 yX1_movedTenants := fun a U h => h.use a 293 (by decide +kernel) (by decide +kernel)
theorem fl_X3_179 : ∀ (a : Array Value) (U : State), Wd U → (Cond.fieldLink RX3 179 (TX3 5).1 (TX3 5).2.1 (TX3 5).2.2.1).before a U = true := fun a U h => h.use a 152 (by decide +kernel) (by decide +kernel)
theorem th_X3_272_276 : ∀ (a : Array Value) (U : State), Wd U → (Cond.classLink RX3 272 (en 2)).before a U = true ∧ (Cond.initialized (en 2)).before a U = true ∧ ∀ w ∈ vx_atS RX3 276 (en 2) ["java/lang/RuntimeException", "java/lang/Exception"], w.before a U = true := fun a U h => ⟨h.use a 316 (by decide +kernel) (by decide +kernel), h.use a 31 (by decide +kernel) (by decide +kernel), wd_list (by decide +kernel) a U h⟩
theorem th_X3_272_276_g : ∀ w ∈ Cond.classLink RX3 272 (en 2) :: Cond.initialized (en 2) :: vx_atS RX3 276 (en 2) ["java/lang/RuntimeException", "java/lang/Exception"], vx_ot w = true := by decide +kernel
theorem yf_X3_requireRow : YF yX3_requireRow 1 := ⟨⟨by decide +kernel, by decide +kernel⟩, by decide +kernel⟩
theorem me_X3_requireRow : MeV yX3_requireRow cX3_requireRow 2 none := fun a U h => ⟨h.use a 314 (by decide +kernel) (by decide +kernel), h.use a 1 (by decide +kernel) (by decide +kernel), h.use a 22 (by decide +kernel) (by decide +kernel), h.use a 315 (by decide +kernel) (by decide +kernel)⟩
theorem lk_X3_116 : Lk RX3 116 yX3_requireRow := fun a U h => h.use a 312 (by decide +kernel) (by decide +kernel)
theorem lk_X3_127 : Lk RX3 127 yX1_valueAt := fun a U h => h.use a 333 (by decide +kernel) (by decide +kernel)
theorem cn_X3_130 : ∀ (a : Array Value) (U : State), Wd U → (Cond.constant RX3 130 (-1000000)).before a U = true := fun a U h => h.use a 334 (by decide +kernel) (by decide +kernel)
theorem lk_X3_184 : Lk RX3 184 yX1_valuesIn := fun a U h => h.use a 332 (by decide +kernel) (by decide +kernel)
theorem fl_X3_134 : ∀ (a : Array Value) (U : State), Wd U → (Cond.fieldLink RX3 134 (TX1 1).1 (TX1 1).2.1 (TX1 1).2.2.1).before a U = true := fun a U h => h.use a 134 (by decide +kernel) (by decide +kernel)
theorem lk_X1_71 : Lk RX1 71 yX1_rowsOf := fun a U h => h.use a 343 (by decide +kernel) (by decide +kernel)
theorem yf_X1_rowsWith : YF yX1_rowsWith 3 := ⟨⟨by decide +kernel, by decide +kernel⟩, by decide +kernel⟩
theorem me_X1_rowsWith : MeV yX1_rowsWith cX1_rowsWith 6 (some .int) := fun a U h => ⟨h.use a 345 (by decide +kernel) (by decide +kernel), h.use a 346 (by decide +kernel) (by decide +kernel), h.use a 24 (by decide +kernel) (by decide +kernel), h.use a 347 (by decide +kernel) (by decide +kernel)⟩
theorem lk_X1_74 : Lk RX1 74 yX1_rowsWith := fun a U h => h.use a 344 (by decide +kernel) (by decide +kernel)
theorem yf_X1_standsAhead : YF yX1_standsAhead 3 := ⟨⟨by decide +kernel, by decide +kernel⟩, by decide +kernel⟩
theorem me_X1_standsAhead : MeV yX1_standsAhead cX1_standsAhead 6 (some .boolean) := fun a U h => ⟨h.use a 359 (by decide +kernel) (by decide +kernel), h.use a 2 (by decide +kernel) (by decide +kernel), h.use a 24 (by decide +kernel) (by decide +kernel), h.use a 360 (by decide +kernel) (by decide +kernel)⟩
theorem lk_X1_78 : Lk RX1 78 yX1_standsAhead := fun a U h => h.use a 357 (by decide +kernel) (by decide +kernel)
theorem fl_X3_86 : ∀ (a : Array Value) (U : State), Wd U → (Cond.fieldLink RX3 86 (TX2 0).1 (TX2 0).2.1 (TX2 0).2.2.1).before a U = true := fun a U h => h.use a 87 (by decide +kernel) (by decide +kernel)
theorem fl_X3_89 : ∀ (a : Array Value) (U : State), Wd U → (Cond.fieldLink RX3 89 (TX2 1).1 (TX2 1).2.1 (TX2 1).2.2.1).before a U = true := fun a U h => h.use a 90 (by decide +kernel) (by decide +kernel)
theorem fl_X3_92 : ∀ (a : Array Value) (U : State), Wd U → (Cond.fieldLink RX3 92 (TX2 2).1 (TX2 2).2.1 (TX2 2).2.2.1).before a U = true := fun a U h => h.use a 92 (by decide +kernel) (by decide +kernel)
theorem yf_X1_rowsWithValue : YF yX1_rowsWithValue 2 := ⟨⟨by decide +kernel, by decide +kernel⟩, by decide +kernel⟩
theorem me_X1_rowsWithValue : MeV yX1_rowsWithValue cX1_rowsWithValue 3 (some .int) := fun a U h => ⟨h.use a 340 (by decide +kernel) (by decide +kernel), h.use a 341 (by decide +kernel) (by decide +kernel), h.use a 24 (by decide +kernel) (by decide +kernel), h.use a 342 (by decide +kernel) (by decide +kernel)⟩
theorem lk_X3_74 : Lk RX3 74 yX1_rowsWithValue := fun a U h => h.use a 339 (by decide +kernel) (by decide +kernel)
theorem yf_X1_sumOf : YF yX1_sumOf 2 := ⟨⟨by decide +kernel, by decide +kernel⟩, by decide +kernel⟩
theorem me_X1_sumOf : MeV yX1_sumOf cX1_sumOf 6 (some .int) := fun a U h => ⟨h.use a 349 (by decide +kernel) (by decide +kernel), h.use a 350 (by decide +kernel) (by decide +kernel), h.use a 24 (by decide +kernel) (by decide +kernel), h.use a 351 (by decide +kernel) (by decide +kernel)⟩
theorem lk_X3_187 : Lk RX3 187 yX1_sumOf := fun a U h => h.use a 348 (by decide +kernel) (by decide +kernel)
theorem cn_X3_190 : ∀ (a : Array Value) (U : State), Wd U → (Cond.constant RX3 190 1000000).before a U = true := fun a U h => h.use a 352 (by decide +kernel) (by decide +kernel)
theorem yf_X1_unlikeValues : YF yX1_unlikeValues 2 := ⟨⟨by decide +kernel, by decide +kernel⟩, by decide +kernel⟩
theorem me_X1_unlikeValues : MeV yX1_unlikeValues cX1_unlikeValues 5 (some .int) := fun a U h => ⟨h.use a 354 (by decide +kernel) (by decide +kernel), h.use a 355 (by decide +kernel) (by decide +kernel), h.use a 24 (by decide +kernel) (by decide +kernel), h.use a 356 (by decide +kernel) (by decide +kernel)⟩
theorem lk_X3_191 : Lk RX3 191 yX1_unlikeValues := fun a U h => h.use a 353 (by decide +kernel) (by decide +kernel)
theorem fl_X3_145 : ∀ (a : Array Value) (U : State), Wd U → (Cond.fieldLink RX3 145 (TX3 6).1 (TX3 6).2.1 (TX3 6).2.2.1).before a U = true := fun a U h => h.use a 153 (by decide +kernel) (by decide +kernel)
theorem fl_X3_15 : ∀ (a : Array Value) (U : State), Wd U → (Cond.fieldLink RX3 15 (TX3 1).1 (TX3 1).2.1 (TX3 1).2.2.1).before a U = true := fun a U h => h.use a 148 (by decide +kernel) (by decide +kernel)
theorem th_X3_148_152 : ∀ (a : Array Value) (U : State), Wd U → (Cond.classLink RX3 148 (en 1)).before a U = true ∧ (Cond.initialized (en 1)).before a U = true ∧ ∀ w ∈ vx_atS RX3 152 (en 1) ["java/lang/RuntimeException", "java/lang/Exception"], w.before a U = true := fun a U h => ⟨h.use a 372 (by decide +kernel) (by decide +kernel), h.use a 32 (by decide +kernel) (by decide +kernel), wd_list (by decide +kernel) a U h⟩
theorem th_X3_148_152_g : ∀ w ∈ Cond.classLink RX3 148 (en 1) :: Cond.initialized (en 1) :: vx_atS RX3 152 (en 1) ["java/lang/RuntimeException", "java/lang/Exception"], vx_ot w = true := by decide +kernel
theorem fl_X0_21 : ∀ (a : Array Value) (U : State), Wd U → (Cond.fieldLink RX0 21 (TX0 3).1 (TX0 3).2.1 (TX0 3).2.2.1).before a U = true := fun a U h => h.use a 56 (by decide +kernel) (by decide +kernel)
theorem fl_X0_9 : ∀ (a : Array Value) (U : State), Wd U → (Cond.fieldLink RX0 9 (TX0 0).1 (TX0 0).2.1 (TX0 0).2.2.1).before a U = true := fun a U h => h.use a 50 (by decide +kernel) (by decide +kernel)
theorem fl_X0_15 : ∀ (a : Array Value) (U : State), Wd U → (Cond.fieldLink RX0 15 (TX0 1).1 (TX0 1).2.1 (TX0 1).2.2.1).before a U = true := fun a U h => h.use a 52 (by decide +kernel) (by decide +kernel)
theorem fl_X0_18 : ∀ (a : Array Value) (U : State), Wd U → (Cond.fieldLink RX0 18 (TX0 2).1 (TX0 2).2.1 (TX0 2).2.2.1).before a U = true := fun a U h => h.use a 54 (by decide +kernel) (by decide +kernel)
theorem fl_X0_51 : ∀ (a : Array Value) (U : State), Wd U → (Cond.fieldLink RX0 51 (TX0 5).1 (TX0 5).2.1 (TX0 5).2.2.1).before a U = true := fun a U h => h.use a 59 (by decide +kernel) (by decide +kernel)
theorem fl_X0_25 : ∀ (a : Array Value) (U : State), Wd U → (Cond.fieldLink RX0 25 (TX0 4).1 (TX0 4).2.1 (TX0 4).2.2.1).before a U = true := fun a U h => h.use a 58 (by decide +kernel) (by decide +kernel)
theorem lk_X0_55 : ∀ (a : Array Value) (U : State), Wd U → (Cond.methodLink RX0 55 Lib.Math.abs.name).before a U = true ∧ (Cond.static Lib.Math.abs.name).before a U = true ∧ (Cond.initialized "java/lang/Math").before a U = true ∧ (Cond.code Lib.Math.abs.name Lib.Math.abs.code 1 (some .int)).before a U = true := fun a U h => ⟨h.use a 431 (by decide +kernel) (by decide +kernel), h.use a 432 (by decide +kernel) (by decide +kernel), h.use a 33 (by decide +kernel) (by decide +kernel), h.use a 433 (by decide +kernel) (by decide +kernel)⟩
theorem yf_X0_takeLetter : YF yX0_takeLetter 1 := ⟨⟨by decide +kernel, by decide +kernel⟩, by decide +kernel⟩
theorem me_X0_takeLetter : MeV yX0_takeLetter cX0_takeLetter 2 (some .boolean) := fun a U h => ⟨h.use a 409 (by decide +kernel) (by decide +kernel), h.use a 5 (by decide +kernel) (by decide +kernel), h.use a 23 (by decide +kernel) (by decide +kernel), h.use a 410 (by decide +kernel) (by decide +kernel)⟩
theorem lk_X0_32 : Lk RX0 32 yX0_takeLetter := fun a U h => h.use a 407 (by decide +kernel) (by decide +kernel)
theorem yf_X0_takeSign : YF yX0_takeSign 1 := ⟨⟨by decide +kernel, by decide +kernel⟩, by decide +kernel⟩
theorem me_X0_takeSign : MeV yX0_takeSign cX0_takeSign 2 (some .boolean) := fun a U h => ⟨h.use a 413 (by decide +kernel) (by decide +kernel), h.use a 6 (by decide +kernel) (by decide +kernel), h.use a 23 (by decide +kernel) (by decide +kernel), h.use a 414 (by decide +kernel) (by decide +kernel)⟩
theorem lk_X0_35 : Lk RX0 35 yX0_takeSign := fun a U h => h.use a 411 (by decide +kernel) (by decide +kernel)
theorem yf_X0_takeMinus : YF yX0_takeMinus 1 := ⟨⟨by decide +kernel, by decide +kernel⟩, by decide +kernel⟩
theorem me_X0_takeMinus : MeV yX0_takeMinus cX0_takeMinus 2 (some .boolean) := fun a U h => ⟨h.use a 417 (by decide +kernel) (by decide +kernel), h.use a 7 (by decide +kernel) (by decide +kernel), h.use a 23 (by decide +kernel) (by decide +kernel), h.use a 418 (by decide +kernel) (by decide +kernel)⟩
theorem lk_X0_38 : Lk RX0 38 yX0_takeMinus := fun a U h => h.use a 415 (by decide +kernel) (by decide +kernel)
theorem yf_X0_takeDigit : YF yX0_takeDigit 1 := ⟨⟨by decide +kernel, by decide +kernel⟩, by decide +kernel⟩
theorem me_X0_takeDigit : MeV yX0_takeDigit cX0_takeDigit 3 (some .boolean) := fun a U h => ⟨h.use a 421 (by decide +kernel) (by decide +kernel), h.use a 8 (by decide +kernel) (by decide +kernel), h.use a 23 (by decide +kernel) (by decide +kernel), h.use a 422 (by decide +kernel) (by decide +kernel)⟩
theorem lk_X0_41 : Lk RX0 41 yX0_takeDigit := fun a U h => h.use a 419 (by decide +kernel) (by decide +kernel)
theorem yf_X0_takeAnd : YF yX0_takeAnd 1 := ⟨⟨by decide +kernel, by decide +kernel⟩, by decide +kernel⟩
theorem me_X0_takeAnd : MeV yX0_takeAnd cX0_takeAnd 2 (some .boolean) := fun a U h => ⟨h.use a 425 (by decide +kernel) (by decide +kernel), h.use a 9 (by decide +kernel) (by decide +kernel), h.use a 23 (by decide +kernel) (by decide +kernel), h.use a 426 (by decide +kernel) (by decide +kernel)⟩
theorem lk_X0_44 : Lk RX0 44 yX0_takeAnd := fun a U h => h.use a 423 (by decide +kernel) (by decide +kernel)
theorem yf_X0_mayGrow : YF yX0_mayGrow 0 := ⟨⟨by decide +kernel, by decide +kernel⟩, by decide +kernel⟩
theorem me_X0_mayGrow : MeV yX0_mayGrow cX0_mayGrow 2 (some .boolean) := fun a U h => ⟨h.use a 429 (by decide +kernel) (by decide +kernel), h.use a 10 (by decide +kernel) (by decide +kernel), h.use a 23 (by decide +kernel) (by decide +kernel), h.use a 430 (by decide +kernel) (by decide +kernel)⟩
theorem lk_X0_47 : Lk RX0 47 yX0_mayGrow := fun a U h => h.use a 427 (by decide +kernel) (by decide +kernel)
theorem yf_X0_take : YF yX0_take 1 := ⟨⟨by decide +kernel, by decide +kernel⟩, by decide +kernel⟩
theorem me_X0_take : MeV yX0_take cX0_take 2 (some .boolean) := fun a U h => ⟨h.use a 405 (by decide +kernel) (by decide +kernel), h.use a 4 (by decide +kernel) (by decide +kernel), h.use a 23 (by decide +kernel) (by decide +kernel), h.use a 406 (by decide +kernel) (by decide +kernel)⟩
theorem lk_X0_28 : Lk RX0 28 yX0_take := fun a U h => h.use a 403 (by decide +kernel) (by decide +kernel)
theorem fl_X3_22 : ∀ (a : Array Value) (U : State), Wd U → (Cond.fieldLink RX3 22 (TX3 2).1 (TX3 2).2.1 (TX3 2).2.2.1).before a U = true := fun a U h => h.use a 149 (by decide +kernel) (by decide +kernel)
theorem yf_X0_read : YF yX0_read 2 := ⟨⟨by decide +kernel, by decide +kernel⟩, by decide +kernel⟩
theorem me_X0_read : MeV yX0_read cX0_read 4 (some .int) := fun a U h => ⟨h.use a 400 (by decide +kernel) (by decide +kernel), h.use a 401 (by decide +kernel) (by decide +kernel), h.use a 23 (by decide +kernel) (by decide +kernel), h.use a 402 (by decide +kernel) (by decide +kernel)⟩
theorem lk_X3_155 : Lk RX3 155 yX0_read := fun a U h => h.use a 399 (by decide +kernel) (by decide +kernel)
theorem yf_X0_isWhole : YF yX0_isWhole 0 := ⟨⟨by decide +kernel, by decide +kernel⟩, by decide +kernel⟩
theorem me_X0_isWhole : MeV yX0_isWhole cX0_isWhole 1 (some .boolean) := fun a U h => ⟨h.use a 435 (by decide +kernel) (by decide +kernel), h.use a 436 (by decide +kernel) (by decide +kernel), h.use a 23 (by decide +kernel) (by decide +kernel), h.use a 437 (by decide +kernel) (by decide +kernel)⟩
theorem lk_X3_280 : Lk RX3 280 yX0_isWhole := fun a U h => h.use a 434 (by decide +kernel) (by decide +kernel)
theorem fl_X3_287 : ∀ (a : Array Value) (U : State), Wd U → (Cond.fieldLink RX3 287 (TX0 3).1 (TX0 3).2.1 (TX0 3).2.2.1).before a U = true := fun a U h => h.use a 57 (by decide +kernel) (by decide +kernel)
theorem fl_X3_290 : ∀ (a : Array Value) (U : State), Wd U → (Cond.fieldLink RX3 290 (TX0 0).1 (TX0 0).2.1 (TX0 0).2.2.1).before a U = true := fun a U h => h.use a 51 (by decide +kernel) (by decide +kernel)
theorem yf_X2_columnOf : YF yX2_columnOf 1 := ⟨⟨by decide +kernel, by decide +kernel⟩, by decide +kernel⟩
theorem me_X2_columnOf : MeV yX2_columnOf cX2_columnOf 3 (some .int) := fun a U h => ⟨h.use a 447 (by decide +kernel) (by decide +kernel), h.use a 448 (by decide +kernel) (by decide +kernel), h.use a 25 (by decide +kernel) (by decide +kernel), h.use a 449 (by decide +kernel) (by decide +kernel)⟩
theorem lk_X3_67 : Lk RX3 67 yX2_columnOf := fun a U h => h.use a 446 (by decide +kernel) (by decide +kernel)
theorem yf_X0_allows : YF yX0_allows 2 := ⟨⟨by decide +kernel, by decide +kernel⟩, by decide +kernel⟩
theorem me_X0_allows : MeV yX0_allows cX0_allows 3 (some .boolean) := fun a U h => ⟨h.use a 451 (by decide +kernel) (by decide +kernel), h.use a 452 (by decide +kernel) (by decide +kernel), h.use a 23 (by decide +kernel) (by decide +kernel), h.use a 453 (by decide +kernel) (by decide +kernel)⟩
theorem lk_X3_291 : Lk RX3 291 yX0_allows := fun a U h => h.use a 450 (by decide +kernel) (by decide +kernel)
theorem yf_X3_isAnswer : YF yX3_isAnswer 2 := ⟨⟨by decide +kernel, by decide +kernel⟩, by decide +kernel⟩
theorem me_X3_isAnswer : MeV yX3_isAnswer cX3_isAnswer 5 (some .boolean) := fun a U h => ⟨h.use a 444 (by decide +kernel) (by decide +kernel), h.use a 12 (by decide +kernel) (by decide +kernel), h.use a 22 (by decide +kernel) (by decide +kernel), h.use a 445 (by decide +kernel) (by decide +kernel)⟩
theorem lk_X3_283 : Lk RX3 283 yX3_isAnswer := fun a U h => h.use a 442 (by decide +kernel) (by decide +kernel)
theorem fl_X3_26 : ∀ (a : Array Value) (U : State), Wd U → (Cond.fieldLink RX3 26 (TX3 3).1 (TX3 3).2.1 (TX3 3).2.2.1).before a U = true := fun a U h => h.use a 150 (by decide +kernel) (by decide +kernel)
theorem yf_X3_comesBefore : YF yX3_comesBefore 3 := ⟨⟨by decide +kernel, by decide +kernel⟩, by decide +kernel⟩
theorem me_X3_comesBefore : MeV yX3_comesBefore cX3_comesBefore 6 (some .boolean) := fun a U h => ⟨h.use a 460 (by decide +kernel) (by decide +kernel), h.use a 14 (by decide +kernel) (by decide +kernel), h.use a 22 (by decide +kernel) (by decide +kernel), h.use a 461 (by decide +kernel) (by decide +kernel)⟩
theorem lk_X3_294 : Lk RX3 294 yX3_comesBefore := fun a U h => h.use a 458 (by decide +kernel) (by decide +kernel)
theorem yf_X3_readQuestion : YF yX3_readQuestion 0 := ⟨⟨by decide +kernel, by decide +kernel⟩, by decide +kernel⟩
theorem me_X3_readQuestion : MeV yX3_readQuestion cX3_readQuestion 1 (some .boolean) := fun a U h => ⟨h.use a 397 (by decide +kernel) (by decide +kernel), h.use a 3 (by decide +kernel) (by decide +kernel), h.use a 22 (by decide +kernel) (by decide +kernel), h.use a 398 (by decide +kernel) (by decide +kernel)⟩
theorem lk_X3_159 : Lk RX3 159 yX3_readQuestion := fun a U h => h.use a 395 (by decide +kernel) (by decide +kernel)
theorem yf_X3_collectAnswers : YF yX3_collectAnswers 1 := ⟨⟨by decide +kernel, by decide +kernel⟩, by decide +kernel⟩
theorem me_X3_collectAnswers : MeV yX3_collectAnswers cX3_collectAnswers 4 (some .int) := fun a U h => ⟨h.use a 440 (by decide +kernel) (by decide +kernel), h.use a 11 (by decide +kernel) (by decide +kernel), h.use a 22 (by decide +kernel) (by decide +kernel), h.use a 441 (by decide +kernel) (by decide +kernel)⟩
theorem lk_X3_163 : Lk RX3 163 yX3_collectAnswers := fun a U h => h.use a 438 (by decide +kernel) (by decide +kernel)
theorem yf_X3_answerAt : YF yX3_answerAt 2 := ⟨⟨by decide +kernel, by decide +kernel⟩, by decide +kernel⟩
theorem me_X3_answerAt : MeV yX3_answerAt cX3_answerAt 3 (some .int) := fun a U h => ⟨h.use a 464 (by decide +kernel) (by decide +kernel), h.use a 15 (by decide +kernel) (by decide +kernel), h.use a 22 (by decide +kernel) (by decide +kernel), h.use a 465 (by decide +kernel) (by decide +kernel)⟩
theorem lk_X3_201 : Lk RX3 201 yX3_answerAt := fun a U h => h.use a 462 (by decide +kernel) (by decide +kernel)
theorem yf_X3_sortAnswers : YF yX3_sortAnswers 2 := ⟨⟨by decide +kernel, by decide +kernel⟩, by decide +kernel⟩
theorem me_X3_sortAnswers : MeV yX3_sortAnswers cX3_sortAnswers 6 none := fun a U h => ⟨h.use a 456 (by decide +kernel) (by decide +kernel), h.use a 13 (by decide +kernel) (by decide +kernel), h.use a 22 (by decide +kernel) (by decide +kernel), h.use a 457 (by decide +kernel) (by decide +kernel)⟩
theorem lk_X3_197 : Lk RX3 197 yX3_sortAnswers := fun a U h => h.use a 454 (by decide +kernel) (by decide +kernel)
theorem yf_X3_isLetter : YF yX3_isLetter 1 := ⟨⟨by decide +kernel, by decide +kernel⟩, by decide +kernel⟩
theorem me_X3_isLetter : MeS yX3_isLetter cX3_isLetter 1 (some .boolean) := fun a U h => ⟨h.use a 393 (by decide +kernel) (by decide +kernel), h.use a 22 (by decide +kernel) (by decide +kernel), h.use a 394 (by decide +kernel) (by decide +kernel)⟩
theorem lk_X3_38 : Lk RX3 38 yX3_isLetter := fun a U h => h.use a 392 (by decide +kernel) (by decide +kernel)
theorem fl_X3_298 : ∀ (a : Array Value) (U : State), Wd U → (Cond.fieldLink RX3 298 (TX0 1).1 (TX0 1).2.1 (TX0 1).2.2.1).before a U = true := fun a U h => h.use a 53 (by decide +kernel) (by decide +kernel)
theorem fl_X3_301 : ∀ (a : Array Value) (U : State), Wd U → (Cond.fieldLink RX3 301 (TX0 2).1 (TX0 2).2.1 (TX0 2).2.2.1).before a U = true := fun a U h => h.use a 55 (by decide +kernel) (by decide +kernel)
theorem lk_X3_304 : Lk RX3 304 yX1_rowsWith := fun a U h => h.use a 474 (by decide +kernel) (by decide +kernel)
theorem lk_X3_307 : ∀ (a : Array Value) (U : State), Wd U → (Cond.methodLink RX3 307 Lib.Math.min.name).before a U = true ∧ (Cond.static Lib.Math.min.name).before a U = true ∧ (Cond.initialized "java/lang/Math").before a U = true ∧ (Cond.code Lib.Math.min.name Lib.Math.min.code 2 (some .int)).before a U = true := fun a U h => ⟨h.use a 475 (by decide +kernel) (by decide +kernel), h.use a 476 (by decide +kernel) (by decide +kernel), h.use a 33 (by decide +kernel) (by decide +kernel), h.use a 477 (by decide +kernel) (by decide +kernel)⟩
theorem yf_X3_rowsToLookAt : YF yX3_rowsToLookAt 3 := ⟨⟨by decide +kernel, by decide +kernel⟩, by decide +kernel⟩
theorem me_X3_rowsToLookAt : MeV yX3_rowsToLookAt cX3_rowsToLookAt 9 (some .int) := fun a U h => ⟨h.use a 472 (by decide +kernel) (by decide +kernel), h.use a 16 (by decide +kernel) (by decide +kernel), h.use a 22 (by decide +kernel) (by decide +kernel), h.use a 473 (by decide +kernel) (by decide +kernel)⟩
theorem lk_X3_172 : Lk RX3 172 yX3_rowsToLookAt := fun a U h => h.use a 470 (by decide +kernel) (by decide +kernel)
theorem fl_X2_15 : ∀ (a : Array Value) (U : State), Wd U → (Cond.fieldLink RX2 15 (TX2 1).1 (TX2 1).2.1 (TX2 1).2.2.1).before a U = true := fun a U h => h.use a 89 (by decide +kernel) (by decide +kernel)
theorem fl_X2_18 : ∀ (a : Array Value) (U : State), Wd U → (Cond.fieldLink RX2 18 (TX2 2).1 (TX2 2).2.1 (TX2 2).2.2.1).before a U = true := fun a U h => h.use a 91 (by decide +kernel) (by decide +kernel)
theorem fl_X2_22 : ∀ (a : Array Value) (U : State), Wd U → (Cond.fieldLink RX2 22 (TX2 3).1 (TX2 3).2.1 (TX2 3).2.2.1).before a U = true := fun a U h => h.use a 94 (by decide +kernel) (by decide +kernel)
theorem fl_X2_26 : ∀ (a : Array Value) (U : State), Wd U → (Cond.fieldLink RX2 26 (TX2 4).1 (TX2 4).2.1 (TX2 4).2.2.1).before a U = true := fun a U h => h.use a 96 (by decide +kernel) (by decide +kernel)
theorem fl_X2_33 : ∀ (a : Array Value) (U : State), Wd U → (Cond.fieldLink RX2 33 (TX2 5).1 (TX2 5).2.1 (TX2 5).2.2.1).before a U = true := fun a U h => h.use a 98 (by decide +kernel) (by decide +kernel)
theorem fl_X2_37 : ∀ (a : Array Value) (U : State), Wd U → (Cond.fieldLink RX2 37 (TX2 6).1 (TX2 6).2.1 (TX2 6).2.2.1).before a U = true := fun a U h => h.use a 101 (by decide +kernel) (by decide +kernel)
theorem fl_X2_40 : ∀ (a : Array Value) (U : State), Wd U → (Cond.fieldLink RX2 40 (TX2 7).1 (TX2 7).2.1 (TX2 7).2.2.1).before a U = true := fun a U h => h.use a 103 (by decide +kernel) (by decide +kernel)
theorem fl_X2_43 : ∀ (a : Array Value) (U : State), Wd U → (Cond.fieldLink RX2 43 (TX2 8).1 (TX2 8).2.1 (TX2 8).2.2.1).before a U = true := fun a U h => h.use a 105 (by decide +kernel) (by decide +kernel)
theorem fl_X2_46 : ∀ (a : Array Value) (U : State), Wd U → (Cond.fieldLink RX2 46 (TX2 9).1 (TX2 9).2.1 (TX2 9).2.2.1).before a U = true := fun a U h => h.use a 107 (by decide +kernel) (by decide +kernel)
theorem yf_X2_define : YF yX2_define 4 := ⟨⟨by decide +kernel, by decide +kernel⟩, by decide +kernel⟩
theorem me_X2_define : MeV yX2_define cX2_define 5 none := fun a U h => ⟨h.use a 495 (by decide +kernel) (by decide +kernel), h.use a 496 (by decide +kernel) (by decide +kernel), h.use a 25 (by decide +kernel) (by decide +kernel), h.use a 497 (by decide +kernel) (by decide +kernel)⟩
theorem lk_X2_29 : Lk RX2 29 yX2_define := fun a U h => h.use a 494 (by decide +kernel) (by decide +kernel)
theorem lk_X1_33 : ∀ (a : Array Value) (U : State), Wd U → (Cond.methodLink RX1 33 arraycopyName).before a U = true ∧ (Cond.native arraycopyName).before a U = true ∧ (Cond.static arraycopyName).before a U = true ∧ (Cond.initialized "java/lang/System").before a U = true := fun a U h => ⟨h.use a 498 (by decide +kernel) (by decide +kernel), h.use a 500 (by decide +kernel) (by decide +kernel), h.use a 499 (by decide +kernel) (by decide +kernel), h.use a 30 (by decide +kernel) (by decide +kernel)⟩
theorem yf_X2_copyFrom : YF yX2_copyFrom 1 := ⟨⟨by decide +kernel, by decide +kernel⟩, by decide +kernel⟩
theorem me_X2_copyFrom : MeV yX2_copyFrom cX2_copyFrom 3 none := fun a U h => ⟨h.use a 491 (by decide +kernel) (by decide +kernel), h.use a 492 (by decide +kernel) (by decide +kernel), h.use a 25 (by decide +kernel) (by decide +kernel), h.use a 493 (by decide +kernel) (by decide +kernel)⟩
theorem lk_X1_25 : Lk RX1 25 yX2_copyFrom := fun a U h => h.use a 490 (by decide +kernel) (by decide +kernel)
theorem fl_X3_11 : ∀ (a : Array Value) (U : State), Wd U → (Cond.fieldLink RX3 11 (TX3 0).1 (TX3 0).2.1 (TX3 0).2.2.1).before a U = true := fun a U h => h.use a 147 (by decide +kernel) (by decide +kernel)
theorem yf_X1_copyFrom : YF yX1_copyFrom 1 := ⟨⟨by decide +kernel, by decide +kernel⟩, by decide +kernel⟩
theorem me_X1_copyFrom : MeV yX1_copyFrom cX1_copyFrom 3 none := fun a U h => ⟨h.use a 487 (by decide +kernel) (by decide +kernel), h.use a 488 (by decide +kernel) (by decide +kernel), h.use a 24 (by decide +kernel) (by decide +kernel), h.use a 489 (by decide +kernel) (by decide +kernel)⟩
theorem lk_X3_277 : Lk RX3 277 yX1_copyFrom := fun a U h => h.use a 486 (by decide +kernel) (by decide +kernel)
theorem yf_X3_save : YF yX3_save 0 := ⟨⟨by decide +kernel, by decide +kernel⟩, by decide +kernel⟩
theorem me_X3_save : MeV yX3_save cX3_save 3 (some (.object RX1)) := fun a U h => ⟨h.use a 484 (by decide +kernel) (by decide +kernel), h.use a 17 (by decide +kernel) (by decide +kernel), h.use a 22 (by decide +kernel) (by decide +kernel), h.use a 485 (by decide +kernel) (by decide +kernel)⟩
theorem lk_X3_45 : Lk RX3 45 yX3_save := fun a U h => h.use a 482 (by decide +kernel) (by decide +kernel)
theorem yf_X3_bestLetter : YF yX3_bestLetter 1 := ⟨⟨by decide +kernel, by decide +kernel⟩, by decide +kernel⟩
theorem me_X3_bestLetter : MeV yX3_bestLetter cX3_bestLetter 9 (some .int) := fun a U h => ⟨h.use a 507 (by decide +kernel) (by decide +kernel), h.use a 18 (by decide +kernel) (by decide +kernel), h.use a 22 (by decide +kernel) (by decide +kernel), h.use a 508 (by decide +kernel) (by decide +kernel)⟩
theorem lk_X3_219 : Lk RX3 219 yX3_bestLetter := fun a U h => h.use a 505 (by decide +kernel) (by decide +kernel)
theorem lk_X3_70 : Lk RX3 70 yX2_define := fun a U h => h.use a 524 (by decide +kernel) (by decide +kernel)
theorem yf_X2_refuse : YF yX2_refuse 1 := ⟨⟨by decide +kernel, by decide +kernel⟩, by decide +kernel⟩
theorem me_X2_refuse : MeV yX2_refuse cX2_refuse 2 (some .int) := fun a U h => ⟨h.use a 521 (by decide +kernel) (by decide +kernel), h.use a 522 (by decide +kernel) (by decide +kernel), h.use a 25 (by decide +kernel) (by decide +kernel), h.use a 523 (by decide +kernel) (by decide +kernel)⟩
theorem lk_X3_63 : Lk RX3 63 yX2_refuse := fun a U h => h.use a 520 (by decide +kernel) (by decide +kernel)
theorem yf_X1_setValue : YF yX1_setValue 3 := ⟨⟨by decide +kernel, by decide +kernel⟩, by decide +kernel⟩
theorem me_X1_setValue : MeV yX1_setValue cX1_setValue 4 none := fun a U h => ⟨h.use a 534 (by decide +kernel) (by decide +kernel), h.use a 535 (by decide +kernel) (by decide +kernel), h.use a 24 (by decide +kernel) (by decide +kernel), h.use a 536 (by decide +kernel) (by decide +kernel)⟩
theorem lk_X1_44 : Lk RX1 44 yX1_setValue := fun a U h => h.use a 533 (by decide +kernel) (by decide +kernel)
theorem yf_X1_shiftValues : YF yX1_shiftValues 3 := ⟨⟨by decide +kernel, by decide +kernel⟩, by decide +kernel⟩
theorem me_X1_shiftValues : MeV yX1_shiftValues cX1_shiftValues 5 none := fun a U h => ⟨h.use a 530 (by decide +kernel) (by decide +kernel), h.use a 531 (by decide +kernel) (by decide +kernel), h.use a 24 (by decide +kernel) (by decide +kernel), h.use a 532 (by decide +kernel) (by decide +kernel)⟩
theorem lk_X3_78 : Lk RX3 78 yX1_shiftValues := fun a U h => h.use a 529 (by decide +kernel) (by decide +kernel)
theorem yf_X2_makeSpare : YF yX2_makeSpare 1 := ⟨⟨by decide +kernel, by decide +kernel⟩, by decide +kernel⟩
theorem me_X2_makeSpare : MeV yX2_makeSpare cX2_makeSpare 2 none := fun a U h => ⟨h.use a 538 (by decide +kernel) (by decide +kernel), h.use a 539 (by decide +kernel) (by decide +kernel), h.use a 25 (by decide +kernel) (by decide +kernel), h.use a 540 (by decide +kernel) (by decide +kernel)⟩
theorem lk_X3_82 : Lk RX3 82 yX2_makeSpare := fun a U h => h.use a 537 (by decide +kernel) (by decide +kernel)
theorem yf_X1_tableOf : YF yX1_tableOf 1 := ⟨⟨by decide +kernel, by decide +kernel⟩, by decide +kernel⟩
theorem me_X1_tableOf : MeV yX1_tableOf cX1_tableOf 2 (some .int) := fun a U h => ⟨h.use a 559 (by decide +kernel) (by decide +kernel), h.use a 19 (by decide +kernel) (by decide +kernel), h.use a 24 (by decide +kernel) (by decide +kernel), h.use a 560 (by decide +kernel) (by decide +kernel)⟩
theorem lk_X1_48 : Lk RX1 48 yX1_tableOf := fun a U h => h.use a 557 (by decide +kernel) (by decide +kernel)
theorem yf_X1_insertRow : YF yX1_insertRow 1 := ⟨⟨by decide +kernel, by decide +kernel⟩, by decide +kernel⟩
theorem me_X1_insertRow : MeV yX1_insertRow cX1_insertRow 4 (some .int) := fun a U h => ⟨h.use a 554 (by decide +kernel) (by decide +kernel), h.use a 555 (by decide +kernel) (by decide +kernel), h.use a 24 (by decide +kernel) (by decide +kernel), h.use a 556 (by decide +kernel) (by decide +kernel)⟩
theorem lk_X3_113 : Lk RX3 113 yX1_insertRow := fun a U h => h.use a 553 (by decide +kernel) (by decide +kernel)
theorem lk_X3_119 : Lk RX3 119 yX1_ownerOf := fun a U h => h.use a 565 (by decide +kernel) (by decide +kernel)
theorem yf_X3_fits : YF yX3_fits 2 := ⟨⟨by decide +kernel, by decide +kernel⟩, by decide +kernel⟩
theorem me_X3_fits : MeS yX3_fits cX3_fits 2 (some .boolean) := fun a U h => ⟨h.use a 567 (by decide +kernel) (by decide +kernel), h.use a 22 (by decide +kernel) (by decide +kernel), h.use a 568 (by decide +kernel) (by decide +kernel)⟩
theorem lk_X3_123 : Lk RX3 123 yX3_fits := fun a U h => h.use a 566 (by decide +kernel) (by decide +kernel)
theorem lk_X3_131 : Lk RX3 131 yX1_setValue := fun a U h => h.use a 569 (by decide +kernel) (by decide +kernel)
theorem yf_X1_copyRow : YF yX1_copyRow 3 := ⟨⟨by decide +kernel, by decide +kernel⟩, by decide +kernel⟩
theorem me_X1_copyRow : MeV yX1_copyRow cX1_copyRow 4 none := fun a U h => ⟨h.use a 580 (by decide +kernel) (by decide +kernel), h.use a 20 (by decide +kernel) (by decide +kernel), h.use a 24 (by decide +kernel) (by decide +kernel), h.use a 581 (by decide +kernel) (by decide +kernel)⟩
theorem lk_X1_52 : Lk RX1 52 yX1_copyRow := fun a U h => h.use a 578 (by decide +kernel) (by decide +kernel)
theorem yf_X1_removeRows : YF yX1_removeRows 2 := ⟨⟨by decide +kernel, by decide +kernel⟩, by decide +kernel⟩
theorem me_X1_removeRows : MeV yX1_removeRows cX1_removeRows 6 none := fun a U h => ⟨h.use a 575 (by decide +kernel) (by decide +kernel), h.use a 576 (by decide +kernel) (by decide +kernel), h.use a 24 (by decide +kernel) (by decide +kernel), h.use a 577 (by decide +kernel) (by decide +kernel)⟩
theorem lk_X3_137 : Lk RX3 137 yX1_removeRows := fun a U h => h.use a 574 (by decide +kernel) (by decide +kernel)
theorem yf_X1_orderRowsOf : YF yX1_orderRowsOf 1 := ⟨⟨by decide +kernel, by decide +kernel⟩, by decide +kernel⟩
theorem me_X1_orderRowsOf : MeV yX1_orderRowsOf cX1_orderRowsOf 4 none := fun a U h => ⟨h.use a 587 (by decide +kernel) (by decide +kernel), h.use a 588 (by decide +kernel) (by decide +kernel), h.use a 24 (by decide +kernel) (by decide +kernel), h.use a 589 (by decide +kernel) (by decide +kernel)⟩
theorem lk_X3_141 : Lk RX3 141 yX1_orderRowsOf := fun a U h => h.use a 586 (by decide +kernel) (by decide +kernel)
