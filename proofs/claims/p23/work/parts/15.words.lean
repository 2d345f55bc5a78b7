theorem cs_tables_1_1 : ∀ w ∈ tables_1_1, w ∈ lw_tbl := fun w h => (List.mem_append_right _ (List.mem_append_left _ h) : w ∈ k2_sels lw_privs ++ (tables_1_1 ++ (tables_1_2 ++ (tables_1_3 ++ (tables_1_4 ++ (tables_1_5 ++ (tables_1_6)))))))
theorem cs_tables_1_2 : ∀ w ∈ tables_1_2, w ∈ lw_tbl := fun w h => (List.mem_append_right _ (List.mem_append_right _ (List.mem_append_left _ h)) : w ∈ k2_sels lw_privs ++ (tables_1_1 ++ (tables_1_2 ++ (tables_1_3 ++ (tables_1_4 ++ (tables_1_5 ++ (tables_1_6)))))))
theorem cs_tables_1_3 : ∀ w ∈ tables_1_3, w ∈ lw_tbl := fun w h => (List.mem_append_right _ (List.mem_append_right _ (List.mem_append_right _ (List.mem_append_left _ h))) : w ∈ k2_sels lw_privs ++ (tables_1_1 ++ (tables_1_2 ++ (tables_1_3 ++ (tables_1_4 ++ (tables_1_5 ++ (tables_1_6)))))))
theorem cs_tables_1_4 : ∀ w ∈ tables_1_4, w ∈ lw_tbl := fun w h => (List.mem_append_right _ (List.mem_append_right _ (List.mem_append_right _ (List.mem_append_right _ (List.mem_append_left _ h)))) : w ∈ k2_sels lw_privs ++ (tables_1_1 ++ (tables_1_2 ++ (tables_1_3 ++ (tables_1_4 ++ (tables_1_5 ++ (tables_1_6)))))))
theorem cs_tables_1_5 : ∀ w ∈ tables_1_5, w ∈ lw_tbl := fun w h => (List.mem_append_right _ (List.mem_append_right _ (List.mem_append_right _ (List.mem_append_right _ (List.mem_append_right _ (List.mem_append_left _ h))))) : w ∈ k2_sels lw_privs ++ (tables_1_1 ++ (tables_1_2 ++ (tables_1_3 ++ (tables_1_4 ++ (tables_1_5 ++ (tables_1_6)))))))
theorem cs_tables_1_6 : ∀ w ∈ tables_1_6, w ∈ lw_tbl := fun w h => (List.mem_append_right _ (List.mem_append_right _ (List.mem_append_right _ (List.mem_append_right _ (List.mem_append_right _ (List.mem_append_right _ (h)))))) : w ∈ k2_sels lw_privs ++ (tables_1_1 ++ (tables_1_2 ++ (tables_1_3 ++ (tables_1_4 ++ (tables_1_5 ++ (tables_1_6)))))))
theorem tT_in {l : List Cond} (hs : ∀ w ∈ l, w ∈ lw_tbl) (i : Nat) {w : Cond} (h : l[i]? = some w) (hg : goodWord w = true) : w ∈ tT := List.mem_filter.mpr ⟨hs _ (List.mem_of_getElem? h), hg⟩
theorem tN_in {l : List Cond} (hs : ∀ w ∈ l, w ∈ lw_tbl) (i : Nat) {w : Cond} (h : l[i]? = some w) (hg : isNest w = true) : w ∈ tN := List.mem_filter.mpr ⟨hs _ (List.mem_of_getElem? h), hg⟩
theorem w_232 : Cond.methodLink RX0 3 objectInit ∈ tT := tT_in (cs_tables_1_1) 161 (by decide +kernel) rfl
theorem w_99 : Cond.instanceMethod objectInit ∈ tT := tT_in (cs_tables_1_1) 28 (by decide +kernel) rfl
theorem w_100 : Cond.code objectInit ⟨#[0xb1]⟩ 1 none ∈ tT := tT_in (cs_tables_1_1) 29 (by decide +kernel) rfl
theorem w_145 : Cond.arrayClass .int ∈ tT := tT_in (cs_tables_1_1) 74 (by decide +kernel) rfl
theorem w_233 : Cond.fieldLink RX0 9 (TX0 0).1 (TX0 0).2.1 (TX0 0).2.2.1 ∈ tT := tT_in (cs_tables_1_1) 162 (by decide +kernel) rfl
theorem w_236 : Cond.fieldLink RX0 15 (TX0 1).1 (TX0 1).2.1 (TX0 1).2.2.1 ∈ tT := tT_in (cs_tables_1_1) 165 (by decide +kernel) rfl
theorem w_239 : Cond.fieldLink RX0 18 (TX0 2).1 (TX0 2).2.1 (TX0 2).2.2.1 ∈ tT := tT_in (cs_tables_1_1) 168 (by decide +kernel) rfl
theorem w_242 : Cond.fieldLink RX0 21 (TX0 3).1 (TX0 3).2.1 (TX0 3).2.2.1 ∈ tT := tT_in (cs_tables_1_1) 171 (by decide +kernel) rfl
theorem w_401 : Cond.methodLink RX0 24 arraycopyName ∈ tT := tT_in (cs_tables_1_2) 90 (by decide +kernel) rfl
theorem w_403 : Cond.native arraycopyName ∈ tT := tT_in (cs_tables_1_2) 92 (by decide +kernel) rfl
theorem w_402 : Cond.static arraycopyName ∈ tT := tT_in (cs_tables_1_2) 91 (by decide +kernel) rfl
theorem w_81 : Cond.initialized RJ10 ∈ tT := tT_in (cs_tables_1_1) 10 (by decide +kernel) rfl
theorem w_400 : Cond.methodLink RX0 30 yJ7_fill_53178 ∈ tT := tT_in (cs_tables_1_2) 89 (by decide +kernel) rfl
theorem w_390 : Cond.static yJ7_fill_53178 ∈ tT := tT_in (cs_tables_1_2) 79 (by decide +kernel) rfl
theorem w_80 : Cond.initialized RJ7 ∈ tT := tT_in (cs_tables_1_1) 9 (by decide +kernel) rfl
theorem w_391 : Cond.code yJ7_fill_53178 cJ7_fill_53178 4 none ∈ tT := tT_in (cs_tables_1_2) 80 (by decide +kernel) rfl
theorem w_173 : Cond.fieldLink RX0 36 (TX6 5).1 (TX6 5).2.1 (TX6 5).2.2.1 ∈ tT := tT_in (cs_tables_1_1) 102 (by decide +kernel) rfl
theorem w_179 : Cond.fieldLink RX0 39 (TX6 7).1 (TX6 7).2.1 (TX6 7).2.2.1 ∈ tT := tT_in (cs_tables_1_1) 108 (by decide +kernel) rfl
theorem w_614 : Cond.methodLink RX0 42 yX0_isIn ∈ tT := tT_in (cs_tables_1_3) 63 (by decide +kernel) rfl
theorem w_615 : Cond.static yX0_isIn ∈ tT := tT_in (cs_tables_1_3) 64 (by decide +kernel) rfl
theorem w_76 : Cond.initialized RX0 ∈ tT := tT_in (cs_tables_1_1) 5 (by decide +kernel) rfl
theorem w_616 : Cond.code yX0_isIn cX0_isIn 2 (some .boolean) ∈ tT := tT_in (cs_tables_1_3) 65 (by decide +kernel) rfl
theorem w_832 : Cond.methodLink RX0 46 yX0_takeOut ∈ tT := tT_in (cs_tables_1_4) 41 (by decide +kernel) rfl
theorem w_778 : Cond.instanceMethod yX0_takeOut ∈ tT := tT_in (cs_tables_1_3) 227 (by decide +kernel) rfl
theorem w_779 : Cond.selects RX0 yX0_takeOut yX0_takeOut ∈ tT := tT_in (cs_tables_1_3) 228 (by decide +kernel) rfl
theorem w_780 : Cond.code yX0_takeOut cX0_takeOut 2 none ∈ tT := tT_in (cs_tables_1_3) 229 (by decide +kernel) rfl
theorem w_625 : Cond.methodLink RX0 50 yX0_surges ∈ tT := tT_in (cs_tables_1_3) 74 (by decide +kernel) rfl
theorem w_627 : Cond.instanceMethod yX0_surges ∈ tT := tT_in (cs_tables_1_3) 76 (by decide +kernel) rfl
theorem w_15 : Cond.selects RX0 yX0_surges yX0_surges ∈ tT := tT_at 15 (by decide +kernel) rfl
theorem w_628 : Cond.code yX0_surges cX0_surges 5 (some .boolean) ∈ tT := tT_in (cs_tables_1_3) 77 (by decide +kernel) rfl
theorem w_154 : Cond.fieldLink RX0 54 (TX6 0).1 (TX6 0).2.1 (TX6 0).2.2.1 ∈ tT := tT_in (cs_tables_1_1) 83 (by decide +kernel) rfl
theorem w_629 : Cond.methodLink RX0 57 yX0_frontLoad ∈ tT := tT_in (cs_tables_1_3) 78 (by decide +kernel) rfl
theorem w_611 : Cond.instanceMethod yX0_frontLoad ∈ tT := tT_in (cs_tables_1_3) 60 (by decide +kernel) rfl
theorem w_612 : Cond.selects RX0 yX0_frontLoad yX0_frontLoad ∈ tT := tT_in (cs_tables_1_3) 61 (by decide +kernel) rfl
theorem w_613 : Cond.code yX0_frontLoad cX0_frontLoad 6 (some .int) ∈ tT := tT_in (cs_tables_1_3) 62 (by decide +kernel) rfl
theorem w_630 : Cond.methodLink RX0 61 yX0_rearLoad ∈ tT := tT_in (cs_tables_1_3) 79 (by decide +kernel) rfl
theorem w_618 : Cond.instanceMethod yX0_rearLoad ∈ tT := tT_in (cs_tables_1_3) 67 (by decide +kernel) rfl
theorem w_619 : Cond.selects RX0 yX0_rearLoad yX0_rearLoad ∈ tT := tT_in (cs_tables_1_3) 68 (by decide +kernel) rfl
theorem w_620 : Cond.code yX0_rearLoad cX0_rearLoad 5 (some .int) ∈ tT := tT_in (cs_tables_1_3) 69 (by decide +kernel) rfl
theorem w_159 : Cond.fieldLink RX0 64 (TX6 1).1 (TX6 1).2.1 (TX6 1).2.2.1 ∈ tT := tT_in (cs_tables_1_1) 88 (by decide +kernel) rfl
theorem w_167 : Cond.fieldLink RX0 68 (TX6 3).1 (TX6 3).2.1 (TX6 3).2.2.1 ∈ tT := tT_in (cs_tables_1_1) 96 (by decide +kernel) rfl
theorem w_171 : Cond.fieldLink RX0 71 (TX6 4).1 (TX6 4).2.1 (TX6 4).2.2.1 ∈ tT := tT_in (cs_tables_1_1) 100 (by decide +kernel) rfl
theorem w_163 : Cond.fieldLink RX0 74 (TX6 2).1 (TX6 2).2.1 (TX6 2).2.2.1 ∈ tT := tT_in (cs_tables_1_1) 92 (by decide +kernel) rfl
theorem w_280 : Cond.methodLink RX1 3 objectInit ∈ tT := tT_in (cs_tables_1_1) 209 (by decide +kernel) rfl
theorem w_281 : Cond.classLink RX1 9 RX5 ∈ tT := tT_in (cs_tables_1_1) 210 (by decide +kernel) rfl
theorem w_284 : Cond.fieldLink RX1 11 (TX1 0).1 (TX1 0).2.1 (TX1 0).2.2.1 ∈ tT := tT_in (cs_tables_1_1) 213 (by decide +kernel) rfl
theorem w_222 : Cond.instantiable RX5 5 ∈ tT := tT_in (cs_tables_1_1) 151 (by decide +kernel) rfl
theorem w_75 : Cond.initialized RX5 ∈ tT := tT_in (cs_tables_1_1) 4 (by decide +kernel) rfl
theorem w_283 : Cond.methodLinkNest RX1 17 yX5_init RX7 ∈ tN := tN_in (cs_tables_1_1) 212 (by decide +kernel) rfl
theorem w_224 : Cond.instanceMethod yX5_init ∈ tT := tT_in (cs_tables_1_1) 153 (by decide +kernel) rfl
theorem w_225 : Cond.code yX5_init cX5_init 1 none ∈ tT := tT_in (cs_tables_1_1) 154 (by decide +kernel) rfl
theorem w_286 : Cond.fieldLink RX1 18 (TX1 2).1 (TX1 2).2.1 (TX1 2).2.2.1 ∈ tT := tT_in (cs_tables_1_1) 215 (by decide +kernel) rfl
theorem w_285 : Cond.fieldLink RX1 22 (TX1 1).1 (TX1 1).2.1 (TX1 1).2.2.1 ∈ tT := tT_in (cs_tables_1_1) 214 (by decide +kernel) rfl
theorem w_802 : Cond.methodLink RX1 25 yX5_copyFrom ∈ tT := tT_in (cs_tables_1_4) 11 (by decide +kernel) rfl
theorem w_803 : Cond.instanceMethod yX5_copyFrom ∈ tT := tT_in (cs_tables_1_4) 12 (by decide +kernel) rfl
theorem w_804 : Cond.selects RX5 yX5_copyFrom yX5_copyFrom ∈ tT := tT_in (cs_tables_1_4) 13 (by decide +kernel) rfl
theorem w_805 : Cond.code yX5_copyFrom cX5_copyFrom 2 none ∈ tT := tT_in (cs_tables_1_4) 14 (by decide +kernel) rfl
theorem w_808 : Cond.methodLink RX1 29 yJ9_min_7cf53 ∈ tT := tT_in (cs_tables_1_4) 17 (by decide +kernel) rfl
theorem w_769 : Cond.static yJ9_min_7cf53 ∈ tT := tT_in (cs_tables_1_3) 218 (by decide +kernel) rfl
theorem w_92 : Cond.initialized RJ9 ∈ tT := tT_in (cs_tables_1_1) 21 (by decide +kernel) rfl
theorem w_770 : Cond.code Lib.Math.min.name Lib.Math.min.code 2 (some .int) ∈ tT := tT_in (cs_tables_1_3) 219 (by decide +kernel) rfl
theorem w_302 : Cond.methodLink RX2 3 objectInit ∈ tT := tT_in (cs_tables_1_1) 231 (by decide +kernel) rfl
theorem w_304 : Cond.fieldLink RX2 9 (TX2 1).1 (TX2 1).2.1 (TX2 1).2.2.1 ∈ tT := tT_in (cs_tables_1_1) 233 (by decide +kernel) rfl
theorem w_305 : Cond.fieldLink RX2 15 (TX2 2).1 (TX2 2).2.1 (TX2 2).2.2.1 ∈ tT := tT_in (cs_tables_1_1) 234 (by decide +kernel) rfl
theorem w_306 : Cond.fieldLink RX2 18 (TX2 3).1 (TX2 3).2.1 (TX2 3).2.2.1 ∈ tT := tT_in (cs_tables_1_1) 235 (by decide +kernel) rfl
theorem w_676 : Cond.methodLink RX2 21 yX2_collect ∈ tT := tT_in (cs_tables_1_3) 125 (by decide +kernel) rfl
theorem w_678 : Cond.instanceMethod yX2_collect ∈ tT := tT_in (cs_tables_1_3) 127 (by decide +kernel) rfl
theorem w_16 : Cond.selects RX2 yX2_collect yX2_collect ∈ tT := tT_at 16 (by decide +kernel) rfl
theorem w_78 : Cond.initialized RX2 ∈ tT := tT_in (cs_tables_1_1) 7 (by decide +kernel) rfl
theorem w_679 : Cond.code yX2_collect cX2_collect 5 none ∈ tT := tT_in (cs_tables_1_3) 128 (by decide +kernel) rfl
theorem w_303 : Cond.fieldLink RX2 25 (TX2 0).1 (TX2 0).2.1 (TX2 0).2.2.1 ∈ tT := tT_in (cs_tables_1_1) 232 (by decide +kernel) rfl
theorem w_688 : Cond.methodLink RX2 29 yX2_partsOfAll ∈ tT := tT_in (cs_tables_1_3) 137 (by decide +kernel) rfl
theorem w_690 : Cond.instanceMethod yX2_partsOfAll ∈ tT := tT_in (cs_tables_1_3) 139 (by decide +kernel) rfl
theorem w_17 : Cond.selects RX2 yX2_partsOfAll yX2_partsOfAll ∈ tT := tT_at 17 (by decide +kernel) rfl
theorem w_691 : Cond.code yX2_partsOfAll cX2_partsOfAll 4 (some .int) ∈ tT := tT_in (cs_tables_1_3) 140 (by decide +kernel) rfl
theorem w_692 : Cond.methodLink RX2 33 yX0_standing ∈ tT := tT_in (cs_tables_1_3) 141 (by decide +kernel) rfl
theorem w_622 : Cond.instanceMethod yX0_standing ∈ tT := tT_in (cs_tables_1_3) 71 (by decide +kernel) rfl
theorem w_623 : Cond.selects RX0 yX0_standing yX0_standing ∈ tT := tT_in (cs_tables_1_3) 72 (by decide +kernel) rfl
theorem w_624 : Cond.code yX0_standing cX0_standing 5 (some .int) ∈ tT := tT_in (cs_tables_1_3) 73 (by decide +kernel) rfl
theorem w_693 : Cond.methodLink RX2 39 yX2_waysBehind ∈ tT := tT_in (cs_tables_1_3) 142 (by decide +kernel) rfl
theorem w_695 : Cond.instanceMethod yX2_waysBehind ∈ tT := tT_in (cs_tables_1_3) 144 (by decide +kernel) rfl
theorem w_18 : Cond.selects RX2 yX2_waysBehind yX2_waysBehind ∈ tT := tT_at 18 (by decide +kernel) rfl
theorem w_696 : Cond.code yX2_waysBehind cX2_waysBehind 4 (some .int) ∈ tT := tT_in (cs_tables_1_3) 145 (by decide +kernel) rfl
theorem w_705 : Cond.methodLink RX2 42 yX2_leastBehind ∈ tT := tT_in (cs_tables_1_3) 154 (by decide +kernel) rfl
theorem w_707 : Cond.instanceMethod yX2_leastBehind ∈ tT := tT_in (cs_tables_1_3) 156 (by decide +kernel) rfl
theorem w_19 : Cond.selects RX2 yX2_leastBehind yX2_leastBehind ∈ tT := tT_at 19 (by decide +kernel) rfl
theorem w_708 : Cond.code yX2_leastBehind cX2_leastBehind 3 (some .int) ∈ tT := tT_in (cs_tables_1_3) 157 (by decide +kernel) rfl
theorem w_680 : Cond.methodLink RX2 45 yX0_loaded ∈ tT := tT_in (cs_tables_1_3) 129 (by decide +kernel) rfl
theorem w_681 : Cond.instanceMethod yX0_loaded ∈ tT := tT_in (cs_tables_1_3) 130 (by decide +kernel) rfl
theorem w_682 : Cond.selects RX0 yX0_loaded yX0_loaded ∈ tT := tT_in (cs_tables_1_3) 131 (by decide +kernel) rfl
theorem w_683 : Cond.code yX0_loaded cX0_loaded 4 (some .int) ∈ tT := tT_in (cs_tables_1_3) 132 (by decide +kernel) rfl
theorem w_191 : Cond.fieldLink RX2 48 (TX6 11).1 (TX6 11).2.1 (TX6 11).2.2.1 ∈ tT := tT_in (cs_tables_1_1) 120 (by decide +kernel) rfl
theorem w_684 : Cond.methodLink RX2 53 yX0_partsOf ∈ tT := tT_in (cs_tables_1_3) 133 (by decide +kernel) rfl
theorem w_685 : Cond.instanceMethod yX0_partsOf ∈ tT := tT_in (cs_tables_1_3) 134 (by decide +kernel) rfl
theorem w_686 : Cond.selects RX0 yX0_partsOf yX0_partsOf ∈ tT := tT_in (cs_tables_1_3) 135 (by decide +kernel) rfl
theorem w_687 : Cond.code yX0_partsOf cX0_partsOf 4 (some .int) ∈ tT := tT_in (cs_tables_1_3) 136 (by decide +kernel) rfl
theorem w_321 : Cond.methodLink RX3 3 objectInit ∈ tT := tT_in (cs_tables_1_2) 10 (by decide +kernel) rfl
theorem w_322 : Cond.classLink RX3 9 RX2 ∈ tT := tT_in (cs_tables_1_2) 11 (by decide +kernel) rfl
theorem w_298 : Cond.instantiable RX2 4 ∈ tT := tT_in (cs_tables_1_1) 227 (by decide +kernel) rfl
theorem w_323 : Cond.methodLinkNest RX3 11 yX2_init RX7 ∈ tN := tN_in (cs_tables_1_2) 12 (by decide +kernel) rfl
theorem w_300 : Cond.instanceMethod yX2_init ∈ tT := tT_in (cs_tables_1_1) 229 (by decide +kernel) rfl
theorem w_301 : Cond.code yX2_init cX2_init 1 none ∈ tT := tT_in (cs_tables_1_1) 230 (by decide +kernel) rfl
theorem w_326 : Cond.fieldLink RX3 12 (TX3 0).1 (TX3 0).2.1 (TX3 0).2.2.1 ∈ tT := tT_in (cs_tables_1_2) 15 (by decide +kernel) rfl
theorem w_324 : Cond.classLink RX3 18 RX0 ∈ tT := tT_in (cs_tables_1_2) 13 (by decide +kernel) rfl
theorem w_228 : Cond.instantiable RX0 4 ∈ tT := tT_in (cs_tables_1_1) 157 (by decide +kernel) rfl
theorem w_325 : Cond.methodLinkNest RX3 20 yX0_init RX7 ∈ tN := tN_in (cs_tables_1_2) 14 (by decide +kernel) rfl
theorem w_230 : Cond.instanceMethod yX0_init ∈ tT := tT_in (cs_tables_1_1) 159 (by decide +kernel) rfl
theorem w_231 : Cond.code yX0_init cX0_init 1 none ∈ tT := tT_in (cs_tables_1_1) 160 (by decide +kernel) rfl
theorem w_327 : Cond.fieldLink RX3 21 (TX3 1).1 (TX3 1).2.1 (TX3 1).2.2.1 ∈ tT := tT_in (cs_tables_1_2) 16 (by decide +kernel) rfl
theorem w_332 : Cond.fieldLink RX3 25 (TX3 6).1 (TX3 6).2.1 (TX3 6).2.2.1 ∈ tT := tT_in (cs_tables_1_2) 21 (by decide +kernel) rfl
theorem w_333 : Cond.fieldLink RX3 29 (TX3 7).1 (TX3 7).2.1 (TX3 7).2.2.1 ∈ tT := tT_in (cs_tables_1_2) 22 (by decide +kernel) rfl
theorem w_334 : Cond.fieldLink RX3 32 (TX3 8).1 (TX3 8).2.1 (TX3 8).2.2.1 ∈ tT := tT_in (cs_tables_1_2) 23 (by decide +kernel) rfl
theorem w_335 : Cond.fieldLink RX3 35 (TX3 9).1 (TX3 9).2.1 (TX3 9).2.2.1 ∈ tT := tT_in (cs_tables_1_2) 24 (by decide +kernel) rfl
theorem w_344 : Cond.fieldLink RX3 38 (TX3 16).1 (TX3 16).2.1 (TX3 16).2.2.1 ∈ tT := tT_in (cs_tables_1_2) 33 (by decide +kernel) rfl
theorem w_346 : Cond.fieldLink RX3 41 (TX3 17).1 (TX3 17).2.1 (TX3 17).2.2.1 ∈ tT := tT_in (cs_tables_1_2) 35 (by decide +kernel) rfl
theorem w_735 : Cond.methodLink RX3 44 yX3_prepare ∈ tT := tT_in (cs_tables_1_3) 184 (by decide +kernel) rfl
theorem w_737 : Cond.instanceMethod yX3_prepare ∈ tT := tT_in (cs_tables_1_3) 186 (by decide +kernel) rfl
theorem w_21 : Cond.selects RX3 yX3_prepare yX3_prepare ∈ tT := tT_at 21 (by decide +kernel) rfl
theorem w_79 : Cond.initialized RX3 ∈ tT := tT_in (cs_tables_1_1) 8 (by decide +kernel) rfl
theorem w_738 : Cond.code yX3_prepare cX3_prepare 5 none ∈ tT := tT_in (cs_tables_1_3) 187 (by decide +kernel) rfl
theorem w_743 : Cond.methodLink RX3 48 yX3_deal ∈ tT := tT_in (cs_tables_1_3) 192 (by decide +kernel) rfl
theorem w_744 : Cond.static yX3_deal ∈ tT := tT_in (cs_tables_1_3) 193 (by decide +kernel) rfl
theorem w_745 : Cond.code yX3_deal cX3_deal 3 none ∈ tT := tT_in (cs_tables_1_3) 194 (by decide +kernel) rfl
theorem w_338 : Cond.fieldLink RX3 52 (TX3 12).1 (TX3 12).2.1 (TX3 12).2.2.1 ∈ tT := tT_in (cs_tables_1_2) 27 (by decide +kernel) rfl
theorem w_339 : Cond.fieldLink RX3 56 (TX3 13).1 (TX3 13).2.1 (TX3 13).2.2.1 ∈ tT := tT_in (cs_tables_1_2) 28 (by decide +kernel) rfl
theorem w_328 : Cond.fieldLink RX3 60 (TX3 2).1 (TX3 2).2.1 (TX3 2).2.2.1 ∈ tT := tT_in (cs_tables_1_2) 17 (by decide +kernel) rfl
theorem w_329 : Cond.fieldLink RX3 64 (TX3 3).1 (TX3 3).2.1 (TX3 3).2.2.1 ∈ tT := tT_in (cs_tables_1_2) 18 (by decide +kernel) rfl
theorem w_330 : Cond.fieldLink RX3 68 (TX3 4).1 (TX3 4).2.1 (TX3 4).2.2.1 ∈ tT := tT_in (cs_tables_1_2) 19 (by decide +kernel) rfl
theorem w_253 : Cond.fieldLink RX3 71 (TX5 0).1 (TX5 0).2.1 (TX5 0).2.2.1 ∈ tT := tT_in (cs_tables_1_1) 182 (by decide +kernel) rfl
theorem w_739 : Cond.methodLink RX3 76 yX0_copyFrom ∈ tT := tT_in (cs_tables_1_3) 188 (by decide +kernel) rfl
theorem w_661 : Cond.instanceMethod yX0_copyFrom ∈ tT := tT_in (cs_tables_1_3) 110 (by decide +kernel) rfl
theorem w_662 : Cond.selects RX0 yX0_copyFrom yX0_copyFrom ∈ tT := tT_in (cs_tables_1_3) 111 (by decide +kernel) rfl
theorem w_663 : Cond.code yX0_copyFrom cX0_copyFrom 2 none ∈ tT := tT_in (cs_tables_1_3) 112 (by decide +kernel) rfl
theorem w_336 : Cond.fieldLink RX3 80 (TX3 10).1 (TX3 10).2.1 (TX3 10).2.2.1 ∈ tT := tT_in (cs_tables_1_2) 25 (by decide +kernel) rfl
theorem w_337 : Cond.fieldLink RX3 83 (TX3 11).1 (TX3 11).2.1 (TX3 11).2.2.1 ∈ tT := tT_in (cs_tables_1_2) 26 (by decide +kernel) rfl
theorem w_331 : Cond.fieldLink RX3 86 (TX3 5).1 (TX3 5).2.1 (TX3 5).2.2.1 ∈ tT := tT_in (cs_tables_1_2) 20 (by decide +kernel) rfl
theorem w_256 : Cond.fieldLink RX3 89 (TX5 1).1 (TX5 1).2.1 (TX5 1).2.2.1 ∈ tT := tT_in (cs_tables_1_1) 185 (by decide +kernel) rfl
theorem w_740 : Cond.methodLink RX3 92 yX5_how ∈ tT := tT_in (cs_tables_1_3) 189 (by decide +kernel) rfl
theorem w_722 : Cond.instanceMethod yX5_how ∈ tT := tT_in (cs_tables_1_3) 171 (by decide +kernel) rfl
theorem w_723 : Cond.selects RX5 yX5_how yX5_how ∈ tT := tT_in (cs_tables_1_3) 172 (by decide +kernel) rfl
theorem w_724 : Cond.code yX5_how cX5_how 3 (some .int) ∈ tT := tT_in (cs_tables_1_3) 173 (by decide +kernel) rfl
theorem w_192 : Cond.fieldLink RX3 96 (TX6 11).1 (TX6 11).2.1 (TX6 11).2.2.1 ∈ tT := tT_in (cs_tables_1_1) 121 (by decide +kernel) rfl
theorem w_741 : Cond.methodLink RX3 101 yX0_loaded ∈ tT := tT_in (cs_tables_1_3) 190 (by decide +kernel) rfl
theorem w_156 : Cond.fieldLink RX3 105 (TX6 1).1 (TX6 1).2.1 (TX6 1).2.2.1 ∈ tT := tT_in (cs_tables_1_1) 85 (by decide +kernel) rfl
theorem w_234 : Cond.fieldLink RX3 108 (TX0 0).1 (TX0 0).2.1 (TX0 0).2.2.1 ∈ tT := tT_in (cs_tables_1_1) 163 (by decide +kernel) rfl
theorem w_742 : Cond.methodLink RX3 111 yX6_top ∈ tT := tT_in (cs_tables_1_3) 191 (by decide +kernel) rfl
theorem w_641 : Cond.instanceMethod yX6_top ∈ tT := tT_in (cs_tables_1_3) 90 (by decide +kernel) rfl
theorem w_642 : Cond.selects RX6 yX6_top yX6_top ∈ tT := tT_in (cs_tables_1_3) 91 (by decide +kernel) rfl
theorem w_74 : Cond.initialized RX6 ∈ tT := tT_in (cs_tables_1_1) 3 (by decide +kernel) rfl
theorem w_643 : Cond.code yX6_top cX6_top 2 (some .int) ∈ tT := tT_in (cs_tables_1_3) 92 (by decide +kernel) rfl
theorem w_746 : Cond.methodLink RX3 114 yX3_isHopeless ∈ tT := tT_in (cs_tables_1_3) 195 (by decide +kernel) rfl
theorem w_748 : Cond.instanceMethod yX3_isHopeless ∈ tT := tT_in (cs_tables_1_3) 197 (by decide +kernel) rfl
theorem w_22 : Cond.selects RX3 yX3_isHopeless yX3_isHopeless ∈ tT := tT_at 22 (by decide +kernel) rfl
theorem w_749 : Cond.code yX3_isHopeless cX3_isHopeless 4 (some .boolean) ∈ tT := tT_in (cs_tables_1_3) 198 (by decide +kernel) rfl
theorem w_750 : Cond.methodLink RX3 118 yX3_consider ∈ tT := tT_in (cs_tables_1_3) 199 (by decide +kernel) rfl
theorem w_752 : Cond.instanceMethod yX3_consider ∈ tT := tT_in (cs_tables_1_3) 201 (by decide +kernel) rfl
theorem w_23 : Cond.selects RX3 yX3_consider yX3_consider ∈ tT := tT_at 23 (by decide +kernel) rfl
theorem w_753 : Cond.code yX3_consider cX3_consider 3 none ∈ tT := tT_in (cs_tables_1_3) 202 (by decide +kernel) rfl
theorem w_764 : Cond.methodLink RX3 121 yX3_gives ∈ tT := tT_in (cs_tables_1_3) 213 (by decide +kernel) rfl
theorem w_766 : Cond.instanceMethod yX3_gives ∈ tT := tT_in (cs_tables_1_3) 215 (by decide +kernel) rfl
theorem w_26 : Cond.selects RX3 yX3_gives yX3_gives ∈ tT := tT_at 26 (by decide +kernel) rfl
theorem w_767 : Cond.code yX3_gives cX3_gives 6 (some .boolean) ∈ tT := tT_in (cs_tables_1_3) 216 (by decide +kernel) rfl
theorem w_773 : Cond.methodLink RX3 125 yX3_takeBack ∈ tT := tT_in (cs_tables_1_3) 222 (by decide +kernel) rfl
theorem w_775 : Cond.instanceMethod yX3_takeBack ∈ tT := tT_in (cs_tables_1_3) 224 (by decide +kernel) rfl
theorem w_27 : Cond.selects RX3 yX3_takeBack yX3_takeBack ∈ tT := tT_at 27 (by decide +kernel) rfl
theorem w_776 : Cond.code yX3_takeBack cX3_takeBack 4 none ∈ tT := tT_in (cs_tables_1_3) 225 (by decide +kernel) rfl
theorem w_768 : Cond.methodLink RX3 129 yJ9_min_7cf53 ∈ tT := tT_in (cs_tables_1_3) 217 (by decide +kernel) rfl
theorem w_187 : Cond.fieldLink RX3 135 (TX6 10).1 (TX6 10).2.1 (TX6 10).2.2.1 ∈ tT := tT_in (cs_tables_1_1) 116 (by decide +kernel) rfl
theorem w_240 : Cond.fieldLink RX3 138 (TX0 2).1 (TX0 2).2.1 (TX0 2).2.2.1 ∈ tT := tT_in (cs_tables_1_1) 169 (by decide +kernel) rfl
theorem w_771 : Cond.methodLink RX3 141 yX6_isBarred ∈ tT := tT_in (cs_tables_1_3) 220 (by decide +kernel) rfl
theorem w_653 : Cond.instanceMethod yX6_isBarred ∈ tT := tT_in (cs_tables_1_3) 102 (by decide +kernel) rfl
theorem w_654 : Cond.selects RX6 yX6_isBarred yX6_isBarred ∈ tT := tT_in (cs_tables_1_3) 103 (by decide +kernel) rfl
theorem w_655 : Cond.code yX6_isBarred cX6_isBarred 3 (some .boolean) ∈ tT := tT_in (cs_tables_1_3) 104 (by decide +kernel) rfl
theorem w_772 : Cond.methodLink RX3 144 yX0_lay ∈ tT := tT_in (cs_tables_1_3) 221 (by decide +kernel) rfl
theorem w_665 : Cond.instanceMethod yX0_lay ∈ tT := tT_in (cs_tables_1_3) 114 (by decide +kernel) rfl
theorem w_666 : Cond.selects RX0 yX0_lay yX0_lay ∈ tT := tT_in (cs_tables_1_3) 115 (by decide +kernel) rfl
theorem w_667 : Cond.code yX0_lay cX0_lay 6 none ∈ tT := tT_in (cs_tables_1_3) 116 (by decide +kernel) rfl
theorem w_777 : Cond.methodLink RX3 148 yX0_takeOut ∈ tT := tT_in (cs_tables_1_3) 226 (by decide +kernel) rfl
theorem w_754 : Cond.methodLink RX3 152 yX3_isBetter ∈ tT := tT_in (cs_tables_1_3) 203 (by decide +kernel) rfl
theorem w_756 : Cond.instanceMethod yX3_isBetter ∈ tT := tT_in (cs_tables_1_3) 205 (by decide +kernel) rfl
theorem w_24 : Cond.selects RX3 yX3_isBetter yX3_isBetter ∈ tT := tT_at 24 (by decide +kernel) rfl
theorem w_757 : Cond.code yX3_isBetter cX3_isBetter 2 (some .boolean) ∈ tT := tT_in (cs_tables_1_3) 206 (by decide +kernel) rfl
theorem w_758 : Cond.methodLink RX3 155 yX0_standing ∈ tT := tT_in (cs_tables_1_3) 207 (by decide +kernel) rfl
theorem w_759 : Cond.methodLink RX3 158 yX2_count ∈ tT := tT_in (cs_tables_1_3) 208 (by decide +kernel) rfl
theorem w_673 : Cond.instanceMethod yX2_count ∈ tT := tT_in (cs_tables_1_3) 122 (by decide +kernel) rfl
theorem w_674 : Cond.selects RX2 yX2_count yX2_count ∈ tT := tT_in (cs_tables_1_3) 123 (by decide +kernel) rfl
theorem w_675 : Cond.code yX2_count cX2_count 7 (some .int) ∈ tT := tT_in (cs_tables_1_3) 124 (by decide +kernel) rfl
theorem w_340 : Cond.fieldLink RX3 162 (TX3 14).1 (TX3 14).2.1 (TX3 14).2.2.1 ∈ tT := tT_in (cs_tables_1_2) 29 (by decide +kernel) rfl
theorem w_342 : Cond.fieldLink RX3 165 (TX3 15).1 (TX3 15).2.1 (TX3 15).2.2.1 ∈ tT := tT_in (cs_tables_1_2) 31 (by decide +kernel) rfl
theorem w_760 : Cond.methodLink RX3 168 yX3_keepDeal ∈ tT := tT_in (cs_tables_1_3) 209 (by decide +kernel) rfl
theorem w_762 : Cond.instanceMethod yX3_keepDeal ∈ tT := tT_in (cs_tables_1_3) 211 (by decide +kernel) rfl
theorem w_25 : Cond.selects RX3 yX3_keepDeal yX3_keepDeal ∈ tT := tT_at 25 (by decide +kernel) rfl
theorem w_763 : Cond.code yX3_keepDeal cX3_keepDeal 3 none ∈ tT := tT_in (cs_tables_1_3) 212 (by decide +kernel) rfl
theorem w_238 : Cond.fieldLink RX3 171 (TX0 1).1 (TX0 1).2.1 (TX0 1).2.2.1 ∈ tT := tT_in (cs_tables_1_1) 167 (by decide +kernel) rfl
theorem w_106 : Cond.methodLink RX4 3 objectInit ∈ tT := tT_in (cs_tables_1_1) 35 (by decide +kernel) rfl
theorem w_107 : Cond.fieldLink RX4 9 (TX4 0).1 (TX4 0).2.1 (TX4 0).2.2.1 ∈ tT := tT_in (cs_tables_1_1) 36 (by decide +kernel) rfl
theorem w_108 : Cond.fieldLink RX4 15 (TX4 1).1 (TX4 1).2.1 (TX4 1).2.2.1 ∈ tT := tT_in (cs_tables_1_1) 37 (by decide +kernel) rfl
theorem w_109 : Cond.fieldLink RX4 19 (TX4 2).1 (TX4 2).2.1 (TX4 2).2.2.1 ∈ tT := tT_in (cs_tables_1_1) 38 (by decide +kernel) rfl
theorem w_110 : Cond.fieldLink RX4 23 (TX4 3).1 (TX4 3).2.1 (TX4 3).2.2.1 ∈ tT := tT_in (cs_tables_1_1) 39 (by decide +kernel) rfl
theorem w_115 : Cond.fieldLink RX4 26 (TX4 8).1 (TX4 8).2.1 (TX4 8).2.2.1 ∈ tT := tT_in (cs_tables_1_1) 44 (by decide +kernel) rfl
theorem w_114 : Cond.fieldLink RX4 29 (TX4 7).1 (TX4 7).2.1 (TX4 7).2.2.1 ∈ tT := tT_in (cs_tables_1_1) 43 (by decide +kernel) rfl
theorem w_462 : Cond.methodLink RX4 33 yX6_clear ∈ tT := tT_in (cs_tables_1_2) 151 (by decide +kernel) rfl
theorem w_386 : Cond.instanceMethod yX6_clear ∈ tT := tT_in (cs_tables_1_2) 75 (by decide +kernel) rfl
theorem w_387 : Cond.selects RX6 yX6_clear yX6_clear ∈ tT := tT_in (cs_tables_1_2) 76 (by decide +kernel) rfl
theorem w_388 : Cond.code yX6_clear cX6_clear 1 none ∈ tT := tT_in (cs_tables_1_2) 77 (by decide +kernel) rfl
theorem w_463 : Cond.methodLink RX4 38 yJ7_fill_53178 ∈ tT := tT_in (cs_tables_1_2) 152 (by decide +kernel) rfl
theorem w_464 : Cond.methodLink RX4 44 yX4_advance ∈ tT := tT_in (cs_tables_1_2) 153 (by decide +kernel) rfl
theorem w_466 : Cond.instanceMethod yX4_advance ∈ tT := tT_in (cs_tables_1_2) 155 (by decide +kernel) rfl
theorem w_1 : Cond.selects RX4 yX4_advance yX4_advance ∈ tT := tT_at 1 (by decide +kernel) rfl
theorem w_73 : Cond.initialized RX4 ∈ tT := tT_in (cs_tables_1_1) 2 (by decide +kernel) rfl
theorem w_467 : Cond.code yX4_advance cX4_advance 1 none ∈ tT := tT_in (cs_tables_1_2) 156 (by decide +kernel) rfl
theorem w_111 : Cond.fieldLink RX4 47 (TX4 4).1 (TX4 4).2.1 (TX4 4).2.2.1 ∈ tT := tT_in (cs_tables_1_1) 40 (by decide +kernel) rfl
theorem w_478 : Cond.methodLink RX4 50 yX4_readTanker ∈ tT := tT_in (cs_tables_1_2) 167 (by decide +kernel) rfl
theorem w_480 : Cond.instanceMethod yX4_readTanker ∈ tT := tT_in (cs_tables_1_2) 169 (by decide +kernel) rfl
theorem w_3 : Cond.selects RX4 yX4_readTanker yX4_readTanker ∈ tT := tT_at 3 (by decide +kernel) rfl
theorem w_481 : Cond.code yX4_readTanker cX4_readTanker 3 (some .boolean) ∈ tT := tT_in (cs_tables_1_2) 170 (by decide +kernel) rfl
theorem w_547 : Cond.methodLink RX4 54 yX4_readOther ∈ tT := tT_in (cs_tables_1_2) 236 (by decide +kernel) rfl
theorem w_549 : Cond.instanceMethod yX4_readOther ∈ tT := tT_in (cs_tables_1_2) 238 (by decide +kernel) rfl
theorem w_7 : Cond.selects RX4 yX4_readOther yX4_readOther ∈ tT := tT_at 7 (by decide +kernel) rfl
theorem w_550 : Cond.code yX4_readOther cX4_readOther 2 (some .boolean) ∈ tT := tT_in (cs_tables_1_2) 239 (by decide +kernel) rfl
theorem w_588 : Cond.methodLink RX4 57 yX4_readSign ∈ tT := tT_in (cs_tables_1_3) 37 (by decide +kernel) rfl
theorem w_590 : Cond.instanceMethod yX4_readSign ∈ tT := tT_in (cs_tables_1_3) 39 (by decide +kernel) rfl
theorem w_14 : Cond.selects RX4 yX4_readSign yX4_readSign ∈ tT := tT_at 14 (by decide +kernel) rfl
theorem w_591 : Cond.code yX4_readSign cX4_readSign 1 (some .boolean) ∈ tT := tT_in (cs_tables_1_3) 40 (by decide +kernel) rfl
theorem w_535 : Cond.methodLink RX4 60 yX4_refuse ∈ tT := tT_in (cs_tables_1_2) 224 (by decide +kernel) rfl
theorem w_537 : Cond.instanceMethod yX4_refuse ∈ tT := tT_in (cs_tables_1_2) 226 (by decide +kernel) rfl
theorem w_5 : Cond.selects RX4 yX4_refuse yX4_refuse ∈ tT := tT_at 5 (by decide +kernel) rfl
theorem w_538 : Cond.code yX4_refuse cX4_refuse 2 (some .boolean) ∈ tT := tT_in (cs_tables_1_2) 227 (by decide +kernel) rfl
theorem w_117 : Cond.fieldLink RX4 64 (TX4 9).1 (TX4 9).2.1 (TX4 9).2.2.1 ∈ tT := tT_in (cs_tables_1_1) 46 (by decide +kernel) rfl
theorem w_112 : Cond.fieldLink RX4 67 (TX4 5).1 (TX4 5).2.1 (TX4 5).2.2.1 ∈ tT := tT_in (cs_tables_1_1) 41 (by decide +kernel) rfl
theorem w_119 : Cond.fieldLink RX4 70 (TX4 10).1 (TX4 10).2.1 (TX4 10).2.2.1 ∈ tT := tT_in (cs_tables_1_1) 48 (by decide +kernel) rfl
theorem w_483 : Cond.methodLink RX4 75 yX4_isWord ∈ tT := tT_in (cs_tables_1_2) 172 (by decide +kernel) rfl
theorem w_485 : Cond.instanceMethod yX4_isWord ∈ tT := tT_in (cs_tables_1_2) 174 (by decide +kernel) rfl
theorem w_4 : Cond.selects RX4 yX4_isWord yX4_isWord ∈ tT := tT_at 4 (by decide +kernel) rfl
theorem w_486 : Cond.code yX4_isWord cX4_isWord 3 (some .boolean) ∈ tT := tT_in (cs_tables_1_2) 175 (by decide +kernel) rfl
theorem w_153 : Cond.fieldLink RX4 79 (TX6 0).1 (TX6 0).2.1 (TX6 0).2.2.1 ∈ tT := tT_in (cs_tables_1_1) 82 (by decide +kernel) rfl
theorem w_539 : Cond.fieldLinkNest RX4 82 "TankerDesk" "HEAD_LEAST" "[I" "TankerDesk" ∈ tN := tN_in (cs_tables_1_2) 228 (by decide +kernel) rfl
theorem w_541 : Cond.fieldLinkNest RX4 85 "TankerDesk" "HEAD_MOST" "[I" "TankerDesk" ∈ tN := tN_in (cs_tables_1_2) 230 (by decide +kernel) rfl
theorem w_543 : Cond.methodLink RX4 88 yX4_readNumber ∈ tT := tT_in (cs_tables_1_2) 232 (by decide +kernel) rfl
theorem w_545 : Cond.instanceMethod yX4_readNumber ∈ tT := tT_in (cs_tables_1_2) 234 (by decide +kernel) rfl
theorem w_6 : Cond.selects RX4 yX4_readNumber yX4_readNumber ∈ tT := tT_at 6 (by decide +kernel) rfl
theorem w_546 : Cond.code yX4_readNumber cX4_readNumber 3 (some .boolean) ∈ tT := tT_in (cs_tables_1_2) 235 (by decide +kernel) rfl
theorem w_113 : Cond.fieldLink RX4 92 (TX4 6).1 (TX4 6).2.1 (TX4 6).2.2.1 ∈ tT := tT_in (cs_tables_1_1) 42 (by decide +kernel) rfl
theorem w_551 : Cond.methodLink RX4 95 yX4_sortOfWord ∈ tT := tT_in (cs_tables_1_3) 0 (by decide +kernel) rfl
theorem w_553 : Cond.instanceMethod yX4_sortOfWord ∈ tT := tT_in (cs_tables_1_3) 2 (by decide +kernel) rfl
theorem w_8 : Cond.selects RX4 yX4_sortOfWord yX4_sortOfWord ∈ tT := tT_at 8 (by decide +kernel) rfl
theorem w_554 : Cond.code yX4_sortOfWord cX4_sortOfWord 1 (some .int) ∈ tT := tT_in (cs_tables_1_3) 3 (by decide +kernel) rfl
theorem w_560 : Cond.fieldLinkNest RX4 99 "TankerDesk" "MOST_LINES" "[I" "TankerDesk" ∈ tN := tN_in (cs_tables_1_3) 9 (by decide +kernel) rfl
theorem w_562 : Cond.methodLink RX4 102 yX4_readCompartment ∈ tT := tT_in (cs_tables_1_3) 11 (by decide +kernel) rfl
theorem w_564 : Cond.instanceMethod yX4_readCompartment ∈ tT := tT_in (cs_tables_1_3) 13 (by decide +kernel) rfl
theorem w_9 : Cond.selects RX4 yX4_readCompartment yX4_readCompartment ∈ tT := tT_at 9 (by decide +kernel) rfl
theorem w_565 : Cond.code yX4_readCompartment cX4_readCompartment 2 (some .boolean) ∈ tT := tT_in (cs_tables_1_3) 14 (by decide +kernel) rfl
theorem w_568 : Cond.methodLink RX4 105 yX4_readLiquid ∈ tT := tT_in (cs_tables_1_3) 17 (by decide +kernel) rfl
theorem w_570 : Cond.instanceMethod yX4_readLiquid ∈ tT := tT_in (cs_tables_1_3) 19 (by decide +kernel) rfl
theorem w_10 : Cond.selects RX4 yX4_readLiquid yX4_readLiquid ∈ tT := tT_at 10 (by decide +kernel) rfl
theorem w_571 : Cond.code yX4_readLiquid cX4_readLiquid 1 (some .boolean) ∈ tT := tT_in (cs_tables_1_3) 20 (by decide +kernel) rfl
theorem w_572 : Cond.methodLink RX4 108 yX4_readBar ∈ tT := tT_in (cs_tables_1_3) 21 (by decide +kernel) rfl
theorem w_574 : Cond.instanceMethod yX4_readBar ∈ tT := tT_in (cs_tables_1_3) 23 (by decide +kernel) rfl
theorem w_11 : Cond.selects RX4 yX4_readBar yX4_readBar ∈ tT := tT_at 11 (by decide +kernel) rfl
theorem w_575 : Cond.code yX4_readBar cX4_readBar 2 (some .boolean) ∈ tT := tT_in (cs_tables_1_3) 24 (by decide +kernel) rfl
theorem w_580 : Cond.methodLink RX4 111 yX4_readLast ∈ tT := tT_in (cs_tables_1_3) 29 (by decide +kernel) rfl
theorem w_582 : Cond.instanceMethod yX4_readLast ∈ tT := tT_in (cs_tables_1_3) 31 (by decide +kernel) rfl
theorem w_12 : Cond.selects RX4 yX4_readLast yX4_readLast ∈ tT := tT_at 12 (by decide +kernel) rfl
theorem w_583 : Cond.code yX4_readLast cX4_readLast 2 (some .boolean) ∈ tT := tT_in (cs_tables_1_3) 32 (by decide +kernel) rfl
theorem w_584 : Cond.methodLink RX4 114 yX4_readDrop ∈ tT := tT_in (cs_tables_1_3) 33 (by decide +kernel) rfl
theorem w_586 : Cond.instanceMethod yX4_readDrop ∈ tT := tT_in (cs_tables_1_3) 35 (by decide +kernel) rfl
theorem w_13 : Cond.selects RX4 yX4_readDrop yX4_readDrop ∈ tT := tT_at 13 (by decide +kernel) rfl
theorem w_587 : Cond.code yX4_readDrop cX4_readDrop 1 (some .boolean) ∈ tT := tT_in (cs_tables_1_3) 36 (by decide +kernel) rfl
theorem w_162 : Cond.fieldLink RX4 127 (TX6 2).1 (TX6 2).2.1 (TX6 2).2.2.1 ∈ tT := tT_in (cs_tables_1_1) 91 (by decide +kernel) rfl
theorem w_158 : Cond.fieldLink RX4 130 (TX6 1).1 (TX6 1).2.1 (TX6 1).2.2.1 ∈ tT := tT_in (cs_tables_1_1) 87 (by decide +kernel) rfl
theorem w_166 : Cond.fieldLink RX4 133 (TX6 3).1 (TX6 3).2.1 (TX6 3).2.2.1 ∈ tT := tT_in (cs_tables_1_1) 95 (by decide +kernel) rfl
theorem w_170 : Cond.fieldLink RX4 140 (TX6 4).1 (TX6 4).2.1 (TX6 4).2.2.1 ∈ tT := tT_in (cs_tables_1_1) 99 (by decide +kernel) rfl
theorem w_180 : Cond.fieldLink RX4 142 (TX6 7).1 (TX6 7).2.1 (TX6 7).2.2.1 ∈ tT := tT_in (cs_tables_1_1) 109 (by decide +kernel) rfl
theorem w_177 : Cond.fieldLink RX4 145 (TX6 6).1 (TX6 6).2.1 (TX6 6).2.2.1 ∈ tT := tT_in (cs_tables_1_1) 106 (by decide +kernel) rfl
theorem w_576 : Cond.methodLink RX4 148 yX6_bar ∈ tT := tT_in (cs_tables_1_3) 25 (by decide +kernel) rfl
theorem w_577 : Cond.instanceMethod yX6_bar ∈ tT := tT_in (cs_tables_1_3) 26 (by decide +kernel) rfl
theorem w_578 : Cond.selects RX6 yX6_bar yX6_bar ∈ tT := tT_in (cs_tables_1_3) 27 (by decide +kernel) rfl
theorem w_579 : Cond.code yX6_bar cX6_bar 3 none ∈ tT := tT_in (cs_tables_1_3) 28 (by decide +kernel) rfl
theorem w_174 : Cond.fieldLink RX4 151 (TX6 5).1 (TX6 5).2.1 (TX6 5).2.2.1 ∈ tT := tT_in (cs_tables_1_1) 103 (by decide +kernel) rfl
theorem w_189 : Cond.fieldLink RX4 153 (TX6 10).1 (TX6 10).2.1 (TX6 10).2.2.1 ∈ tT := tT_in (cs_tables_1_1) 118 (by decide +kernel) rfl
theorem w_185 : Cond.fieldLink RX4 156 (TX6 9).1 (TX6 9).2.1 (TX6 9).2.2.1 ∈ tT := tT_in (cs_tables_1_1) 114 (by decide +kernel) rfl
theorem w_195 : Cond.fieldLink RX4 159 (TX6 11).1 (TX6 11).2.1 (TX6 11).2.2.1 ∈ tT := tT_in (cs_tables_1_1) 124 (by decide +kernel) rfl
theorem w_487 : Cond.methodLink RX4 162 yJ0_length_8abf5 ∈ tT := tT_in (cs_tables_1_2) 176 (by decide +kernel) rfl
theorem w_488 : Cond.instanceMethod yJ0_length_8abf5 ∈ tT := tT_in (cs_tables_1_2) 177 (by decide +kernel) rfl
theorem w_489 : Cond.selects RJ0 yJ0_length_8abf5 yJ0_length_8abf5 ∈ tT := tT_in (cs_tables_1_2) 178 (by decide +kernel) rfl
theorem w_83 : Cond.initialized RJ0 ∈ tT := tT_in (cs_tables_1_1) 12 (by decide +kernel) rfl
theorem w_490 : Cond.code yJ0_length_8abf5 cJ0_length_8abf5 1 (some .int) ∈ tT := tT_in (cs_tables_1_2) 179 (by decide +kernel) rfl
theorem w_497 : Cond.methodLink RX4 167 yJ0_charAt_5068e ∈ tT := tT_in (cs_tables_1_2) 186 (by decide +kernel) rfl
theorem w_498 : Cond.instanceMethod yJ0_charAt_5068e ∈ tT := tT_in (cs_tables_1_2) 187 (by decide +kernel) rfl
theorem w_499 : Cond.selects RJ0 yJ0_charAt_5068e yJ0_charAt_5068e ∈ tT := tT_in (cs_tables_1_2) 188 (by decide +kernel) rfl
theorem w_500 : Cond.code yJ0_charAt_5068e cJ0_charAt_5068e 2 (some .char) ∈ tT := tT_in (cs_tables_1_2) 189 (by decide +kernel) rfl
theorem w_468 : Cond.methodLink RX4 171 yX4_advanceRun ∈ tT := tT_in (cs_tables_1_2) 157 (by decide +kernel) rfl
theorem w_470 : Cond.instanceMethod yX4_advanceRun ∈ tT := tT_in (cs_tables_1_2) 159 (by decide +kernel) rfl
theorem w_2 : Cond.selects RX4 yX4_advanceRun yX4_advanceRun ∈ tT := tT_at 2 (by decide +kernel) rfl
theorem w_471 : Cond.code yX4_advanceRun cX4_advanceRun 3 none ∈ tT := tT_in (cs_tables_1_2) 160 (by decide +kernel) rfl
theorem w_472 : Cond.methodLink RX4 174 yX4_isLetter ∈ tT := tT_in (cs_tables_1_2) 161 (by decide +kernel) rfl
theorem w_473 : Cond.static yX4_isLetter ∈ tT := tT_in (cs_tables_1_2) 162 (by decide +kernel) rfl
theorem w_474 : Cond.code yX4_isLetter cX4_isLetter 1 (some .boolean) ∈ tT := tT_in (cs_tables_1_2) 163 (by decide +kernel) rfl
theorem w_475 : Cond.methodLink RX4 177 yX4_isDigit ∈ tT := tT_in (cs_tables_1_2) 164 (by decide +kernel) rfl
theorem w_476 : Cond.static yX4_isDigit ∈ tT := tT_in (cs_tables_1_2) 165 (by decide +kernel) rfl
theorem w_477 : Cond.code yX4_isDigit cX4_isDigit 1 (some .boolean) ∈ tT := tT_in (cs_tables_1_2) 166 (by decide +kernel) rfl
theorem w_226 : Cond.methodLink RX5 3 objectInit ∈ tT := tT_in (cs_tables_1_1) 155 (by decide +kernel) rfl
theorem w_227 : Cond.classLink RX5 9 RX0 ∈ tT := tT_in (cs_tables_1_1) 156 (by decide +kernel) rfl
theorem w_229 : Cond.methodLinkNest RX5 11 yX0_init RX7 ∈ tN := tN_in (cs_tables_1_1) 158 (by decide +kernel) rfl
theorem w_252 : Cond.fieldLink RX5 12 (TX5 0).1 (TX5 0).2.1 (TX5 0).2.2.1 ∈ tT := tT_in (cs_tables_1_1) 181 (by decide +kernel) rfl
theorem w_258 : Cond.fieldLink RX5 18 (TX5 2).1 (TX5 2).2.1 (TX5 2).2.2.1 ∈ tT := tT_in (cs_tables_1_1) 187 (by decide +kernel) rfl
theorem w_260 : Cond.fieldLink RX5 22 (TX5 3).1 (TX5 3).2.1 (TX5 3).2.2.1 ∈ tT := tT_in (cs_tables_1_1) 189 (by decide +kernel) rfl
theorem w_396 : Cond.methodLink RX5 25 yX0_begin ∈ tT := tT_in (cs_tables_1_2) 85 (by decide +kernel) rfl
theorem w_397 : Cond.instanceMethod yX0_begin ∈ tT := tT_in (cs_tables_1_2) 86 (by decide +kernel) rfl
theorem w_398 : Cond.selects RX0 yX0_begin yX0_begin ∈ tT := tT_in (cs_tables_1_2) 87 (by decide +kernel) rfl
theorem w_399 : Cond.code yX0_begin cX0_begin 2 none ∈ tT := tT_in (cs_tables_1_2) 88 (by decide +kernel) rfl
theorem w_255 : Cond.fieldLink RX5 29 (TX5 1).1 (TX5 1).2.1 (TX5 1).2.2.1 ∈ tT := tT_in (cs_tables_1_1) 184 (by decide +kernel) rfl
theorem w_183 : Cond.fieldLink RX5 33 (TX6 9).1 (TX6 9).2.1 (TX6 9).2.2.1 ∈ tT := tT_in (cs_tables_1_1) 112 (by decide +kernel) rfl
theorem w_404 : Cond.methodLink RX5 38 yX5_addDrop ∈ tT := tT_in (cs_tables_1_2) 93 (by decide +kernel) rfl
theorem w_405 : Cond.instanceMethod yX5_addDrop ∈ tT := tT_in (cs_tables_1_2) 94 (by decide +kernel) rfl
theorem w_406 : Cond.selects RX5 yX5_addDrop yX5_addDrop ∈ tT := tT_in (cs_tables_1_2) 95 (by decide +kernel) rfl
theorem w_407 : Cond.code yX5_addDrop cX5_addDrop 1 none ∈ tT := tT_in (cs_tables_1_2) 96 (by decide +kernel) rfl
theorem w_262 : Cond.fieldLink RX5 41 (TX5 4).1 (TX5 4).2.1 (TX5 4).2.2.1 ∈ tT := tT_in (cs_tables_1_1) 191 (by decide +kernel) rfl
theorem w_806 : Cond.methodLink RX5 44 yX0_copyFrom ∈ tT := tT_in (cs_tables_1_4) 15 (by decide +kernel) rfl
theorem w_807 : Cond.methodLink RX5 48 arraycopyName ∈ tT := tT_in (cs_tables_1_4) 16 (by decide +kernel) rfl
theorem w_725 : Cond.methodLink RX5 54 yX0_loaded ∈ tT := tT_in (cs_tables_1_3) 174 (by decide +kernel) rfl
theorem w_193 : Cond.fieldLink RX5 58 (TX6 11).1 (TX6 11).2.1 (TX6 11).2.2.1 ∈ tT := tT_in (cs_tables_1_1) 122 (by decide +kernel) rfl
theorem w_797 : Cond.methodLink RX5 61 yX5_how ∈ tT := tT_in (cs_tables_1_4) 6 (by decide +kernel) rfl
theorem w_151 : Cond.methodLink RX6 3 objectInit ∈ tT := tT_in (cs_tables_1_1) 80 (by decide +kernel) rfl
theorem w_152 : Cond.fieldLink RX6 9 (TX6 0).1 (TX6 0).2.1 (TX6 0).2.2.1 ∈ tT := tT_in (cs_tables_1_1) 81 (by decide +kernel) rfl
theorem w_160 : Cond.fieldLink RX6 15 (TX6 2).1 (TX6 2).2.1 (TX6 2).2.2.1 ∈ tT := tT_in (cs_tables_1_1) 89 (by decide +kernel) rfl
theorem w_164 : Cond.fieldLink RX6 18 (TX6 3).1 (TX6 3).2.1 (TX6 3).2.2.1 ∈ tT := tT_in (cs_tables_1_1) 93 (by decide +kernel) rfl
theorem w_168 : Cond.fieldLink RX6 21 (TX6 4).1 (TX6 4).2.1 (TX6 4).2.2.1 ∈ tT := tT_in (cs_tables_1_1) 97 (by decide +kernel) rfl
theorem w_172 : Cond.fieldLink RX6 24 (TX6 5).1 (TX6 5).2.1 (TX6 5).2.2.1 ∈ tT := tT_in (cs_tables_1_1) 101 (by decide +kernel) rfl
theorem w_178 : Cond.fieldLink RX6 27 (TX6 7).1 (TX6 7).2.1 (TX6 7).2.2.1 ∈ tT := tT_in (cs_tables_1_1) 107 (by decide +kernel) rfl
theorem w_186 : Cond.fieldLink RX6 30 (TX6 10).1 (TX6 10).2.1 (TX6 10).2.2.1 ∈ tT := tT_in (cs_tables_1_1) 115 (by decide +kernel) rfl
theorem w_190 : Cond.fieldLink RX6 33 (TX6 11).1 (TX6 11).2.1 (TX6 11).2.2.1 ∈ tT := tT_in (cs_tables_1_1) 119 (by decide +kernel) rfl
theorem w_389 : Cond.methodLink RX6 36 yJ7_fill_53178 ∈ tT := tT_in (cs_tables_1_2) 78 (by decide +kernel) rfl
theorem w_155 : Cond.fieldLink RX6 42 (TX6 1).1 (TX6 1).2.1 (TX6 1).2.2.1 ∈ tT := tT_in (cs_tables_1_1) 84 (by decide +kernel) rfl
theorem w_175 : Cond.fieldLink RX6 46 (TX6 6).1 (TX6 6).2.1 (TX6 6).2.2.1 ∈ tT := tT_in (cs_tables_1_1) 104 (by decide +kernel) rfl
theorem w_181 : Cond.fieldLink RX6 49 (TX6 8).1 (TX6 8).2.1 (TX6 8).2.2.1 ∈ tT := tT_in (cs_tables_1_1) 110 (by decide +kernel) rfl
theorem w_184 : Cond.fieldLink RX6 53 (TX6 9).1 (TX6 9).2.1 (TX6 9).2.2.1 ∈ tT := tT_in (cs_tables_1_1) 113 (by decide +kernel) rfl
theorem w_98 : Cond.methodLink RX7 3 objectInit ∈ tT := tT_in (cs_tables_1_1) 27 (by decide +kernel) rfl
theorem w_144 : Cond.arrayClass .byte ∈ tT := tT_in (cs_tables_1_1) 73 (by decide +kernel) rfl
theorem w_408 : Cond.fieldLink RX7 9 (TX7 0).1 (TX7 0).2.1 (TX7 0).2.2.1 ∈ tT := tT_in (cs_tables_1_2) 97 (by decide +kernel) rfl
theorem w_409 : Cond.fieldLink RX7 13 (TX7 1).1 (TX7 1).2.1 (TX7 1).2.2.1 ∈ tT := tT_in (cs_tables_1_2) 98 (by decide +kernel) rfl
theorem w_410 : Cond.fieldLink RX7 17 (TX7 2).1 (TX7 2).2.1 (TX7 2).2.2.1 ∈ tT := tT_in (cs_tables_1_2) 99 (by decide +kernel) rfl
theorem w_101 : Cond.classLink RX7 20 RX4 ∈ tT := tT_in (cs_tables_1_1) 30 (by decide +kernel) rfl
theorem w_102 : Cond.instantiable RX4 11 ∈ tT := tT_in (cs_tables_1_1) 31 (by decide +kernel) rfl
theorem w_103 : Cond.methodLinkNest RX7 22 yX4_init RX7 ∈ tN := tN_in (cs_tables_1_1) 32 (by decide +kernel) rfl
theorem w_104 : Cond.instanceMethod yX4_init ∈ tT := tT_in (cs_tables_1_1) 33 (by decide +kernel) rfl
theorem w_105 : Cond.code yX4_init cX4_init 1 none ∈ tT := tT_in (cs_tables_1_1) 34 (by decide +kernel) rfl
theorem w_411 : Cond.fieldLink RX7 23 (TX7 3).1 (TX7 3).2.1 (TX7 3).2.2.1 ∈ tT := tT_in (cs_tables_1_2) 100 (by decide +kernel) rfl
theorem w_146 : Cond.classLink RX7 27 RX6 ∈ tT := tT_in (cs_tables_1_1) 75 (by decide +kernel) rfl
theorem w_147 : Cond.instantiable RX6 12 ∈ tT := tT_in (cs_tables_1_1) 76 (by decide +kernel) rfl
theorem w_148 : Cond.methodLinkNest RX7 29 yX6_init RX7 ∈ tN := tN_in (cs_tables_1_1) 77 (by decide +kernel) rfl
theorem w_149 : Cond.instanceMethod yX6_init ∈ tT := tT_in (cs_tables_1_1) 78 (by decide +kernel) rfl
theorem w_150 : Cond.code yX6_init cX6_init 1 none ∈ tT := tT_in (cs_tables_1_1) 79 (by decide +kernel) rfl
theorem w_412 : Cond.fieldLink RX7 30 (TX7 4).1 (TX7 4).2.1 (TX7 4).2.2.1 ∈ tT := tT_in (cs_tables_1_2) 101 (by decide +kernel) rfl
theorem w_413 : Cond.fieldLink RX7 34 (TX7 5).1 (TX7 5).2.1 (TX7 5).2.2.1 ∈ tT := tT_in (cs_tables_1_2) 102 (by decide +kernel) rfl
theorem w_221 : Cond.classLink RX7 37 RX5 ∈ tT := tT_in (cs_tables_1_1) 150 (by decide +kernel) rfl
theorem w_223 : Cond.methodLinkNest RX7 39 yX5_init RX7 ∈ tN := tN_in (cs_tables_1_1) 152 (by decide +kernel) rfl
theorem w_414 : Cond.fieldLink RX7 40 (TX7 6).1 (TX7 6).2.1 (TX7 6).2.2.1 ∈ tT := tT_in (cs_tables_1_2) 103 (by decide +kernel) rfl
theorem w_275 : Cond.classLink RX7 44 RX1 ∈ tT := tT_in (cs_tables_1_1) 204 (by decide +kernel) rfl
theorem w_276 : Cond.instantiable RX1 3 ∈ tT := tT_in (cs_tables_1_1) 205 (by decide +kernel) rfl
theorem w_77 : Cond.initialized RX1 ∈ tT := tT_in (cs_tables_1_1) 6 (by decide +kernel) rfl
theorem w_277 : Cond.methodLink RX7 46 yX1_init ∈ tT := tT_in (cs_tables_1_1) 206 (by decide +kernel) rfl
theorem w_278 : Cond.instanceMethod yX1_init ∈ tT := tT_in (cs_tables_1_1) 207 (by decide +kernel) rfl
theorem w_279 : Cond.code yX1_init cX1_init 2 none ∈ tT := tT_in (cs_tables_1_1) 208 (by decide +kernel) rfl
theorem w_415 : Cond.fieldLink RX7 47 (TX7 7).1 (TX7 7).2.1 (TX7 7).2.2.1 ∈ tT := tT_in (cs_tables_1_2) 104 (by decide +kernel) rfl
theorem w_295 : Cond.classLink RX7 51 RX0 ∈ tT := tT_in (cs_tables_1_1) 224 (by decide +kernel) rfl
theorem w_296 : Cond.methodLinkNest RX7 53 yX0_init RX7 ∈ tN := tN_in (cs_tables_1_1) 225 (by decide +kernel) rfl
theorem w_416 : Cond.fieldLink RX7 54 (TX7 8).1 (TX7 8).2.1 (TX7 8).2.2.1 ∈ tT := tT_in (cs_tables_1_2) 105 (by decide +kernel) rfl
theorem w_297 : Cond.classLink RX7 58 RX2 ∈ tT := tT_in (cs_tables_1_1) 226 (by decide +kernel) rfl
theorem w_299 : Cond.methodLinkNest RX7 60 yX2_init RX7 ∈ tN := tN_in (cs_tables_1_1) 228 (by decide +kernel) rfl
theorem w_417 : Cond.fieldLink RX7 61 (TX7 9).1 (TX7 9).2.1 (TX7 9).2.2.1 ∈ tT := tT_in (cs_tables_1_2) 106 (by decide +kernel) rfl
theorem w_316 : Cond.classLink RX7 65 RX3 ∈ tT := tT_in (cs_tables_1_2) 5 (by decide +kernel) rfl
theorem w_317 : Cond.instantiable RX3 18 ∈ tT := tT_in (cs_tables_1_2) 6 (by decide +kernel) rfl
theorem w_318 : Cond.methodLinkNest RX7 67 yX3_init RX7 ∈ tN := tN_in (cs_tables_1_2) 7 (by decide +kernel) rfl
theorem w_319 : Cond.instanceMethod yX3_init ∈ tT := tT_in (cs_tables_1_2) 8 (by decide +kernel) rfl
theorem w_320 : Cond.code yX3_init cX3_init 1 none ∈ tT := tT_in (cs_tables_1_2) 9 (by decide +kernel) rfl
theorem w_418 : Cond.fieldLink RX7 68 (TX7 10).1 (TX7 10).2.1 (TX7 10).2.2.1 ∈ tT := tT_in (cs_tables_1_2) 107 (by decide +kernel) rfl
theorem w_385 : Cond.methodLink RX7 72 yX6_clear ∈ tT := tT_in (cs_tables_1_2) 74 (by decide +kernel) rfl
theorem w_392 : Cond.methodLink RX7 75 yX5_begin ∈ tT := tT_in (cs_tables_1_2) 81 (by decide +kernel) rfl
theorem w_393 : Cond.instanceMethod yX5_begin ∈ tT := tT_in (cs_tables_1_2) 82 (by decide +kernel) rfl
theorem w_394 : Cond.selects RX5 yX5_begin yX5_begin ∈ tT := tT_in (cs_tables_1_2) 83 (by decide +kernel) rfl
theorem w_395 : Cond.code yX5_begin cX5_begin 3 none ∈ tT := tT_in (cs_tables_1_2) 84 (by decide +kernel) rfl
theorem w_446 : Cond.methodLink RX7 79 yX7_tapeNumber ∈ tT := tT_in (cs_tables_1_2) 135 (by decide +kernel) rfl
theorem w_448 : Cond.instanceMethod yX7_tapeNumber ∈ tT := tT_in (cs_tables_1_2) 137 (by decide +kernel) rfl
theorem w_0 : Cond.selects RX7 yX7_tapeNumber yX7_tapeNumber ∈ tT := tT_at 0 (by decide +kernel) rfl
theorem w_72 : Cond.initialized RX7 ∈ tT := tT_in (cs_tables_1_1) 1 (by decide +kernel) rfl
theorem w_449 : Cond.code yX7_tapeNumber cX7_tapeNumber 3 none ∈ tT := tT_in (cs_tables_1_2) 138 (by decide +kernel) rfl
theorem w_458 : Cond.methodLink RX7 83 yX4_reads ∈ tT := tT_in (cs_tables_1_2) 147 (by decide +kernel) rfl
theorem w_459 : Cond.instanceMethod yX4_reads ∈ tT := tT_in (cs_tables_1_2) 148 (by decide +kernel) rfl
theorem w_460 : Cond.selects RX4 yX4_reads yX4_reads ∈ tT := tT_in (cs_tables_1_2) 149 (by decide +kernel) rfl
theorem w_461 : Cond.code yX4_reads cX4_reads 6 (some .boolean) ∈ tT := tT_in (cs_tables_1_2) 150 (by decide +kernel) rfl
theorem w_118 : Cond.fieldLink RX7 87 (TX4 9).1 (TX4 9).2.1 (TX4 9).2.2.1 ∈ tT := tT_in (cs_tables_1_1) 47 (by decide +kernel) rfl
theorem w_120 : Cond.fieldLink RX7 90 (TX4 10).1 (TX4 10).2.1 (TX4 10).2.2.1 ∈ tT := tT_in (cs_tables_1_1) 49 (by decide +kernel) rfl
theorem w_592 : Cond.methodLink RX7 93 yX1_forget ∈ tT := tT_in (cs_tables_1_3) 41 (by decide +kernel) rfl
theorem w_593 : Cond.instanceMethod yX1_forget ∈ tT := tT_in (cs_tables_1_3) 42 (by decide +kernel) rfl
theorem w_594 : Cond.selects RX1 yX1_forget yX1_forget ∈ tT := tT_in (cs_tables_1_3) 43 (by decide +kernel) rfl
theorem w_595 : Cond.code yX1_forget cX1_forget 1 none ∈ tT := tT_in (cs_tables_1_3) 44 (by decide +kernel) rfl
theorem w_116 : Cond.fieldLink RX7 96 (TX4 8).1 (TX4 8).2.1 (TX4 8).2.2.1 ∈ tT := tT_in (cs_tables_1_1) 45 (by decide +kernel) rfl
theorem w_157 : Cond.fieldLink RX7 99 (TX6 1).1 (TX6 1).2.1 (TX6 1).2.2.1 ∈ tT := tT_in (cs_tables_1_1) 86 (by decide +kernel) rfl
theorem w_176 : Cond.fieldLink RX7 102 (TX6 6).1 (TX6 6).2.1 (TX6 6).2.2.1 ∈ tT := tT_in (cs_tables_1_1) 105 (by decide +kernel) rfl
theorem w_257 : Cond.fieldLink RX7 105 (TX5 1).1 (TX5 1).2.1 (TX5 1).2.2.1 ∈ tT := tT_in (cs_tables_1_1) 186 (by decide +kernel) rfl
theorem w_182 : Cond.fieldLink RX7 108 (TX6 8).1 (TX6 8).2.1 (TX6 8).2.2.1 ∈ tT := tT_in (cs_tables_1_1) 111 (by decide +kernel) rfl
theorem w_604 : Cond.methodLink RX7 112 yJ13_bitCount_95d88 ∈ tT := tT_in (cs_tables_1_3) 53 (by decide +kernel) rfl
theorem w_605 : Cond.static yJ13_bitCount_95d88 ∈ tT := tT_in (cs_tables_1_3) 54 (by decide +kernel) rfl
theorem w_87 : Cond.initialized RJ13 ∈ tT := tT_in (cs_tables_1_1) 16 (by decide +kernel) rfl
theorem w_606 : Cond.code yJ13_bitCount_95d88 cJ13_bitCount_95d88 2 (some .int) ∈ tT := tT_in (cs_tables_1_3) 55 (by decide +kernel) rfl
theorem w_254 : Cond.fieldLink RX7 118 (TX5 0).1 (TX5 0).2.1 (TX5 0).2.2.1 ∈ tT := tT_in (cs_tables_1_1) 183 (by decide +kernel) rfl
theorem w_610 : Cond.methodLink RX7 121 yX0_frontLoad ∈ tT := tT_in (cs_tables_1_3) 59 (by decide +kernel) rfl
theorem w_617 : Cond.methodLink RX7 125 yX0_rearLoad ∈ tT := tT_in (cs_tables_1_3) 66 (by decide +kernel) rfl
theorem w_621 : Cond.methodLink RX7 128 yX0_standing ∈ tT := tT_in (cs_tables_1_3) 70 (by decide +kernel) rfl
theorem w_263 : Cond.fieldLink RX7 131 (TX5 4).1 (TX5 4).2.1 (TX5 4).2.2.1 ∈ tT := tT_in (cs_tables_1_1) 192 (by decide +kernel) rfl
theorem w_287 : Cond.fieldLink RX7 134 (TX1 2).1 (TX1 2).2.1 (TX1 2).2.2.1 ∈ tT := tT_in (cs_tables_1_1) 216 (by decide +kernel) rfl
theorem w_631 : Cond.constant RX7 137 (-100000000) ∈ tT := tT_in (cs_tables_1_3) 80 (by decide +kernel) rfl
theorem w_636 : Cond.methodLink RX7 138 yX6_hasCompartment ∈ tT := tT_in (cs_tables_1_3) 85 (by decide +kernel) rfl
theorem w_637 : Cond.instanceMethod yX6_hasCompartment ∈ tT := tT_in (cs_tables_1_3) 86 (by decide +kernel) rfl
theorem w_638 : Cond.selects RX6 yX6_hasCompartment yX6_hasCompartment ∈ tT := tT_in (cs_tables_1_3) 87 (by decide +kernel) rfl
theorem w_639 : Cond.code yX6_hasCompartment cX6_hasCompartment 2 (some .boolean) ∈ tT := tT_in (cs_tables_1_3) 88 (by decide +kernel) rfl
theorem w_161 : Cond.fieldLink RX7 142 (TX6 2).1 (TX6 2).2.1 (TX6 2).2.2.1 ∈ tT := tT_in (cs_tables_1_1) 90 (by decide +kernel) rfl
theorem w_165 : Cond.fieldLink RX7 146 (TX6 3).1 (TX6 3).2.1 (TX6 3).2.2.1 ∈ tT := tT_in (cs_tables_1_1) 94 (by decide +kernel) rfl
theorem w_169 : Cond.fieldLink RX7 149 (TX6 4).1 (TX6 4).2.1 (TX6 4).2.2.1 ∈ tT := tT_in (cs_tables_1_1) 98 (by decide +kernel) rfl
theorem w_640 : Cond.methodLink RX7 152 yX6_top ∈ tT := tT_in (cs_tables_1_3) 89 (by decide +kernel) rfl
theorem w_235 : Cond.fieldLink RX7 156 (TX0 0).1 (TX0 0).2.1 (TX0 0).2.2.1 ∈ tT := tT_in (cs_tables_1_1) 164 (by decide +kernel) rfl
theorem w_237 : Cond.fieldLink RX7 159 (TX0 1).1 (TX0 1).2.1 (TX0 1).2.2.1 ∈ tT := tT_in (cs_tables_1_1) 166 (by decide +kernel) rfl
theorem w_241 : Cond.fieldLink RX7 162 (TX0 2).1 (TX0 2).2.1 (TX0 2).2.2.1 ∈ tT := tT_in (cs_tables_1_1) 170 (by decide +kernel) rfl
theorem w_717 : Cond.methodLink RX7 165 yX5_hasDrop ∈ tT := tT_in (cs_tables_1_3) 166 (by decide +kernel) rfl
theorem w_718 : Cond.instanceMethod yX5_hasDrop ∈ tT := tT_in (cs_tables_1_3) 167 (by decide +kernel) rfl
theorem w_719 : Cond.selects RX5 yX5_hasDrop yX5_hasDrop ∈ tT := tT_in (cs_tables_1_3) 168 (by decide +kernel) rfl
theorem w_720 : Cond.code yX5_hasDrop cX5_hasDrop 2 (some .boolean) ∈ tT := tT_in (cs_tables_1_3) 169 (by decide +kernel) rfl
theorem w_188 : Cond.fieldLink RX7 171 (TX6 10).1 (TX6 10).2.1 (TX6 10).2.2.1 ∈ tT := tT_in (cs_tables_1_1) 117 (by decide +kernel) rfl
theorem w_194 : Cond.fieldLink RX7 174 (TX6 11).1 (TX6 11).2.1 (TX6 11).2.2.1 ∈ tT := tT_in (cs_tables_1_1) 123 (by decide +kernel) rfl
theorem w_814 : Cond.methodLink RX7 177 yX0_loaded ∈ tT := tT_in (cs_tables_1_4) 23 (by decide +kernel) rfl
theorem w_721 : Cond.methodLink RX7 180 yX5_how ∈ tT := tT_in (cs_tables_1_3) 170 (by decide +kernel) rfl
theorem w_261 : Cond.fieldLink RX7 183 (TX5 3).1 (TX5 3).2.1 (TX5 3).2.2.1 ∈ tT := tT_in (cs_tables_1_1) 190 (by decide +kernel) rfl
theorem w_833 : Cond.methodLink RX7 186 yX5_shortOf ∈ tT := tT_in (cs_tables_1_4) 42 (by decide +kernel) rfl
theorem w_834 : Cond.instanceMethod yX5_shortOf ∈ tT := tT_in (cs_tables_1_4) 43 (by decide +kernel) rfl
theorem w_835 : Cond.selects RX5 yX5_shortOf yX5_shortOf ∈ tT := tT_in (cs_tables_1_4) 44 (by decide +kernel) rfl
theorem w_836 : Cond.code yX5_shortOf cX5_shortOf 3 (some .int) ∈ tT := tT_in (cs_tables_1_4) 45 (by decide +kernel) rfl
theorem w_648 : Cond.methodLink RX7 189 yX6_hasLiquid ∈ tT := tT_in (cs_tables_1_3) 97 (by decide +kernel) rfl
theorem w_649 : Cond.instanceMethod yX6_hasLiquid ∈ tT := tT_in (cs_tables_1_3) 98 (by decide +kernel) rfl
theorem w_650 : Cond.selects RX6 yX6_hasLiquid yX6_hasLiquid ∈ tT := tT_in (cs_tables_1_3) 99 (by decide +kernel) rfl
theorem w_651 : Cond.code yX6_hasLiquid cX6_hasLiquid 2 (some .boolean) ∈ tT := tT_in (cs_tables_1_3) 100 (by decide +kernel) rfl
theorem w_652 : Cond.methodLink RX7 192 yX6_isBarred ∈ tT := tT_in (cs_tables_1_3) 101 (by decide +kernel) rfl
theorem w_660 : Cond.methodLink RX7 196 yX0_copyFrom ∈ tT := tT_in (cs_tables_1_3) 109 (by decide +kernel) rfl
theorem w_664 : Cond.methodLink RX7 200 yX0_lay ∈ tT := tT_in (cs_tables_1_3) 113 (by decide +kernel) rfl
theorem w_672 : Cond.methodLink RX7 204 yX2_count ∈ tT := tT_in (cs_tables_1_3) 121 (by decide +kernel) rfl
theorem w_701 : Cond.methodLink RX7 208 yX2_dropOfFirst ∈ tT := tT_in (cs_tables_1_3) 150 (by decide +kernel) rfl
theorem w_702 : Cond.instanceMethod yX2_dropOfFirst ∈ tT := tT_in (cs_tables_1_3) 151 (by decide +kernel) rfl
theorem w_703 : Cond.selects RX2 yX2_dropOfFirst yX2_dropOfFirst ∈ tT := tT_in (cs_tables_1_3) 152 (by decide +kernel) rfl
theorem w_704 : Cond.code yX2_dropOfFirst cX2_dropOfFirst 5 (some .int) ∈ tT := tT_in (cs_tables_1_3) 153 (by decide +kernel) rfl
theorem w_713 : Cond.methodLink RX7 211 yX7_isSo ∈ tT := tT_in (cs_tables_1_3) 162 (by decide +kernel) rfl
theorem w_715 : Cond.instanceMethod yX7_isSo ∈ tT := tT_in (cs_tables_1_3) 164 (by decide +kernel) rfl
theorem w_20 : Cond.selects RX7 yX7_isSo yX7_isSo ∈ tT := tT_at 20 (by decide +kernel) rfl
theorem w_716 : Cond.code yX7_isSo cX7_isSo 3 (some .boolean) ∈ tT := tT_in (cs_tables_1_3) 165 (by decide +kernel) rfl
theorem w_726 : Cond.methodLink RX7 214 yX0_partsOf ∈ tT := tT_in (cs_tables_1_3) 175 (by decide +kernel) rfl
theorem w_731 : Cond.methodLink RX7 217 yX3_findsPlan ∈ tT := tT_in (cs_tables_1_3) 180 (by decide +kernel) rfl
theorem w_732 : Cond.instanceMethod yX3_findsPlan ∈ tT := tT_in (cs_tables_1_3) 181 (by decide +kernel) rfl
theorem w_733 : Cond.selects RX3 yX3_findsPlan yX3_findsPlan ∈ tT := tT_in (cs_tables_1_3) 182 (by decide +kernel) rfl
theorem w_734 : Cond.code yX3_findsPlan cX3_findsPlan 3 (some .boolean) ∈ tT := tT_in (cs_tables_1_3) 183 (by decide +kernel) rfl
theorem w_341 : Cond.fieldLink RX7 221 (TX3 14).1 (TX3 14).2.1 (TX3 14).2.2.1 ∈ tT := tT_in (cs_tables_1_2) 30 (by decide +kernel) rfl
theorem w_343 : Cond.fieldLink RX7 224 (TX3 15).1 (TX3 15).2.1 (TX3 15).2.2.1 ∈ tT := tT_in (cs_tables_1_2) 32 (by decide +kernel) rfl
theorem w_345 : Cond.fieldLink RX7 227 (TX3 16).1 (TX3 16).2.1 (TX3 16).2.2.1 ∈ tT := tT_in (cs_tables_1_2) 34 (by decide +kernel) rfl
theorem w_347 : Cond.fieldLink RX7 230 (TX3 17).1 (TX3 17).2.1 (TX3 17).2.2.1 ∈ tT := tT_in (cs_tables_1_2) 36 (by decide +kernel) rfl
theorem w_785 : Cond.methodLink RX7 233 yX3_fewestWashes ∈ tT := tT_in (cs_tables_1_3) 234 (by decide +kernel) rfl
theorem w_786 : Cond.instanceMethod yX3_fewestWashes ∈ tT := tT_in (cs_tables_1_3) 235 (by decide +kernel) rfl
theorem w_787 : Cond.selects RX3 yX3_fewestWashes yX3_fewestWashes ∈ tT := tT_in (cs_tables_1_3) 236 (by decide +kernel) rfl
theorem w_788 : Cond.code yX3_fewestWashes cX3_fewestWashes 3 (some .int) ∈ tT := tT_in (cs_tables_1_3) 237 (by decide +kernel) rfl
theorem w_793 : Cond.methodLink RX7 237 yX5_waiting ∈ tT := tT_in (cs_tables_1_4) 2 (by decide +kernel) rfl
theorem w_794 : Cond.instanceMethod yX5_waiting ∈ tT := tT_in (cs_tables_1_4) 3 (by decide +kernel) rfl
theorem w_795 : Cond.selects RX5 yX5_waiting yX5_waiting ∈ tT := tT_in (cs_tables_1_4) 4 (by decide +kernel) rfl
theorem w_796 : Cond.code yX5_waiting cX5_waiting 4 (some .int) ∈ tT := tT_in (cs_tables_1_4) 5 (by decide +kernel) rfl
theorem w_798 : Cond.methodLink RX7 241 yX1_keep ∈ tT := tT_in (cs_tables_1_4) 7 (by decide +kernel) rfl
theorem w_799 : Cond.instanceMethod yX1_keep ∈ tT := tT_in (cs_tables_1_4) 8 (by decide +kernel) rfl
theorem w_800 : Cond.selects RX1 yX1_keep yX1_keep ∈ tT := tT_in (cs_tables_1_4) 9 (by decide +kernel) rfl
theorem w_801 : Cond.code yX1_keep cX1_keep 2 none ∈ tT := tT_in (cs_tables_1_4) 10 (by decide +kernel) rfl
theorem w_809 : Cond.methodLink RX7 245 yX5_addDrop ∈ tT := tT_in (cs_tables_1_4) 18 (by decide +kernel) rfl
theorem w_259 : Cond.fieldLink RX7 248 (TX5 2).1 (TX5 2).2.1 (TX5 2).2.2.1 ∈ tT := tT_in (cs_tables_1_1) 188 (by decide +kernel) rfl
theorem w_819 : Cond.methodLink RX7 251 yJ9_min_7cf53 ∈ tT := tT_in (cs_tables_1_4) 28 (by decide +kernel) rfl
theorem w_828 : Cond.methodLink RX7 257 yX0_takeOutAll ∈ tT := tT_in (cs_tables_1_4) 37 (by decide +kernel) rfl
theorem w_829 : Cond.instanceMethod yX0_takeOutAll ∈ tT := tT_in (cs_tables_1_4) 38 (by decide +kernel) rfl
theorem w_830 : Cond.selects RX0 yX0_takeOutAll yX0_takeOutAll ∈ tT := tT_in (cs_tables_1_4) 39 (by decide +kernel) rfl
theorem w_831 : Cond.code yX0_takeOutAll cX0_takeOutAll 3 none ∈ tT := tT_in (cs_tables_1_4) 40 (by decide +kernel) rfl
theorem w_841 : Cond.methodLink RX7 260 yX0_takeOut ∈ tT := tT_in (cs_tables_1_4) 50 (by decide +kernel) rfl
theorem w_850 : Cond.methodLink RX7 263 yX1_goBack ∈ tT := tT_in (cs_tables_1_4) 59 (by decide +kernel) rfl
theorem w_851 : Cond.instanceMethod yX1_goBack ∈ tT := tT_in (cs_tables_1_4) 60 (by decide +kernel) rfl
theorem w_852 : Cond.selects RX1 yX1_goBack yX1_goBack ∈ tT := tT_in (cs_tables_1_4) 61 (by decide +kernel) rfl
theorem w_853 : Cond.code yX1_goBack cX1_goBack 2 (some .boolean) ∈ tT := tT_in (cs_tables_1_4) 62 (by decide +kernel) rfl
theorem w_941 : Cond.fieldLink RX8 1 (TX8 0).1 (TX8 0).2.1 (TX8 0).2.2.1 ∈ tT := tT_in (cs_tables_1_4) 150 (by decide +kernel) rfl
theorem w_942 : Cond.fieldLink RX8 7 (TX8 1).1 (TX8 1).2.1 (TX8 1).2.2.1 ∈ tT := tT_in (cs_tables_1_4) 151 (by decide +kernel) rfl
theorem w_943 : Cond.fieldLink RX8 11 (TX8 2).1 (TX8 2).2.1 (TX8 2).2.2.1 ∈ tT := tT_in (cs_tables_1_4) 152 (by decide +kernel) rfl
theorem w_927 : Cond.methodLink RX8 14 yX8_lays ∈ tT := tT_in (cs_tables_1_4) 136 (by decide +kernel) rfl
theorem w_929 : Cond.instanceMethod yX8_lays ∈ tT := tT_in (cs_tables_1_4) 138 (by decide +kernel) rfl
theorem w_29 : Cond.selects RX8 yX8_lays yX8_lays ∈ tT := tT_at 29 (by decide +kernel) rfl
theorem w_82 : Cond.initialized RX8 ∈ tT := tT_in (cs_tables_1_1) 11 (by decide +kernel) rfl
theorem w_931 : Cond.code yX8_lays cX8_lays 3 none ∈ tT := tT_in (cs_tables_1_4) 140 (by decide +kernel) rfl
theorem w_944 : Cond.fieldLink RX8 18 (TX8 3).1 (TX8 3).2.1 (TX8 3).2.2.1 ∈ tT := tT_in (cs_tables_1_4) 153 (by decide +kernel) rfl
theorem w_945 : Cond.fieldLink RX8 21 (TX8 4).1 (TX8 4).2.1 (TX8 4).2.2.1 ∈ tT := tT_in (cs_tables_1_4) 154 (by decide +kernel) rfl
theorem w_946 : Cond.fieldLink RX8 24 (TX8 5).1 (TX8 5).2.1 (TX8 5).2.2.1 ∈ tT := tT_in (cs_tables_1_4) 155 (by decide +kernel) rfl
theorem w_947 : Cond.fieldLink RX8 27 (TX8 6).1 (TX8 6).2.1 (TX8 6).2.2.1 ∈ tT := tT_in (cs_tables_1_4) 156 (by decide +kernel) rfl
theorem w_1034 : Cond.methodLink RX8 30 yX8_isLetter ∈ tT := tT_in (cs_tables_1_5) 3 (by decide +kernel) rfl
theorem w_1035 : Cond.static yX8_isLetter ∈ tT := tT_in (cs_tables_1_5) 4 (by decide +kernel) rfl
theorem w_1036 : Cond.code yX8_isLetter cX8_isLetter 1 (some .boolean) ∈ tT := tT_in (cs_tables_1_5) 5 (by decide +kernel) rfl
theorem w_1037 : Cond.methodLink RX8 34 yX8_isDigit ∈ tT := tT_in (cs_tables_1_5) 6 (by decide +kernel) rfl
theorem w_1038 : Cond.static yX8_isDigit ∈ tT := tT_in (cs_tables_1_5) 7 (by decide +kernel) rfl
theorem w_1039 : Cond.code yX8_isDigit cX8_isDigit 1 (some .boolean) ∈ tT := tT_in (cs_tables_1_5) 8 (by decide +kernel) rfl
theorem w_951 : Cond.fieldLink RX8 37 (TX8 10).1 (TX8 10).2.1 (TX8 10).2.2.1 ∈ tT := tT_in (cs_tables_1_4) 160 (by decide +kernel) rfl
theorem w_948 : Cond.fieldLink RX8 41 (TX8 7).1 (TX8 7).2.1 (TX8 7).2.2.1 ∈ tT := tT_in (cs_tables_1_4) 157 (by decide +kernel) rfl
theorem w_1040 : Cond.methodLink RX8 44 yX8_tapeAt ∈ tT := tT_in (cs_tables_1_5) 9 (by decide +kernel) rfl
theorem w_1042 : Cond.instanceMethod yX8_tapeAt ∈ tT := tT_in (cs_tables_1_5) 11 (by decide +kernel) rfl
theorem w_31 : Cond.selects RX8 yX8_tapeAt yX8_tapeAt ∈ tT := tT_at 31 (by decide +kernel) rfl
theorem w_1043 : Cond.code yX8_tapeAt cX8_tapeAt 2 (some .int) ∈ tT := tT_in (cs_tables_1_5) 12 (by decide +kernel) rfl
theorem w_1044 : Cond.constantLong RX8 48 (27) ∈ tT := tT_in (cs_tables_1_5) 13 (by decide +kernel) rfl
theorem w_1045 : Cond.constantLong RX8 50 (96) ∈ tT := tT_in (cs_tables_1_5) 14 (by decide +kernel) rfl
theorem w_1057 : Cond.constantLong RX8 52 (19683) ∈ tT := tT_in (cs_tables_1_5) 26 (by decide +kernel) rfl
theorem w_1058 : Cond.methodLink RX8 54 yX8_three ∈ tT := tT_in (cs_tables_1_5) 27 (by decide +kernel) rfl
theorem w_1059 : Cond.static yX8_three ∈ tT := tT_in (cs_tables_1_5) 28 (by decide +kernel) rfl
theorem w_1060 : Cond.code yX8_three cX8_three 3 (some .long) ∈ tT := tT_in (cs_tables_1_5) 29 (by decide +kernel) rfl
theorem w_949 : Cond.fieldLink RX8 58 (TX8 8).1 (TX8 8).2.1 (TX8 8).2.2.1 ∈ tT := tT_in (cs_tables_1_4) 158 (by decide +kernel) rfl
theorem w_950 : Cond.fieldLink RX8 61 (TX8 9).1 (TX8 9).2.1 (TX8 9).2.2.1 ∈ tT := tT_in (cs_tables_1_4) 159 (by decide +kernel) rfl
theorem w_940 : Cond.methodLink RX8 64 objectInit ∈ tT := tT_in (cs_tables_1_4) 149 (by decide +kernel) rfl
theorem w_952 : Cond.fieldLink RX8 70 (TX8 11).1 (TX8 11).2.1 (TX8 11).2.2.1 ∈ tT := tT_in (cs_tables_1_4) 161 (by decide +kernel) rfl
theorem w_953 : Cond.fieldLink RX8 73 (TX8 12).1 (TX8 12).2.1 (TX8 12).2.2.1 ∈ tT := tT_in (cs_tables_1_4) 162 (by decide +kernel) rfl
theorem w_954 : Cond.fieldLink RX8 76 (TX8 13).1 (TX8 13).2.1 (TX8 13).2.2.1 ∈ tT := tT_in (cs_tables_1_4) 163 (by decide +kernel) rfl
theorem w_957 : Cond.fieldLink RX8 79 (TX8 16).1 (TX8 16).2.1 (TX8 16).2.2.1 ∈ tT := tT_in (cs_tables_1_4) 166 (by decide +kernel) rfl
theorem w_958 : Cond.fieldLink RX8 82 (TX8 17).1 (TX8 17).2.1 (TX8 17).2.2.1 ∈ tT := tT_in (cs_tables_1_4) 167 (by decide +kernel) rfl
theorem w_959 : Cond.fieldLink RX8 85 (TX8 18).1 (TX8 18).2.1 (TX8 18).2.2.1 ∈ tT := tT_in (cs_tables_1_4) 168 (by decide +kernel) rfl
theorem w_960 : Cond.fieldLink RX8 88 (TX8 19).1 (TX8 19).2.1 (TX8 19).2.2.1 ∈ tT := tT_in (cs_tables_1_4) 169 (by decide +kernel) rfl
theorem w_961 : Cond.fieldLink RX8 91 (TX8 20).1 (TX8 20).2.1 (TX8 20).2.2.1 ∈ tT := tT_in (cs_tables_1_4) 170 (by decide +kernel) rfl
theorem w_963 : Cond.fieldLink RX8 94 (TX8 22).1 (TX8 22).2.1 (TX8 22).2.2.1 ∈ tT := tT_in (cs_tables_1_4) 172 (by decide +kernel) rfl
theorem w_964 : Cond.fieldLink RX8 97 (TX8 23).1 (TX8 23).2.1 (TX8 23).2.2.1 ∈ tT := tT_in (cs_tables_1_4) 173 (by decide +kernel) rfl
theorem w_965 : Cond.fieldLink RX8 100 (TX8 24).1 (TX8 24).2.1 (TX8 24).2.2.1 ∈ tT := tT_in (cs_tables_1_4) 174 (by decide +kernel) rfl
theorem w_966 : Cond.fieldLink RX8 103 (TX8 25).1 (TX8 25).2.1 (TX8 25).2.2.1 ∈ tT := tT_in (cs_tables_1_4) 175 (by decide +kernel) rfl
theorem w_1065 : Cond.methodLink RX8 106 yX8_bad ∈ tT := tT_in (cs_tables_1_5) 34 (by decide +kernel) rfl
theorem w_1067 : Cond.instanceMethod yX8_bad ∈ tT := tT_in (cs_tables_1_5) 36 (by decide +kernel) rfl
theorem w_35 : Cond.selects RX8 yX8_bad yX8_bad ∈ tT := tT_at 35 (by decide +kernel) rfl
theorem w_1068 : Cond.code yX8_bad cX8_bad 2 (some .boolean) ∈ tT := tT_in (cs_tables_1_5) 37 (by decide +kernel) rfl
theorem w_1073 : Cond.methodLink RX8 109 yX8_isIn ∈ tT := tT_in (cs_tables_1_5) 42 (by decide +kernel) rfl
theorem w_1074 : Cond.static yX8_isIn ∈ tT := tT_in (cs_tables_1_5) 43 (by decide +kernel) rfl
theorem w_1075 : Cond.code yX8_isIn cX8_isIn 3 (some .boolean) ∈ tT := tT_in (cs_tables_1_5) 44 (by decide +kernel) rfl
theorem w_1030 : Cond.methodLink RX8 113 yX8_go ∈ tT := tT_in (cs_tables_1_4) 239 (by decide +kernel) rfl
theorem w_1032 : Cond.instanceMethod yX8_go ∈ tT := tT_in (cs_tables_1_5) 1 (by decide +kernel) rfl
theorem w_30 : Cond.selects RX8 yX8_go yX8_go ∈ tT := tT_at 30 (by decide +kernel) rfl
theorem w_1033 : Cond.code yX8_go cX8_go 5 none ∈ tT := tT_in (cs_tables_1_5) 2 (by decide +kernel) rfl
theorem w_956 : Cond.fieldLink RX8 116 (TX8 15).1 (TX8 15).2.1 (TX8 15).2.2.1 ∈ tT := tT_in (cs_tables_1_4) 165 (by decide +kernel) rfl
theorem w_1054 : Cond.methodLink RX8 119 yX8_six ∈ tT := tT_in (cs_tables_1_5) 23 (by decide +kernel) rfl
theorem w_1055 : Cond.static yX8_six ∈ tT := tT_in (cs_tables_1_5) 24 (by decide +kernel) rfl
theorem w_1056 : Cond.code yX8_six cX8_six 6 (some .long) ∈ tT := tT_in (cs_tables_1_5) 25 (by decide +kernel) rfl
theorem w_1061 : Cond.methodLink RX8 123 yX8_isWord ∈ tT := tT_in (cs_tables_1_5) 30 (by decide +kernel) rfl
theorem w_1063 : Cond.instanceMethod yX8_isWord ∈ tT := tT_in (cs_tables_1_5) 32 (by decide +kernel) rfl
theorem w_34 : Cond.selects RX8 yX8_isWord yX8_isWord ∈ tT := tT_at 34 (by decide +kernel) rfl
theorem w_1064 : Cond.code yX8_isWord cX8_isWord 3 (some .boolean) ∈ tT := tT_in (cs_tables_1_5) 33 (by decide +kernel) rfl
theorem w_1069 : Cond.methodLink RX8 127 yX8_told ∈ tT := tT_in (cs_tables_1_5) 38 (by decide +kernel) rfl
theorem w_1071 : Cond.instanceMethod yX8_told ∈ tT := tT_in (cs_tables_1_5) 40 (by decide +kernel) rfl
theorem w_36 : Cond.selects RX8 yX8_told yX8_told ∈ tT := tT_at 36 (by decide +kernel) rfl
theorem w_1072 : Cond.code yX8_told cX8_told 4 (some .boolean) ∈ tT := tT_in (cs_tables_1_5) 41 (by decide +kernel) rfl
theorem w_1084 : Cond.methodLink RX8 130 yX8_four ∈ tT := tT_in (cs_tables_1_5) 53 (by decide +kernel) rfl
theorem w_1085 : Cond.static yX8_four ∈ tT := tT_in (cs_tables_1_5) 54 (by decide +kernel) rfl
theorem w_1086 : Cond.code yX8_four cX8_four 4 (some .long) ∈ tT := tT_in (cs_tables_1_5) 55 (by decide +kernel) rfl
theorem w_1087 : Cond.constantLong RX8 134 (4) ∈ tT := tT_in (cs_tables_1_5) 56 (by decide +kernel) rfl
theorem w_1096 : Cond.methodLink RX8 136 yX8_oneOf ∈ tT := tT_in (cs_tables_1_5) 65 (by decide +kernel) rfl
theorem w_1098 : Cond.instanceMethod yX8_oneOf ∈ tT := tT_in (cs_tables_1_5) 67 (by decide +kernel) rfl
theorem w_40 : Cond.selects RX8 yX8_oneOf yX8_oneOf ∈ tT := tT_at 40 (by decide +kernel) rfl
theorem w_1099 : Cond.code yX8_oneOf cX8_oneOf 2 (some .boolean) ∈ tT := tT_in (cs_tables_1_5) 68 (by decide +kernel) rfl
theorem w_1050 : Cond.methodLink RX8 139 yX8_readTanker ∈ tT := tT_in (cs_tables_1_5) 19 (by decide +kernel) rfl
theorem w_1052 : Cond.instanceMethod yX8_readTanker ∈ tT := tT_in (cs_tables_1_5) 21 (by decide +kernel) rfl
theorem w_33 : Cond.selects RX8 yX8_readTanker yX8_readTanker ∈ tT := tT_at 33 (by decide +kernel) rfl
theorem w_1053 : Cond.code yX8_readTanker cX8_readTanker 2 (some .boolean) ∈ tT := tT_in (cs_tables_1_5) 22 (by decide +kernel) rfl
theorem w_1076 : Cond.constantLong RX8 143 (14348907) ∈ tT := tT_in (cs_tables_1_5) 45 (by decide +kernel) rfl
theorem w_1077 : Cond.constantLong RX8 145 (729) ∈ tT := tT_in (cs_tables_1_5) 46 (by decide +kernel) rfl
theorem w_1078 : Cond.constantLong RX8 147 (378) ∈ tT := tT_in (cs_tables_1_5) 47 (by decide +kernel) rfl
theorem w_1079 : Cond.constantLong RX8 149 (20) ∈ tT := tT_in (cs_tables_1_5) 48 (by decide +kernel) rfl
theorem w_1080 : Cond.methodLink RX8 151 yX8_readHold ∈ tT := tT_in (cs_tables_1_5) 49 (by decide +kernel) rfl
theorem w_1082 : Cond.instanceMethod yX8_readHold ∈ tT := tT_in (cs_tables_1_5) 51 (by decide +kernel) rfl
theorem w_37 : Cond.selects RX8 yX8_readHold yX8_readHold ∈ tT := tT_at 37 (by decide +kernel) rfl
theorem w_1083 : Cond.code yX8_readHold cX8_readHold 3 (some .boolean) ∈ tT := tT_in (cs_tables_1_5) 52 (by decide +kernel) rfl
theorem w_1088 : Cond.methodLink RX8 154 yX8_readLiquid ∈ tT := tT_in (cs_tables_1_5) 57 (by decide +kernel) rfl
theorem w_1090 : Cond.instanceMethod yX8_readLiquid ∈ tT := tT_in (cs_tables_1_5) 59 (by decide +kernel) rfl
theorem w_38 : Cond.selects RX8 yX8_readLiquid yX8_readLiquid ∈ tT := tT_at 38 (by decide +kernel) rfl
theorem w_1091 : Cond.code yX8_readLiquid cX8_readLiquid 1 (some .boolean) ∈ tT := tT_in (cs_tables_1_5) 60 (by decide +kernel) rfl
theorem w_1092 : Cond.methodLink RX8 157 yX8_readBar ∈ tT := tT_in (cs_tables_1_5) 61 (by decide +kernel) rfl
theorem w_1094 : Cond.instanceMethod yX8_readBar ∈ tT := tT_in (cs_tables_1_5) 63 (by decide +kernel) rfl
theorem w_39 : Cond.selects RX8 yX8_readBar yX8_readBar ∈ tT := tT_at 39 (by decide +kernel) rfl
theorem w_1095 : Cond.code yX8_readBar cX8_readBar 2 (some .boolean) ∈ tT := tT_in (cs_tables_1_5) 64 (by decide +kernel) rfl
theorem w_1100 : Cond.methodLink RX8 160 yX8_readLast ∈ tT := tT_in (cs_tables_1_5) 69 (by decide +kernel) rfl
theorem w_1102 : Cond.instanceMethod yX8_readLast ∈ tT := tT_in (cs_tables_1_5) 71 (by decide +kernel) rfl
theorem w_41 : Cond.selects RX8 yX8_readLast yX8_readLast ∈ tT := tT_at 41 (by decide +kernel) rfl
theorem w_1103 : Cond.code yX8_readLast cX8_readLast 2 (some .boolean) ∈ tT := tT_in (cs_tables_1_5) 72 (by decide +kernel) rfl
theorem w_1104 : Cond.methodLink RX8 163 yX8_readDrop ∈ tT := tT_in (cs_tables_1_5) 73 (by decide +kernel) rfl
theorem w_1106 : Cond.instanceMethod yX8_readDrop ∈ tT := tT_in (cs_tables_1_5) 75 (by decide +kernel) rfl
theorem w_42 : Cond.selects RX8 yX8_readDrop yX8_readDrop ∈ tT := tT_at 42 (by decide +kernel) rfl
theorem w_1107 : Cond.code yX8_readDrop cX8_readDrop 2 (some .boolean) ∈ tT := tT_in (cs_tables_1_5) 76 (by decide +kernel) rfl
theorem w_1046 : Cond.methodLink RX8 166 yX8_readLine ∈ tT := tT_in (cs_tables_1_5) 15 (by decide +kernel) rfl
theorem w_1048 : Cond.instanceMethod yX8_readLine ∈ tT := tT_in (cs_tables_1_5) 17 (by decide +kernel) rfl
theorem w_32 : Cond.selects RX8 yX8_readLine yX8_readLine ∈ tT := tT_at 32 (by decide +kernel) rfl
theorem w_1049 : Cond.code yX8_readLine cX8_readLine 2 (some .boolean) ∈ tT := tT_in (cs_tables_1_5) 18 (by decide +kernel) rfl
theorem w_1108 : Cond.methodLink RX8 170 yX8_readEnd ∈ tT := tT_in (cs_tables_1_5) 77 (by decide +kernel) rfl
theorem w_1110 : Cond.instanceMethod yX8_readEnd ∈ tT := tT_in (cs_tables_1_5) 79 (by decide +kernel) rfl
theorem w_43 : Cond.selects RX8 yX8_readEnd yX8_readEnd ∈ tT := tT_at 43 (by decide +kernel) rfl
theorem w_1111 : Cond.code yX8_readEnd cX8_readEnd 1 (some .boolean) ∈ tT := tT_in (cs_tables_1_5) 80 (by decide +kernel) rfl
theorem w_955 : Cond.fieldLink RX8 173 (TX8 14).1 (TX8 14).2.1 (TX8 14).2.2.1 ∈ tT := tT_in (cs_tables_1_4) 164 (by decide +kernel) rfl
theorem w_1124 : Cond.methodLink RX8 176 yX8_holds ∈ tT := tT_in (cs_tables_1_5) 93 (by decide +kernel) rfl
theorem w_1126 : Cond.instanceMethod yX8_holds ∈ tT := tT_in (cs_tables_1_5) 95 (by decide +kernel) rfl
theorem w_45 : Cond.selects RX8 yX8_holds yX8_holds ∈ tT := tT_at 45 (by decide +kernel) rfl
theorem w_1127 : Cond.code yX8_holds cX8_holds 3 (some .int) ∈ tT := tT_in (cs_tables_1_5) 96 (by decide +kernel) rfl
theorem w_1128 : Cond.methodLink RX8 180 yX8_its ∈ tT := tT_in (cs_tables_1_5) 97 (by decide +kernel) rfl
theorem w_1130 : Cond.instanceMethod yX8_its ∈ tT := tT_in (cs_tables_1_5) 99 (by decide +kernel) rfl
theorem w_46 : Cond.selects RX8 yX8_its yX8_its ∈ tT := tT_at 46 (by decide +kernel) rfl
theorem w_1131 : Cond.code yX8_its cX8_its 3 (some .int) ∈ tT := tT_in (cs_tables_1_5) 100 (by decide +kernel) rfl
theorem w_1136 : Cond.methodLink RX8 183 yX8_has ∈ tT := tT_in (cs_tables_1_5) 105 (by decide +kernel) rfl
theorem w_1137 : Cond.static yX8_has ∈ tT := tT_in (cs_tables_1_5) 106 (by decide +kernel) rfl
theorem w_1138 : Cond.code yX8_has cX8_has 2 (some .boolean) ∈ tT := tT_in (cs_tables_1_5) 107 (by decide +kernel) rfl
theorem w_1168 : Cond.methodLink RX8 187 yX8_lastIn ∈ tT := tT_in (cs_tables_1_5) 137 (by decide +kernel) rfl
theorem w_1170 : Cond.instanceMethod yX8_lastIn ∈ tT := tT_in (cs_tables_1_5) 139 (by decide +kernel) rfl
theorem w_54 : Cond.selects RX8 yX8_lastIn yX8_lastIn ∈ tT := tT_at 54 (by decide +kernel) rfl
theorem w_1171 : Cond.code yX8_lastIn cX8_lastIn 2 (some .int) ∈ tT := tT_in (cs_tables_1_5) 140 (by decide +kernel) rfl
theorem w_1143 : Cond.methodLink RX8 190 yX8_muchBut ∈ tT := tT_in (cs_tables_1_5) 112 (by decide +kernel) rfl
theorem w_1145 : Cond.instanceMethod yX8_muchBut ∈ tT := tT_in (cs_tables_1_5) 114 (by decide +kernel) rfl
theorem w_49 : Cond.selects RX8 yX8_muchBut yX8_muchBut ∈ tT := tT_at 49 (by decide +kernel) rfl
theorem w_1146 : Cond.code yX8_muchBut cX8_muchBut 3 (some .int) ∈ tT := tT_in (cs_tables_1_5) 115 (by decide +kernel) rfl
theorem w_1139 : Cond.methodLink RX8 193 yX8_front ∈ tT := tT_in (cs_tables_1_5) 108 (by decide +kernel) rfl
theorem w_1141 : Cond.instanceMethod yX8_front ∈ tT := tT_in (cs_tables_1_5) 110 (by decide +kernel) rfl
theorem w_48 : Cond.selects RX8 yX8_front yX8_front ∈ tT := tT_at 48 (by decide +kernel) rfl
theorem w_1142 : Cond.code yX8_front cX8_front 4 (some .int) ∈ tT := tT_in (cs_tables_1_5) 111 (by decide +kernel) rfl
theorem w_1147 : Cond.methodLink RX8 196 yX8_rear ∈ tT := tT_in (cs_tables_1_5) 116 (by decide +kernel) rfl
theorem w_1149 : Cond.instanceMethod yX8_rear ∈ tT := tT_in (cs_tables_1_5) 118 (by decide +kernel) rfl
theorem w_50 : Cond.selects RX8 yX8_rear yX8_rear ∈ tT := tT_at 50 (by decide +kernel) rfl
theorem w_1150 : Cond.code yX8_rear cX8_rear 4 (some .int) ∈ tT := tT_in (cs_tables_1_5) 119 (by decide +kernel) rfl
theorem w_962 : Cond.fieldLink RX8 199 (TX8 21).1 (TX8 21).2.1 (TX8 21).2.2.1 ∈ tT := tT_in (cs_tables_1_4) 171 (by decide +kernel) rfl
theorem w_1151 : Cond.methodLink RX8 202 yX8_stands ∈ tT := tT_in (cs_tables_1_5) 120 (by decide +kernel) rfl
theorem w_1153 : Cond.instanceMethod yX8_stands ∈ tT := tT_in (cs_tables_1_5) 122 (by decide +kernel) rfl
theorem w_51 : Cond.selects RX8 yX8_stands yX8_stands ∈ tT := tT_at 51 (by decide +kernel) rfl
theorem w_1154 : Cond.code yX8_stands cX8_stands 4 (some .int) ∈ tT := tT_in (cs_tables_1_5) 123 (by decide +kernel) rfl
theorem w_1216 : Cond.methodLink RX8 205 yX8_ordersFrom ∈ tT := tT_in (cs_tables_1_5) 185 (by decide +kernel) rfl
theorem w_1218 : Cond.instanceMethod yX8_ordersFrom ∈ tT := tT_in (cs_tables_1_5) 187 (by decide +kernel) rfl
theorem w_62 : Cond.selects RX8 yX8_ordersFrom yX8_ordersFrom ∈ tT := tT_at 62 (by decide +kernel) rfl
theorem w_1219 : Cond.code yX8_ordersFrom cX8_ordersFrom 6 (some .int) ∈ tT := tT_in (cs_tables_1_5) 188 (by decide +kernel) rfl
theorem w_1120 : Cond.methodLink RX8 209 yX8_laysNow ∈ tT := tT_in (cs_tables_1_5) 89 (by decide +kernel) rfl
theorem w_1122 : Cond.instanceMethod yX8_laysNow ∈ tT := tT_in (cs_tables_1_5) 91 (by decide +kernel) rfl
theorem w_44 : Cond.selects RX8 yX8_laysNow yX8_laysNow ∈ tT := tT_at 44 (by decide +kernel) rfl
theorem w_1123 : Cond.code yX8_laysNow cX8_laysNow 2 none ∈ tT := tT_in (cs_tables_1_5) 92 (by decide +kernel) rfl
theorem w_1132 : Cond.methodLink RX8 212 yX8_bars ∈ tT := tT_in (cs_tables_1_5) 101 (by decide +kernel) rfl
theorem w_1134 : Cond.instanceMethod yX8_bars ∈ tT := tT_in (cs_tables_1_5) 103 (by decide +kernel) rfl
theorem w_47 : Cond.selects RX8 yX8_bars yX8_bars ∈ tT := tT_at 47 (by decide +kernel) rfl
theorem w_1135 : Cond.code yX8_bars cX8_bars 4 (some .int) ∈ tT := tT_in (cs_tables_1_5) 104 (by decide +kernel) rfl
theorem w_1155 : Cond.constant RX8 216 (-100000000) ∈ tT := tT_in (cs_tables_1_5) 124 (by decide +kernel) rfl
theorem w_1160 : Cond.methodLink RX8 217 yX8_isHold ∈ tT := tT_in (cs_tables_1_5) 129 (by decide +kernel) rfl
theorem w_1162 : Cond.instanceMethod yX8_isHold ∈ tT := tT_in (cs_tables_1_5) 131 (by decide +kernel) rfl
theorem w_52 : Cond.selects RX8 yX8_isHold yX8_isHold ∈ tT := tT_at 52 (by decide +kernel) rfl
theorem w_1163 : Cond.code yX8_isHold cX8_isHold 2 (some .boolean) ∈ tT := tT_in (cs_tables_1_5) 132 (by decide +kernel) rfl
theorem w_1164 : Cond.methodLink RX8 220 yX8_top ∈ tT := tT_in (cs_tables_1_5) 133 (by decide +kernel) rfl
theorem w_1166 : Cond.instanceMethod yX8_top ∈ tT := tT_in (cs_tables_1_5) 135 (by decide +kernel) rfl
theorem w_53 : Cond.selects RX8 yX8_top yX8_top ∈ tT := tT_at 53 (by decide +kernel) rfl
theorem w_1167 : Cond.code yX8_top cX8_top 2 (some .int) ∈ tT := tT_in (cs_tables_1_5) 136 (by decide +kernel) rfl
theorem w_1176 : Cond.methodLink RX8 223 yX8_isDrop ∈ tT := tT_in (cs_tables_1_5) 145 (by decide +kernel) rfl
theorem w_1178 : Cond.instanceMethod yX8_isDrop ∈ tT := tT_in (cs_tables_1_5) 147 (by decide +kernel) rfl
theorem w_55 : Cond.selects RX8 yX8_isDrop yX8_isDrop ∈ tT := tT_at 55 (by decide +kernel) rfl
theorem w_1179 : Cond.code yX8_isDrop cX8_isDrop 2 (some .boolean) ∈ tT := tT_in (cs_tables_1_5) 148 (by decide +kernel) rfl
theorem w_1180 : Cond.methodLink RX8 226 yX8_refuse ∈ tT := tT_in (cs_tables_1_5) 149 (by decide +kernel) rfl
theorem w_1182 : Cond.instanceMethod yX8_refuse ∈ tT := tT_in (cs_tables_1_5) 151 (by decide +kernel) rfl
theorem w_56 : Cond.selects RX8 yX8_refuse yX8_refuse ∈ tT := tT_at 56 (by decide +kernel) rfl
theorem w_1183 : Cond.code yX8_refuse cX8_refuse 1 (some .int) ∈ tT := tT_in (cs_tables_1_5) 152 (by decide +kernel) rfl
theorem w_1184 : Cond.methodLink RX8 229 yX8_loadedOf ∈ tT := tT_in (cs_tables_1_5) 153 (by decide +kernel) rfl
theorem w_1186 : Cond.instanceMethod yX8_loadedOf ∈ tT := tT_in (cs_tables_1_5) 155 (by decide +kernel) rfl
theorem w_57 : Cond.selects RX8 yX8_loadedOf yX8_loadedOf ∈ tT := tT_at 57 (by decide +kernel) rfl
theorem w_1187 : Cond.code yX8_loadedOf cX8_loadedOf 4 (some .int) ∈ tT := tT_in (cs_tables_1_5) 156 (by decide +kernel) rfl
theorem w_1192 : Cond.methodLink RX8 232 yX8_isLiquid ∈ tT := tT_in (cs_tables_1_5) 161 (by decide +kernel) rfl
theorem w_1194 : Cond.instanceMethod yX8_isLiquid ∈ tT := tT_in (cs_tables_1_5) 163 (by decide +kernel) rfl
theorem w_58 : Cond.selects RX8 yX8_isLiquid yX8_isLiquid ∈ tT := tT_at 58 (by decide +kernel) rfl
theorem w_1195 : Cond.code yX8_isLiquid cX8_isLiquid 2 (some .boolean) ∈ tT := tT_in (cs_tables_1_5) 164 (by decide +kernel) rfl
theorem w_1196 : Cond.methodLink RX8 235 yX8_mayCome ∈ tT := tT_in (cs_tables_1_5) 165 (by decide +kernel) rfl
theorem w_1198 : Cond.instanceMethod yX8_mayCome ∈ tT := tT_in (cs_tables_1_5) 167 (by decide +kernel) rfl
theorem w_59 : Cond.selects RX8 yX8_mayCome yX8_mayCome ∈ tT := tT_at 59 (by decide +kernel) rfl
theorem w_1199 : Cond.code yX8_mayCome cX8_mayCome 4 (some .boolean) ∈ tT := tT_in (cs_tables_1_5) 168 (by decide +kernel) rfl
theorem w_1208 : Cond.methodLink RX8 238 yX8_aboardNow ∈ tT := tT_in (cs_tables_1_5) 177 (by decide +kernel) rfl
theorem w_1210 : Cond.instanceMethod yX8_aboardNow ∈ tT := tT_in (cs_tables_1_5) 179 (by decide +kernel) rfl
theorem w_60 : Cond.selects RX8 yX8_aboardNow yX8_aboardNow ∈ tT := tT_at 60 (by decide +kernel) rfl
theorem w_1211 : Cond.code yX8_aboardNow cX8_aboardNow 3 (some .int) ∈ tT := tT_in (cs_tables_1_5) 180 (by decide +kernel) rfl
theorem w_1212 : Cond.methodLink RX8 241 yX8_ordersOf ∈ tT := tT_in (cs_tables_1_5) 181 (by decide +kernel) rfl
theorem w_1214 : Cond.instanceMethod yX8_ordersOf ∈ tT := tT_in (cs_tables_1_5) 183 (by decide +kernel) rfl
theorem w_61 : Cond.selects RX8 yX8_ordersOf yX8_ordersOf ∈ tT := tT_at 61 (by decide +kernel) rfl
theorem w_1215 : Cond.code yX8_ordersOf cX8_ordersOf 2 (some .int) ∈ tT := tT_in (cs_tables_1_5) 184 (by decide +kernel) rfl
theorem w_1244 : Cond.methodLink RX8 244 yX8_pours ∈ tT := tT_in (cs_tables_1_5) 213 (by decide +kernel) rfl
theorem w_1246 : Cond.instanceMethod yX8_pours ∈ tT := tT_in (cs_tables_1_5) 215 (by decide +kernel) rfl
theorem w_66 : Cond.selects RX8 yX8_pours yX8_pours ∈ tT := tT_at 66 (by decide +kernel) rfl
theorem w_1247 : Cond.code yX8_pours cX8_pours 8 (some .int) ∈ tT := tT_in (cs_tables_1_5) 216 (by decide +kernel) rfl
theorem w_967 : Cond.fieldLink RX8 247 (TX8 26).1 (TX8 26).2.1 (TX8 26).2.2.1 ∈ tT := tT_in (cs_tables_1_4) 176 (by decide +kernel) rfl
theorem w_968 : Cond.fieldLink RX8 250 (TX8 27).1 (TX8 27).2.1 (TX8 27).2.2.1 ∈ tT := tT_in (cs_tables_1_4) 177 (by decide +kernel) rfl
theorem w_1240 : Cond.methodLink RX8 253 yX8_looks ∈ tT := tT_in (cs_tables_1_5) 209 (by decide +kernel) rfl
theorem w_1242 : Cond.instanceMethod yX8_looks ∈ tT := tT_in (cs_tables_1_5) 211 (by decide +kernel) rfl
theorem w_65 : Cond.selects RX8 yX8_looks yX8_looks ∈ tT := tT_at 65 (by decide +kernel) rfl
theorem w_1243 : Cond.code yX8_looks cX8_looks 6 none ∈ tT := tT_in (cs_tables_1_5) 212 (by decide +kernel) rfl
theorem w_1236 : Cond.methodLink RX8 256 yX8_tries ∈ tT := tT_in (cs_tables_1_5) 205 (by decide +kernel) rfl
theorem w_1238 : Cond.instanceMethod yX8_tries ∈ tT := tT_in (cs_tables_1_5) 207 (by decide +kernel) rfl
theorem w_64 : Cond.selects RX8 yX8_tries yX8_tries ∈ tT := tT_at 64 (by decide +kernel) rfl
theorem w_1239 : Cond.code yX8_tries cX8_tries 4 none ∈ tT := tT_in (cs_tables_1_5) 208 (by decide +kernel) rfl
theorem w_1232 : Cond.methodLink RX8 260 yX8_laysPlan ∈ tT := tT_in (cs_tables_1_5) 201 (by decide +kernel) rfl
theorem w_1234 : Cond.instanceMethod yX8_laysPlan ∈ tT := tT_in (cs_tables_1_5) 203 (by decide +kernel) rfl
theorem w_63 : Cond.selects RX8 yX8_laysPlan yX8_laysPlan ∈ tT := tT_at 63 (by decide +kernel) rfl
theorem w_1235 : Cond.code yX8_laysPlan cX8_laysPlan 3 none ∈ tT := tT_in (cs_tables_1_5) 204 (by decide +kernel) rfl
theorem w_1252 : Cond.methodLink RX8 263 yX8_having ∈ tT := tT_in (cs_tables_1_5) 221 (by decide +kernel) rfl
theorem w_1254 : Cond.instanceMethod yX8_having ∈ tT := tT_in (cs_tables_1_5) 223 (by decide +kernel) rfl
theorem w_67 : Cond.selects RX8 yX8_having yX8_having ∈ tT := tT_at 67 (by decide +kernel) rfl
theorem w_1255 : Cond.code yX8_having cX8_having 4 (some .int) ∈ tT := tT_in (cs_tables_1_5) 224 (by decide +kernel) rfl
theorem w_1260 : Cond.methodLink RX8 266 yX8_snap ∈ tT := tT_in (cs_tables_1_5) 229 (by decide +kernel) rfl
theorem w_1262 : Cond.instanceMethod yX8_snap ∈ tT := tT_in (cs_tables_1_5) 231 (by decide +kernel) rfl
theorem w_68 : Cond.selects RX8 yX8_snap yX8_snap ∈ tT := tT_at 68 (by decide +kernel) rfl
theorem w_1263 : Cond.code yX8_snap cX8_snap 2 none ∈ tT := tT_in (cs_tables_1_5) 232 (by decide +kernel) rfl
theorem w_1272 : Cond.methodLink RX8 269 yX8_puts ∈ tT := tT_in (cs_tables_1_6) 1 (by decide +kernel) rfl
theorem w_1274 : Cond.instanceMethod yX8_puts ∈ tT := tT_in (cs_tables_1_6) 3 (by decide +kernel) rfl
theorem w_69 : Cond.selects RX8 yX8_puts yX8_puts ∈ tT := tT_at 69 (by decide +kernel) rfl
theorem w_1275 : Cond.code yX8_puts cX8_puts 4 none ∈ tT := tT_in (cs_tables_1_6) 4 (by decide +kernel) rfl
theorem w_1284 : Cond.methodLink RX8 273 yX8_goes ∈ tT := tT_in (cs_tables_1_6) 13 (by decide +kernel) rfl
theorem w_1286 : Cond.instanceMethod yX8_goes ∈ tT := tT_in (cs_tables_1_6) 15 (by decide +kernel) rfl
theorem w_70 : Cond.selects RX8 yX8_goes yX8_goes ∈ tT := tT_at 70 (by decide +kernel) rfl
theorem w_1287 : Cond.code yX8_goes cX8_goes 2 none ∈ tT := tT_in (cs_tables_1_6) 16 (by decide +kernel) rfl
theorem w_607 : Cond.constantLong RJ13 314 (6148914691236517205) ∈ tT := tT_in (cs_tables_1_3) 56 (by decide +kernel) rfl
theorem w_608 : Cond.constantLong RJ13 316 (3689348814741910323) ∈ tT := tT_in (cs_tables_1_3) 57 (by decide +kernel) rfl
theorem w_609 : Cond.constantLong RJ13 318 (1085102592571150095) ∈ tT := tT_in (cs_tables_1_3) 58 (by decide +kernel) rfl
theorem w_1314 : Cond.fieldLink RJ0 9 "java/lang/String" "value" "[B" ∈ tT := tT_in (cs_tables_1_6) 43 (by decide +kernel) rfl
theorem w_491 : Cond.methodLink RJ0 335 yJ0_coder_7d493 ∈ tT := tT_in (cs_tables_1_2) 180 (by decide +kernel) rfl
theorem w_492 : Cond.instanceMethod yJ0_coder_7d493 ∈ tT := tT_in (cs_tables_1_2) 181 (by decide +kernel) rfl
theorem w_493 : Cond.selects RJ0 yJ0_coder_7d493 yJ0_coder_7d493 ∈ tT := tT_in (cs_tables_1_2) 182 (by decide +kernel) rfl
theorem w_494 : Cond.code yJ0_coder_7d493 cJ0_coder_7d493 1 (some .byte) ∈ tT := tT_in (cs_tables_1_2) 183 (by decide +kernel) rfl
theorem w_495 : Cond.fieldLink RJ0 38 "java/lang/String" "COMPACT_STRINGS" "Z" ∈ tT := tT_in (cs_tables_1_2) 184 (by decide +kernel) rfl
theorem w_1315 : Cond.fieldLink RJ0 15 "java/lang/String" "coder" "B" ∈ tT := tT_in (cs_tables_1_6) 44 (by decide +kernel) rfl
theorem w_501 : Cond.methodLink RJ0 492 yJ0_isLatin1_aae02 ∈ tT := tT_in (cs_tables_1_2) 190 (by decide +kernel) rfl
theorem w_502 : Cond.instanceMethod yJ0_isLatin1_aae02 ∈ tT := tT_in (cs_tables_1_2) 191 (by decide +kernel) rfl
theorem w_503 : Cond.selects RJ0 yJ0_isLatin1_aae02 yJ0_isLatin1_aae02 ∈ tT := tT_in (cs_tables_1_2) 192 (by decide +kernel) rfl
theorem w_504 : Cond.code yJ0_isLatin1_aae02 cJ0_isLatin1_aae02 1 (some .boolean) ∈ tT := tT_in (cs_tables_1_2) 193 (by decide +kernel) rfl
theorem w_505 : Cond.methodLink RJ0 495 yJ1_charAt_3b067 ∈ tT := tT_in (cs_tables_1_2) 194 (by decide +kernel) rfl
theorem w_506 : Cond.static yJ1_charAt_3b067 ∈ tT := tT_in (cs_tables_1_2) 195 (by decide +kernel) rfl
theorem w_84 : Cond.initialized RJ1 ∈ tT := tT_in (cs_tables_1_1) 13 (by decide +kernel) rfl
theorem w_507 : Cond.code yJ1_charAt_3b067 cJ1_charAt_3b067 2 (some .char) ∈ tT := tT_in (cs_tables_1_2) 196 (by decide +kernel) rfl
theorem w_511 : Cond.fieldLink RJ0 1053 "jdk/internal/util/Preconditions" "SIOOBE_FORMATTER" "Ljava/util/function/BiFunction;" ∈ tT := tT_in (cs_tables_1_2) 200 (by decide +kernel) rfl
theorem w_513 : Cond.methodLink RJ0 1059 yJ3_checkIndex_8e157 ∈ tT := tT_in (cs_tables_1_2) 202 (by decide +kernel) rfl
theorem w_514 : Cond.static yJ3_checkIndex_8e157 ∈ tT := tT_in (cs_tables_1_2) 203 (by decide +kernel) rfl
theorem w_85 : Cond.initialized RJ3 ∈ tT := tT_in (cs_tables_1_1) 14 (by decide +kernel) rfl
theorem w_515 : Cond.code yJ3_checkIndex_8e157 cJ3_checkIndex_8e157 3 (some .int) ∈ tT := tT_in (cs_tables_1_2) 204 (by decide +kernel) rfl
theorem w_508 : Cond.methodLink RJ1 9 yJ0_checkIndex_df160 ∈ tT := tT_in (cs_tables_1_2) 197 (by decide +kernel) rfl
theorem w_509 : Cond.static yJ0_checkIndex_df160 ∈ tT := tT_in (cs_tables_1_2) 198 (by decide +kernel) rfl
theorem w_510 : Cond.code yJ0_checkIndex_df160 cJ0_checkIndex_df160 2 none ∈ tT := tT_in (cs_tables_1_2) 199 (by decide +kernel) rfl
theorem cl_X0 : vC[0]? = some (RX0, TX0, 4) := rfl
theorem gX0 : ∀ w ∈ u_ws RX0 TX0 4, w ∈ tT := u_ws_good inX0
theorem dfX0 : ∀ j, j < 4 → defaultValue (tyX0 j) = vp_V [.null, .null, .null, .null] j := by decide +kernel
theorem cl_X1 : vC[1]? = some (RX1, TX1, 3) := rfl
theorem gX1 : ∀ w ∈ u_ws RX1 TX1 3, w ∈ tT := u_ws_good inX1
theorem dfX1 : ∀ j, j < 3 → defaultValue (tyX1 j) = vp_V [.null, .int 0, .int 0] j := by decide +kernel
theorem cl_X2 : vC[2]? = some (RX2, TX2, 4) := rfl
theorem gX2 : ∀ w ∈ u_ws RX2 TX2 4, w ∈ tT := u_ws_good inX2
theorem dfX2 : ∀ j, j < 4 → defaultValue (tyX2 j) = vp_V [.int 0, .null, .null, .null] j := by decide +kernel
theorem cl_X3 : vC[3]? = some (RX3, TX3, 18) := rfl
theorem gX3 : ∀ w ∈ u_ws RX3 TX3 18, w ∈ tT := u_ws_good inX3
theorem dfX3 : ∀ j, j < 18 → defaultValue (tyX3 j) = vp_V [.null, .null, .null, .null, .int 0, .int 0, .null, .null, .null, .null, .int 0, .int 0, .int 0, .int 0, .int 0, .int 0, .null, .null] j := by decide +kernel
theorem cl_X4 : vC[4]? = some (RX4, TX4, 11) := rfl
theorem gX4 : ∀ w ∈ u_ws RX4 TX4 11, w ∈ tT := u_ws_good inX4
theorem dfX4 : ∀ j, j < 11 → defaultValue (tyX4 j) = vp_V [.null, .null, .int 0, .int 0, .int 0, .int 0, .int 0, .null, .int 0, .int 0, .int 0] j := by decide +kernel
theorem cl_X5 : vC[5]? = some (RX5, TX5, 5) := rfl
theorem gX5 : ∀ w ∈ u_ws RX5 TX5 5, w ∈ tT := u_ws_good inX5
theorem dfX5 : ∀ j, j < 5 → defaultValue (tyX5 j) = vp_V [.null, .int 0, .null, .null, .int 0] j := by decide +kernel
theorem cl_X6 : vC[6]? = some (RX6, TX6, 12) := rfl
theorem gX6 : ∀ w ∈ u_ws RX6 TX6 12, w ∈ tT := u_ws_good inX6
theorem dfX6 : ∀ j, j < 12 → defaultValue (tyX6 j) = vp_V [.null, .int 0, .null, .null, .null, .null, .int 0, .null, .long 0, .int 0, .null, .null] j := by decide +kernel
theorem cl_X7 : vC[7]? = some (RX7, TX7, 11) := rfl
theorem gX7 : ∀ w ∈ u_ws RX7 TX7 11, w ∈ tT := u_ws_good inX7
theorem dfX7 : ∀ j, j < 11 → defaultValue (tyX7 j) = vp_V [.null, .int 0, .int 0, .null, .null, .null, .null, .null, .null, .null, .null] j := by decide +kernel
theorem cl_X8 : vC[8]? = some (RX8, TX8, 28) := rfl
theorem gX8 : ∀ w ∈ u_ws RX8 TX8 28, w ∈ tT := u_ws_good inX8
theorem dfX8 : ∀ j, j < 28 → defaultValue (tyX8 j) = vp_V [.int 0, .null, .int 0, .int 0, .int 0, .int 0, .int 0, .int 0, .int 0, .int 0, .long 0, .null, .null, .null, .int 0, .int 0, .null, .null, .null, .null, .null, .int 0, .null, .null, .null, .null, .int 0, .int 0] j := by decide +kernel
def miL : List MI := [(yX0_init, cX0_init, 1, none, true),
  (yX0_copyFrom, cX0_copyFrom, 2, none, false),
  (yX0_begin, cX0_begin, 2, none, false),
  (yX0_lay, cX0_lay, 6, none, false),
  (yX0_takeOut, cX0_takeOut, 2, none, false),
  (yX0_takeOutAll, cX0_takeOutAll, 3, none, false),
  (yX0_loaded, cX0_loaded, 4, (some .int), false),
  (yX0_partsOf, cX0_partsOf, 4, (some .int), false),
  (yX0_standing, cX0_standing, 5, (some .int), false),
  (yX0_frontLoad, cX0_frontLoad, 6, (some .int), false),
  (yX0_rearLoad, cX0_rearLoad, 5, (some .int), false),
  (yX0_surges, cX0_surges, 5, (some .boolean), false),
  (yX0_isIn, cX0_isIn, 2, (some .boolean), false),
  (yX1_init, cX1_init, 2, none, true),
  (yX1_forget, cX1_forget, 1, none, false),
  (yX1_keep, cX1_keep, 2, none, false),
  (yX1_goBack, cX1_goBack, 2, (some .boolean), false),
  (yX2_init, cX2_init, 1, none, true),
  (yX2_count, cX2_count, 7, (some .int), false),
  (yX2_dropOfFirst, cX2_dropOfFirst, 5, (some .int), false),
  (yX2_collect, cX2_collect, 5, none, false),
  (yX2_partsOfAll, cX2_partsOfAll, 4, (some .int), false),
  (yX2_waysBehind, cX2_waysBehind, 4, (some .int), false),
  (yX2_leastBehind, cX2_leastBehind, 3, (some .int), false),
  (yX3_init, cX3_init, 1, none, true),
  (yX3_findsPlan, cX3_findsPlan, 3, (some .boolean), false),
  (yX3_fewestWashes, cX3_fewestWashes, 3, (some .int), false),
  (yX3_prepare, cX3_prepare, 5, none, false),
  (yX3_deal, cX3_deal, 3, none, false),
  (yX3_isHopeless, cX3_isHopeless, 4, (some .boolean), false),
  (yX3_gives, cX3_gives, 6, (some .boolean), false),
  (yX3_takeBack, cX3_takeBack, 4, none, false),
  (yX3_consider, cX3_consider, 3, none, false),
  (yX3_isBetter, cX3_isBetter, 2, (some .boolean), false),
  (yX3_keepDeal, cX3_keepDeal, 3, none, false),
  (yX4_init, cX4_init, 1, none, true),
  (yX4_reads, cX4_reads, 6, (some .boolean), false),
  (yX4_refuse, cX4_refuse, 2, (some .boolean), false),
  (yX4_readSign, cX4_readSign, 1, (some .boolean), false),
  (yX4_readTanker, cX4_readTanker, 3, (some .boolean), false),
  (yX4_readOther, cX4_readOther, 2, (some .boolean), false),
  (yX4_sortOfWord, cX4_sortOfWord, 1, (some .int), false),
  (yX4_readCompartment, cX4_readCompartment, 2, (some .boolean), false),
  (yX4_readLiquid, cX4_readLiquid, 1, (some .boolean), false),
  (yX4_readBar, cX4_readBar, 2, (some .boolean), false),
  (yX4_readLast, cX4_readLast, 2, (some .boolean), false),
  (yX4_readDrop, cX4_readDrop, 1, (some .boolean), false),
  (yX4_readNumber, cX4_readNumber, 3, (some .boolean), false),
  (yX4_isWord, cX4_isWord, 3, (some .boolean), false),
  (yX4_advance, cX4_advance, 1, none, false),
  (yX4_advanceRun, cX4_advanceRun, 3, none, false),
  (yX4_isLetter, cX4_isLetter, 1, (some .boolean), false),
  (yX4_isDigit, cX4_isDigit, 1, (some .boolean), false),
  (yX5_init, cX5_init, 1, none, true),
  (yX5_begin, cX5_begin, 3, none, false),
  (yX5_addDrop, cX5_addDrop, 1, none, false),
  (yX5_copyFrom, cX5_copyFrom, 2, none, false),
  (yX5_hasDrop, cX5_hasDrop, 2, (some .boolean), false),
  (yX5_how, cX5_how, 3, (some .int), false),
  (yX5_shortOf, cX5_shortOf, 3, (some .int), false),
  (yX5_waiting, cX5_waiting, 4, (some .int), false),
  (yX6_init, cX6_init, 1, none, true),
  (yX6_clear, cX6_clear, 1, none, false),
  (yX6_hasCompartment, cX6_hasCompartment, 2, (some .boolean), false),
  (yX6_hasLiquid, cX6_hasLiquid, 2, (some .boolean), false),
  (yX6_top, cX6_top, 2, (some .int), false),
  (yX6_bar, cX6_bar, 3, none, false),
  (yX6_isBarred, cX6_isBarred, 3, (some .boolean), false),
  (yX7_init, cX7_init, 1, none, true),
  (yX7_feed, cX7_feed, 6, (some .int), false),
  (yX7_end, cX7_end, 2, (some .boolean), false),
  (yX7_text, cX7_text, 3, (some .int), false),
  (yX7_fault, cX7_fault, 1, (some .int), false),
  (yX7_now, cX7_now, 2, (some .int), false),
  (yX7_compartment, cX7_compartment, 3, (some .int), false),
  (yX7_drop, cX7_drop, 3, (some .int), false),
  (yX7_may, cX7_may, 3, (some .boolean), false),
  (yX7_would, cX7_would, 4, (some .int), false),
  (yX7_orders, cX7_orders, 1, (some .int), false),
  (yX7_ordered, cX7_ordered, 2, (some .int), false),
  (yX7_without, cX7_without, 2, (some .int), false),
  (yX7_plan, cX7_plan, 2, (some .int), false),
  (yX7_washes, cX7_washes, 2, (some .int), false),
  (yX7_asks, cX7_asks, 4, (some .int), false),
  (yX7_cancel, cX7_cancel, 2, (some .boolean), false),
  (yX7_put, cX7_put, 6, (some .int), false),
  (yX7_load, cX7_load, 3, (some .int), false),
  (yX7_unload, cX7_unload, 4, (some .int), false),
  (yX7_empty, cX7_empty, 3, (some .int), false),
  (yX7_wash, cX7_wash, 2, (some .boolean), false),
  (yX7_undo, cX7_undo, 1, (some .int), false),
  (yX7_tapeNumber, cX7_tapeNumber, 3, none, false),
  (yX7_isSo, cX7_isSo, 3, (some .boolean), false),
  (yX8_refuse, cX8_refuse, 1, (some .int), false),
  (yX8_isIn, cX8_isIn, 3, (some .boolean), false),
  (yX8_has, cX8_has, 2, (some .boolean), false),
  (yX8_lays, cX8_lays, 3, none, false),
  (yX8_feed, cX8_feed, 6, (some .int), false),
  (yX8_end, cX8_end, 2, (some .boolean), false),
  (yX8_tapeAt, cX8_tapeAt, 2, (some .int), false),
  (yX8_isDigit, cX8_isDigit, 1, (some .boolean), false),
  (yX8_isLetter, cX8_isLetter, 1, (some .boolean), false),
  (yX8_go, cX8_go, 5, none, false),
  (yX8_three, cX8_three, 3, (some .long), false),
  (yX8_six, cX8_six, 6, (some .long), false),
  (yX8_four, cX8_four, 4, (some .long), false),
  (yX8_isWord, cX8_isWord, 3, (some .boolean), false),
  (yX8_bad, cX8_bad, 2, (some .boolean), false),
  (yX8_init, cX8_init, 1, none, true),
  (yX8_told, cX8_told, 4, (some .boolean), false),
  (yX8_oneOf, cX8_oneOf, 2, (some .boolean), false),
  (yX8_readTanker, cX8_readTanker, 2, (some .boolean), false),
  (yX8_readHold, cX8_readHold, 3, (some .boolean), false),
  (yX8_readLiquid, cX8_readLiquid, 1, (some .boolean), false),
  (yX8_readBar, cX8_readBar, 2, (some .boolean), false),
  (yX8_readLast, cX8_readLast, 2, (some .boolean), false),
  (yX8_readDrop, cX8_readDrop, 2, (some .boolean), false),
  (yX8_readLine, cX8_readLine, 2, (some .boolean), false),
  (yX8_readEnd, cX8_readEnd, 1, (some .boolean), false),
  (yX8_text, cX8_text, 3, (some .int), false),
  (yX8_fault, cX8_fault, 1, (some .int), false),
  (yX8_isHold, cX8_isHold, 2, (some .boolean), false),
  (yX8_isLiquid, cX8_isLiquid, 2, (some .boolean), false),
  (yX8_isDrop, cX8_isDrop, 2, (some .boolean), false),
  (yX8_holds, cX8_holds, 3, (some .int), false),
  (yX8_its, cX8_its, 3, (some .int), false),
  (yX8_top, cX8_top, 2, (some .int), false),
  (yX8_lastIn, cX8_lastIn, 2, (some .int), false),
  (yX8_mayCome, cX8_mayCome, 4, (some .boolean), false),
  (yX8_loadedOf, cX8_loadedOf, 4, (some .int), false),
  (yX8_having, cX8_having, 4, (some .int), false),
  (yX8_laysNow, cX8_laysNow, 2, none, false),
  (yX8_muchBut, cX8_muchBut, 3, (some .int), false),
  (yX8_front, cX8_front, 4, (some .int), false),
  (yX8_rear, cX8_rear, 4, (some .int), false),
  (yX8_stands, cX8_stands, 4, (some .int), false),
  (yX8_ordersFrom, cX8_ordersFrom, 6, (some .int), false),
  (yX8_ordersOf, cX8_ordersOf, 2, (some .int), false),
  (yX8_aboardNow, cX8_aboardNow, 3, (some .int), false),
  (yX8_now, cX8_now, 2, (some .int), false),
  (yX8_bars, cX8_bars, 4, (some .int), false),
  (yX8_compartment, cX8_compartment, 3, (some .int), false),
  (yX8_drop, cX8_drop, 3, (some .int), false),
  (yX8_may, cX8_may, 3, (some .boolean), false),
  (yX8_would, cX8_would, 4, (some .int), false),
  (yX8_orders, cX8_orders, 1, (some .int), false),
  (yX8_ordered, cX8_ordered, 2, (some .int), false),
  (yX8_without, cX8_without, 2, (some .int), false),
  (yX8_pours, cX8_pours, 8, (some .int), false),
  (yX8_looks, cX8_looks, 6, none, false),
  (yX8_tries, cX8_tries, 4, none, false),
  (yX8_laysPlan, cX8_laysPlan, 3, none, false),
  (yX8_plan, cX8_plan, 3, (some .int), false),
  (yX8_washes, cX8_washes, 6, (some .int), false),
  (yX8_snap, cX8_snap, 2, none, false),
  (yX8_asks, cX8_asks, 5, (some .int), false),
  (yX8_cancel, cX8_cancel, 2, (some .boolean), false),
  (yX8_puts, cX8_puts, 4, none, false),
  (yX8_put, cX8_put, 5, (some .int), false),
  (yX8_load, cX8_load, 2, (some .int), false),
  (yX8_goes, cX8_goes, 2, none, false),
  (yX8_unload, cX8_unload, 5, (some .int), false),
  (yX8_empty, cX8_empty, 4, (some .int), false),
  (yX8_wash, cX8_wash, 2, (some .boolean), false),
  (yX8_undo, cX8_undo, 2, (some .int), false),
  (yJ7_fill_53178, cJ7_fill_53178, 4, none, false),
  (yJ13_bitCount_95d88, cJ13_bitCount_95d88, 2, (some .int), false),
  (yJ0_length_8abf5, cJ0_length_8abf5, 1, (some .int), false),
  (yJ0_coder_7d493, cJ0_coder_7d493, 1, (some .byte), false),
  (yJ0_charAt_5068e, cJ0_charAt_5068e, 2, (some .char), false),
  (yJ0_isLatin1_aae02, cJ0_isLatin1_aae02, 1, (some .boolean), false),
  (yJ0_checkIndex_df160, cJ0_checkIndex_df160, 2, none, false),
  (yJ1_charAt_3b067, cJ1_charAt_3b067, 2, (some .char), false),
  (yJ3_checkIndex_8e157, cJ3_checkIndex_8e157, 3, (some .int), false)]
def mI (id : Nat) : MI := miL.getD id (yX0_init, cX0_init, 1, none, true)
theorem mi_0 : mI 0 = (yX0_init, cX0_init, 1, none, true) := rfl
theorem ncl_0 : (RX0 : String) ≠ "java/lang/invoke/MethodHandle" ∧ (RX0 : String) ≠ "java/lang/invoke/VarHandle" := by decide +kernel
theorem pds_0 : (parseMethodDescriptor "()V").map (fun d => d.parameters.length) = some 0 := by decide +kernel
theorem na_0 : yX0_init.cls ≠ "java/lang/invoke/MethodHandle" ∧ yX0_init.cls ≠ "java/lang/invoke/VarHandle" ∧ (parseMethodDescriptor yX0_init.desc).map (fun d => d.parameters.length) = some 0 := ⟨ncl_0.1, ncl_0.2, pds_0⟩
theorem mi_1 : mI 1 = (yX0_copyFrom, cX0_copyFrom, 2, none, false) := rfl
theorem pds_1 : (parseMethodDescriptor "(LTankerDesk$Cargo;)V").map (fun d => d.parameters.length) = some 1 := by decide +kernel
theorem na_1 : yX0_copyFrom.cls ≠ "java/lang/invoke/MethodHandle" ∧ yX0_copyFrom.cls ≠ "java/lang/invoke/VarHandle" ∧ (parseMethodDescriptor yX0_copyFrom.desc).map (fun d => d.parameters.length) = some 1 := ⟨ncl_0.1, ncl_0.2, pds_1⟩
theorem mi_2 : mI 2 = (yX0_begin, cX0_begin, 2, none, false) := rfl
theorem pds_2 : (parseMethodDescriptor "(LTankerDesk$Told;)V").map (fun d => d.parameters.length) = some 1 := by decide +kernel
theorem na_2 : yX0_begin.cls ≠ "java/lang/invoke/MethodHandle" ∧ yX0_begin.cls ≠ "java/lang/invoke/VarHandle" ∧ (parseMethodDescriptor yX0_begin.desc).map (fun d => d.parameters.length) = some 1 := ⟨ncl_0.1, ncl_0.2, pds_2⟩
theorem mi_3 : mI 3 = (yX0_lay, cX0_lay, 6, none, false) := rfl
theorem pds_3 : (parseMethodDescriptor "(LTankerDesk$Told;IIII)V").map (fun d => d.parameters.length) = some 5 := by decide +kernel
theorem na_3 : yX0_lay.cls ≠ "java/lang/invoke/MethodHandle" ∧ yX0_lay.cls ≠ "java/lang/invoke/VarHandle" ∧ (parseMethodDescriptor yX0_lay.desc).map (fun d => d.parameters.length) = some 5 := ⟨ncl_0.1, ncl_0.2, pds_3⟩
theorem mi_4 : mI 4 = (yX0_takeOut, cX0_takeOut, 2, none, false) := rfl
theorem pds_4 : (parseMethodDescriptor "(I)V").map (fun d => d.parameters.length) = some 1 := by decide +kernel
theorem na_4 : yX0_takeOut.cls ≠ "java/lang/invoke/MethodHandle" ∧ yX0_takeOut.cls ≠ "java/lang/invoke/VarHandle" ∧ (parseMethodDescriptor yX0_takeOut.desc).map (fun d => d.parameters.length) = some 1 := ⟨ncl_0.1, ncl_0.2, pds_4⟩
theorem mi_5 : mI 5 = (yX0_takeOutAll, cX0_takeOutAll, 3, none, false) := rfl
theorem na_5 : yX0_takeOutAll.cls ≠ "java/lang/invoke/MethodHandle" ∧ yX0_takeOutAll.cls ≠ "java/lang/invoke/VarHandle" ∧ (parseMethodDescriptor yX0_takeOutAll.desc).map (fun d => d.parameters.length) = some 1 := ⟨ncl_0.1, ncl_0.2, pds_4⟩
theorem mi_6 : mI 6 = (yX0_loaded, cX0_loaded, 4, (some .int), false) := rfl
theorem pds_5 : (parseMethodDescriptor "(I)I").map (fun d => d.parameters.length) = some 1 := by decide +kernel
theorem na_6 : yX0_loaded.cls ≠ "java/lang/invoke/MethodHandle" ∧ yX0_loaded.cls ≠ "java/lang/invoke/VarHandle" ∧ (parseMethodDescriptor yX0_loaded.desc).map (fun d => d.parameters.length) = some 1 := ⟨ncl_0.1, ncl_0.2, pds_5⟩
theorem mi_7 : mI 7 = (yX0_partsOf, cX0_partsOf, 4, (some .int), false) := rfl
theorem na_7 : yX0_partsOf.cls ≠ "java/lang/invoke/MethodHandle" ∧ yX0_partsOf.cls ≠ "java/lang/invoke/VarHandle" ∧ (parseMethodDescriptor yX0_partsOf.desc).map (fun d => d.parameters.length) = some 1 := ⟨ncl_0.1, ncl_0.2, pds_5⟩
theorem mi_8 : mI 8 = (yX0_standing, cX0_standing, 5, (some .int), false) := rfl
theorem pds_6 : (parseMethodDescriptor "(LTankerDesk$Told;I)I").map (fun d => d.parameters.length) = some 2 := by decide +kernel
theorem na_8 : yX0_standing.cls ≠ "java/lang/invoke/MethodHandle" ∧ yX0_standing.cls ≠ "java/lang/invoke/VarHandle" ∧ (parseMethodDescriptor yX0_standing.desc).map (fun d => d.parameters.length) = some 2 := ⟨ncl_0.1, ncl_0.2, pds_6⟩
theorem mi_9 : mI 9 = (yX0_frontLoad, cX0_frontLoad, 6, (some .int), false) := rfl
theorem na_9 : yX0_frontLoad.cls ≠ "java/lang/invoke/MethodHandle" ∧ yX0_frontLoad.cls ≠ "java/lang/invoke/VarHandle" ∧ (parseMethodDescriptor yX0_frontLoad.desc).map (fun d => d.parameters.length) = some 2 := ⟨ncl_0.1, ncl_0.2, pds_6⟩
theorem mi_10 : mI 10 = (yX0_rearLoad, cX0_rearLoad, 5, (some .int), false) := rfl
theorem na_10 : yX0_rearLoad.cls ≠ "java/lang/invoke/MethodHandle" ∧ yX0_rearLoad.cls ≠ "java/lang/invoke/VarHandle" ∧ (parseMethodDescriptor yX0_rearLoad.desc).map (fun d => d.parameters.length) = some 2 := ⟨ncl_0.1, ncl_0.2, pds_6⟩
theorem mi_11 : mI 11 = (yX0_surges, cX0_surges, 5, (some .boolean), false) := rfl
theorem pds_7 : (parseMethodDescriptor "(LTankerDesk$Told;I)Z").map (fun d => d.parameters.length) = some 2 := by decide +kernel
theorem na_11 : yX0_surges.cls ≠ "java/lang/invoke/MethodHandle" ∧ yX0_surges.cls ≠ "java/lang/invoke/VarHandle" ∧ (parseMethodDescriptor yX0_surges.desc).map (fun d => d.parameters.length) = some 2 := ⟨ncl_0.1, ncl_0.2, pds_7⟩
theorem mi_12 : mI 12 = (yX0_isIn, cX0_isIn, 2, (some .boolean), false) := rfl
theorem pds_8 : (parseMethodDescriptor "(II)Z").map (fun d => d.parameters.length) = some 2 := by decide +kernel
theorem na_12 : yX0_isIn.cls ≠ "java/lang/invoke/MethodHandle" ∧ yX0_isIn.cls ≠ "java/lang/invoke/VarHandle" ∧ (parseMethodDescriptor yX0_isIn.desc).map (fun d => d.parameters.length) = some 2 := ⟨ncl_0.1, ncl_0.2, pds_8⟩
theorem mi_13 : mI 13 = (yX1_init, cX1_init, 2, none, true) := rfl
theorem ncl_1 : (RX1 : String) ≠ "java/lang/invoke/MethodHandle" ∧ (RX1 : String) ≠ "java/lang/invoke/VarHandle" := by decide +kernel
theorem na_13 : yX1_init.cls ≠ "java/lang/invoke/MethodHandle" ∧ yX1_init.cls ≠ "java/lang/invoke/VarHandle" ∧ (parseMethodDescriptor yX1_init.desc).map (fun d => d.parameters.length) = some 0 := ⟨ncl_1.1, ncl_1.2, pds_0⟩
theorem mi_14 : mI 14 = (yX1_forget, cX1_forget, 1, none, false) := rfl
theorem na_14 : yX1_forget.cls ≠ "java/lang/invoke/MethodHandle" ∧ yX1_forget.cls ≠ "java/lang/invoke/VarHandle" ∧ (parseMethodDescriptor yX1_forget.desc).map (fun d => d.parameters.length) = some 0 := ⟨ncl_1.1, ncl_1.2, pds_0⟩
theorem mi_15 : mI 15 = (yX1_keep, cX1_keep, 2, none, false) := rfl
theorem pds_9 : (parseMethodDescriptor "(LTankerDesk$State;)V").map (fun d => d.parameters.length) = some 1 := by decide +kernel
theorem na_15 : yX1_keep.cls ≠ "java/lang/invoke/MethodHandle" ∧ yX1_keep.cls ≠ "java/lang/invoke/VarHandle" ∧ (parseMethodDescriptor yX1_keep.desc).map (fun d => d.parameters.length) = some 1 := ⟨ncl_1.1, ncl_1.2, pds_9⟩
theorem mi_16 : mI 16 = (yX1_goBack, cX1_goBack, 2, (some .boolean), false) := rfl
theorem pds_10 : (parseMethodDescriptor "(LTankerDesk$State;)Z").map (fun d => d.parameters.length) = some 1 := by decide +kernel
theorem na_16 : yX1_goBack.cls ≠ "java/lang/invoke/MethodHandle" ∧ yX1_goBack.cls ≠ "java/lang/invoke/VarHandle" ∧ (parseMethodDescriptor yX1_goBack.desc).map (fun d => d.parameters.length) = some 1 := ⟨ncl_1.1, ncl_1.2, pds_10⟩
theorem mi_17 : mI 17 = (yX2_init, cX2_init, 1, none, true) := rfl
theorem ncl_2 : (RX2 : String) ≠ "java/lang/invoke/MethodHandle" ∧ (RX2 : String) ≠ "java/lang/invoke/VarHandle" := by decide +kernel
theorem na_17 : yX2_init.cls ≠ "java/lang/invoke/MethodHandle" ∧ yX2_init.cls ≠ "java/lang/invoke/VarHandle" ∧ (parseMethodDescriptor yX2_init.desc).map (fun d => d.parameters.length) = some 0 := ⟨ncl_2.1, ncl_2.2, pds_0⟩
theorem mi_18 : mI 18 = (yX2_count, cX2_count, 7, (some .int), false) := rfl
theorem pds_11 : (parseMethodDescriptor "(LTankerDesk$Told;LTankerDesk$Cargo;I)I").map (fun d => d.parameters.length) = some 3 := by decide +kernel
theorem na_18 : yX2_count.cls ≠ "java/lang/invoke/MethodHandle" ∧ yX2_count.cls ≠ "java/lang/invoke/VarHandle" ∧ (parseMethodDescriptor yX2_count.desc).map (fun d => d.parameters.length) = some 3 := ⟨ncl_2.1, ncl_2.2, pds_11⟩
theorem mi_19 : mI 19 = (yX2_dropOfFirst, cX2_dropOfFirst, 5, (some .int), false) := rfl
theorem na_19 : yX2_dropOfFirst.cls ≠ "java/lang/invoke/MethodHandle" ∧ yX2_dropOfFirst.cls ≠ "java/lang/invoke/VarHandle" ∧ (parseMethodDescriptor yX2_dropOfFirst.desc).map (fun d => d.parameters.length) = some 1 := ⟨ncl_2.1, ncl_2.2, pds_5⟩
theorem mi_20 : mI 20 = (yX2_collect, cX2_collect, 5, none, false) := rfl
theorem pds_12 : (parseMethodDescriptor "(LTankerDesk$Told;LTankerDesk$Cargo;I)V").map (fun d => d.parameters.length) = some 3 := by decide +kernel
theorem na_20 : yX2_collect.cls ≠ "java/lang/invoke/MethodHandle" ∧ yX2_collect.cls ≠ "java/lang/invoke/VarHandle" ∧ (parseMethodDescriptor yX2_collect.desc).map (fun d => d.parameters.length) = some 3 := ⟨ncl_2.1, ncl_2.2, pds_12⟩
theorem mi_21 : mI 21 = (yX2_partsOfAll, cX2_partsOfAll, 4, (some .int), false) := rfl
theorem na_21 : yX2_partsOfAll.cls ≠ "java/lang/invoke/MethodHandle" ∧ yX2_partsOfAll.cls ≠ "java/lang/invoke/VarHandle" ∧ (parseMethodDescriptor yX2_partsOfAll.desc).map (fun d => d.parameters.length) = some 1 := ⟨ncl_2.1, ncl_2.2, pds_5⟩
theorem mi_22 : mI 22 = (yX2_waysBehind, cX2_waysBehind, 4, (some .int), false) := rfl
theorem na_22 : yX2_waysBehind.cls ≠ "java/lang/invoke/MethodHandle" ∧ yX2_waysBehind.cls ≠ "java/lang/invoke/VarHandle" ∧ (parseMethodDescriptor yX2_waysBehind.desc).map (fun d => d.parameters.length) = some 1 := ⟨ncl_2.1, ncl_2.2, pds_5⟩
theorem mi_23 : mI 23 = (yX2_leastBehind, cX2_leastBehind, 3, (some .int), false) := rfl
theorem na_23 : yX2_leastBehind.cls ≠ "java/lang/invoke/MethodHandle" ∧ yX2_leastBehind.cls ≠ "java/lang/invoke/VarHandle" ∧ (parseMethodDescriptor yX2_leastBehind.desc).map (fun d => d.parameters.length) = some 1 := ⟨ncl_2.1, ncl_2.2, pds_5⟩
theorem mi_24 : mI 24 = (yX3_init, cX3_init, 1, none, true) := rfl
theorem ncl_3 : (RX3 : String) ≠ "java/lang/invoke/MethodHandle" ∧ (RX3 : String) ≠ "java/lang/invoke/VarHandle" := by decide +kernel
theorem na_24 : yX3_init.cls ≠ "java/lang/invoke/MethodHandle" ∧ yX3_init.cls ≠ "java/lang/invoke/VarHandle" ∧ (parseMethodDescriptor yX3_init.desc).map (fun d => d.parameters.length) = some 0 := ⟨ncl_3.1, ncl_3.2, pds_0⟩
theorem mi_25 : mI 25 = (yX3_findsPlan, cX3_findsPlan, 3, (some .boolean), false) := rfl
theorem pds_13 : (parseMethodDescriptor "(LTankerDesk$Told;LTankerDesk$State;)Z").map (fun d => d.parameters.length) = some 2 := by decide +kernel
theorem na_25 : yX3_findsPlan.cls ≠ "java/lang/invoke/MethodHandle" ∧ yX3_findsPlan.cls ≠ "java/lang/invoke/VarHandle" ∧ (parseMethodDescriptor yX3_findsPlan.desc).map (fun d => d.parameters.length) = some 2 := ⟨ncl_3.1, ncl_3.2, pds_13⟩
theorem mi_26 : mI 26 = (yX3_fewestWashes, cX3_fewestWashes, 3, (some .int), false) := rfl
theorem pds_14 : (parseMethodDescriptor "(LTankerDesk$Told;LTankerDesk$State;)I").map (fun d => d.parameters.length) = some 2 := by decide +kernel
theorem na_26 : yX3_fewestWashes.cls ≠ "java/lang/invoke/MethodHandle" ∧ yX3_fewestWashes.cls ≠ "java/lang/invoke/VarHandle" ∧ (parseMethodDescriptor yX3_fewestWashes.desc).map (fun d => d.parameters.length) = some 2 := ⟨ncl_3.1, ncl_3.2, pds_14⟩
theorem mi_27 : mI 27 = (yX3_prepare, cX3_prepare, 5, none, false) := rfl
theorem pds_15 : (parseMethodDescriptor "(LTankerDesk$Told;LTankerDesk$State;Z)V").map (fun d => d.parameters.length) = some 3 := by decide +kernel
theorem na_27 : yX3_prepare.cls ≠ "java/lang/invoke/MethodHandle" ∧ yX3_prepare.cls ≠ "java/lang/invoke/VarHandle" ∧ (parseMethodDescriptor yX3_prepare.desc).map (fun d => d.parameters.length) = some 3 := ⟨ncl_3.1, ncl_3.2, pds_15⟩
theorem mi_28 : mI 28 = (yX3_deal, cX3_deal, 3, none, false) := rfl
theorem pds_16 : (parseMethodDescriptor "(LTankerDesk$Planner;I)V").map (fun d => d.parameters.length) = some 2 := by decide +kernel
theorem na_28 : yX3_deal.cls ≠ "java/lang/invoke/MethodHandle" ∧ yX3_deal.cls ≠ "java/lang/invoke/VarHandle" ∧ (parseMethodDescriptor yX3_deal.desc).map (fun d => d.parameters.length) = some 2 := ⟨ncl_3.1, ncl_3.2, pds_16⟩
theorem mi_29 : mI 29 = (yX3_isHopeless, cX3_isHopeless, 4, (some .boolean), false) := rfl
theorem pds_17 : (parseMethodDescriptor "(I)Z").map (fun d => d.parameters.length) = some 1 := by decide +kernel
theorem na_29 : yX3_isHopeless.cls ≠ "java/lang/invoke/MethodHandle" ∧ yX3_isHopeless.cls ≠ "java/lang/invoke/VarHandle" ∧ (parseMethodDescriptor yX3_isHopeless.desc).map (fun d => d.parameters.length) = some 1 := ⟨ncl_3.1, ncl_3.2, pds_17⟩
theorem mi_30 : mI 30 = (yX3_gives, cX3_gives, 6, (some .boolean), false) := rfl
theorem na_30 : yX3_gives.cls ≠ "java/lang/invoke/MethodHandle" ∧ yX3_gives.cls ≠ "java/lang/invoke/VarHandle" ∧ (parseMethodDescriptor yX3_gives.desc).map (fun d => d.parameters.length) = some 2 := ⟨ncl_3.1, ncl_3.2, pds_8⟩
theorem mi_31 : mI 31 = (yX3_takeBack, cX3_takeBack, 4, none, false) := rfl
theorem pds_18 : (parseMethodDescriptor "(II)V").map (fun d => d.parameters.length) = some 2 := by decide +kernel
theorem na_31 : yX3_takeBack.cls ≠ "java/lang/invoke/MethodHandle" ∧ yX3_takeBack.cls ≠ "java/lang/invoke/VarHandle" ∧ (parseMethodDescriptor yX3_takeBack.desc).map (fun d => d.parameters.length) = some 2 := ⟨ncl_3.1, ncl_3.2, pds_18⟩
theorem mi_32 : mI 32 = (yX3_consider, cX3_consider, 3, none, false) := rfl
theorem na_32 : yX3_consider.cls ≠ "java/lang/invoke/MethodHandle" ∧ yX3_consider.cls ≠ "java/lang/invoke/VarHandle" ∧ (parseMethodDescriptor yX3_consider.desc).map (fun d => d.parameters.length) = some 0 := ⟨ncl_3.1, ncl_3.2, pds_0⟩
theorem mi_33 : mI 33 = (yX3_isBetter, cX3_isBetter, 2, (some .boolean), false) := rfl
theorem na_33 : yX3_isBetter.cls ≠ "java/lang/invoke/MethodHandle" ∧ yX3_isBetter.cls ≠ "java/lang/invoke/VarHandle" ∧ (parseMethodDescriptor yX3_isBetter.desc).map (fun d => d.parameters.length) = some 1 := ⟨ncl_3.1, ncl_3.2, pds_17⟩
theorem mi_34 : mI 34 = (yX3_keepDeal, cX3_keepDeal, 3, none, false) := rfl
theorem na_34 : yX3_keepDeal.cls ≠ "java/lang/invoke/MethodHandle" ∧ yX3_keepDeal.cls ≠ "java/lang/invoke/VarHandle" ∧ (parseMethodDescriptor yX3_keepDeal.desc).map (fun d => d.parameters.length) = some 0 := ⟨ncl_3.1, ncl_3.2, pds_0⟩
theorem mi_35 : mI 35 = (yX4_init, cX4_init, 1, none, true) := rfl
theorem ncl_4 : (RX4 : String) ≠ "java/lang/invoke/MethodHandle" ∧ (RX4 : String) ≠ "java/lang/invoke/VarHandle" := by decide +kernel
theorem na_35 : yX4_init.cls ≠ "java/lang/invoke/MethodHandle" ∧ yX4_init.cls ≠ "java/lang/invoke/VarHandle" ∧ (parseMethodDescriptor yX4_init.desc).map (fun d => d.parameters.length) = some 0 := ⟨ncl_4.1, ncl_4.2, pds_0⟩
theorem mi_36 : mI 36 = (yX4_reads, cX4_reads, 6, (some .boolean), false) := rfl
theorem pds_19 : (parseMethodDescriptor "([BILTankerDesk$Told;)Z").map (fun d => d.parameters.length) = some 3 := by decide +kernel
theorem na_36 : yX4_reads.cls ≠ "java/lang/invoke/MethodHandle" ∧ yX4_reads.cls ≠ "java/lang/invoke/VarHandle" ∧ (parseMethodDescriptor yX4_reads.desc).map (fun d => d.parameters.length) = some 3 := ⟨ncl_4.1, ncl_4.2, pds_19⟩
theorem mi_37 : mI 37 = (yX4_refuse, cX4_refuse, 2, (some .boolean), false) := rfl
theorem na_37 : yX4_refuse.cls ≠ "java/lang/invoke/MethodHandle" ∧ yX4_refuse.cls ≠ "java/lang/invoke/VarHandle" ∧ (parseMethodDescriptor yX4_refuse.desc).map (fun d => d.parameters.length) = some 1 := ⟨ncl_4.1, ncl_4.2, pds_17⟩
theorem mi_38 : mI 38 = (yX4_readSign, cX4_readSign, 1, (some .boolean), false) := rfl
theorem pds_20 : (parseMethodDescriptor "()Z").map (fun d => d.parameters.length) = some 0 := by decide +kernel
theorem na_38 : yX4_readSign.cls ≠ "java/lang/invoke/MethodHandle" ∧ yX4_readSign.cls ≠ "java/lang/invoke/VarHandle" ∧ (parseMethodDescriptor yX4_readSign.desc).map (fun d => d.parameters.length) = some 0 := ⟨ncl_4.1, ncl_4.2, pds_20⟩
theorem mi_39 : mI 39 = (yX4_readTanker, cX4_readTanker, 3, (some .boolean), false) := rfl
theorem na_39 : yX4_readTanker.cls ≠ "java/lang/invoke/MethodHandle" ∧ yX4_readTanker.cls ≠ "java/lang/invoke/VarHandle" ∧ (parseMethodDescriptor yX4_readTanker.desc).map (fun d => d.parameters.length) = some 0 := ⟨ncl_4.1, ncl_4.2, pds_20⟩
theorem mi_40 : mI 40 = (yX4_readOther, cX4_readOther, 2, (some .boolean), false) := rfl
theorem na_40 : yX4_readOther.cls ≠ "java/lang/invoke/MethodHandle" ∧ yX4_readOther.cls ≠ "java/lang/invoke/VarHandle" ∧ (parseMethodDescriptor yX4_readOther.desc).map (fun d => d.parameters.length) = some 0 := ⟨ncl_4.1, ncl_4.2, pds_20⟩
theorem mi_41 : mI 41 = (yX4_sortOfWord, cX4_sortOfWord, 1, (some .int), false) := rfl
theorem pds_21 : (parseMethodDescriptor "()I").map (fun d => d.parameters.length) = some 0 := by decide +kernel
theorem na_41 : yX4_sortOfWord.cls ≠ "java/lang/invoke/MethodHandle" ∧ yX4_sortOfWord.cls ≠ "java/lang/invoke/VarHandle" ∧ (parseMethodDescriptor yX4_sortOfWord.desc).map (fun d => d.parameters.length) = some 0 := ⟨ncl_4.1, ncl_4.2, pds_21⟩
theorem mi_42 : mI 42 = (yX4_readCompartment, cX4_readCompartment, 2, (some .boolean), false) := rfl
theorem na_42 : yX4_readCompartment.cls ≠ "java/lang/invoke/MethodHandle" ∧ yX4_readCompartment.cls ≠ "java/lang/invoke/VarHandle" ∧ (parseMethodDescriptor yX4_readCompartment.desc).map (fun d => d.parameters.length) = some 0 := ⟨ncl_4.1, ncl_4.2, pds_20⟩
theorem mi_43 : mI 43 = (yX4_readLiquid, cX4_readLiquid, 1, (some .boolean), false) := rfl
theorem na_43 : yX4_readLiquid.cls ≠ "java/lang/invoke/MethodHandle" ∧ yX4_readLiquid.cls ≠ "java/lang/invoke/VarHandle" ∧ (parseMethodDescriptor yX4_readLiquid.desc).map (fun d => d.parameters.length) = some 0 := ⟨ncl_4.1, ncl_4.2, pds_20⟩
theorem mi_44 : mI 44 = (yX4_readBar, cX4_readBar, 2, (some .boolean), false) := rfl
theorem na_44 : yX4_readBar.cls ≠ "java/lang/invoke/MethodHandle" ∧ yX4_readBar.cls ≠ "java/lang/invoke/VarHandle" ∧ (parseMethodDescriptor yX4_readBar.desc).map (fun d => d.parameters.length) = some 0 := ⟨ncl_4.1, ncl_4.2, pds_20⟩
theorem mi_45 : mI 45 = (yX4_readLast, cX4_readLast, 2, (some .boolean), false) := rfl
theorem na_45 : yX4_readLast.cls ≠ "java/lang/invoke/MethodHandle" ∧ yX4_readLast.cls ≠ "java/lang/invoke/VarHandle" ∧ (parseMethodDescriptor yX4_readLast.desc).map (fun d => d.parameters.length) = some 0 := ⟨ncl_4.1, ncl_4.2, pds_20⟩
theorem mi_46 : mI 46 = (yX4_readDrop, cX4_readDrop, 1, (some .boolean), false) := rfl
theorem na_46 : yX4_readDrop.cls ≠ "java/lang/invoke/MethodHandle" ∧ yX4_readDrop.cls ≠ "java/lang/invoke/VarHandle" ∧ (parseMethodDescriptor yX4_readDrop.desc).map (fun d => d.parameters.length) = some 0 := ⟨ncl_4.1, ncl_4.2, pds_20⟩
theorem mi_47 : mI 47 = (yX4_readNumber, cX4_readNumber, 3, (some .boolean), false) := rfl
theorem na_47 : yX4_readNumber.cls ≠ "java/lang/invoke/MethodHandle" ∧ yX4_readNumber.cls ≠ "java/lang/invoke/VarHandle" ∧ (parseMethodDescriptor yX4_readNumber.desc).map (fun d => d.parameters.length) = some 2 := ⟨ncl_4.1, ncl_4.2, pds_8⟩
theorem mi_48 : mI 48 = (yX4_isWord, cX4_isWord, 3, (some .boolean), false) := rfl
theorem pds_22 : (parseMethodDescriptor "(Ljava/lang/String;)Z").map (fun d => d.parameters.length) = some 1 := by decide +kernel
theorem na_48 : yX4_isWord.cls ≠ "java/lang/invoke/MethodHandle" ∧ yX4_isWord.cls ≠ "java/lang/invoke/VarHandle" ∧ (parseMethodDescriptor yX4_isWord.desc).map (fun d => d.parameters.length) = some 1 := ⟨ncl_4.1, ncl_4.2, pds_22⟩
theorem mi_49 : mI 49 = (yX4_advance, cX4_advance, 1, none, false) := rfl
theorem na_49 : yX4_advance.cls ≠ "java/lang/invoke/MethodHandle" ∧ yX4_advance.cls ≠ "java/lang/invoke/VarHandle" ∧ (parseMethodDescriptor yX4_advance.desc).map (fun d => d.parameters.length) = some 0 := ⟨ncl_4.1, ncl_4.2, pds_0⟩
theorem mi_50 : mI 50 = (yX4_advanceRun, cX4_advanceRun, 3, none, false) := rfl
theorem na_50 : yX4_advanceRun.cls ≠ "java/lang/invoke/MethodHandle" ∧ yX4_advanceRun.cls ≠ "java/lang/invoke/VarHandle" ∧ (parseMethodDescriptor yX4_advanceRun.desc).map (fun d => d.parameters.length) = some 0 := ⟨ncl_4.1, ncl_4.2, pds_0⟩
theorem mi_51 : mI 51 = (yX4_isLetter, cX4_isLetter, 1, (some .boolean), false) := rfl
theorem na_51 : yX4_isLetter.cls ≠ "java/lang/invoke/MethodHandle" ∧ yX4_isLetter.cls ≠ "java/lang/invoke/VarHandle" ∧ (parseMethodDescriptor yX4_isLetter.desc).map (fun d => d.parameters.length) = some 1 := ⟨ncl_4.1, ncl_4.2, pds_17⟩
theorem mi_52 : mI 52 = (yX4_isDigit, cX4_isDigit, 1, (some .boolean), false) := rfl
theorem na_52 : yX4_isDigit.cls ≠ "java/lang/invoke/MethodHandle" ∧ yX4_isDigit.cls ≠ "java/lang/invoke/VarHandle" ∧ (parseMethodDescriptor yX4_isDigit.desc).map (fun d => d.parameters.length) = some 1 := ⟨ncl_4.1, ncl_4.2, pds_17⟩
theorem mi_53 : mI 53 = (yX5_init, cX5_init, 1, none, true) := rfl
theorem ncl_5 : (RX5 : String) ≠ "java/lang/invoke/MethodHandle" ∧ (RX5 : String) ≠ "java/lang/invoke/VarHandle" := by decide +kernel
theorem na_53 : yX5_init.cls ≠ "java/lang/invoke/MethodHandle" ∧ yX5_init.cls ≠ "java/lang/invoke/VarHandle" ∧ (parseMethodDescriptor yX5_init.desc).map (fun d => d.parameters.length) = some 0 := ⟨ncl_5.1, ncl_5.2, pds_0⟩
theorem mi_54 : mI 54 = (yX5_begin, cX5_begin, 3, none, false) := rfl
theorem na_54 : yX5_begin.cls ≠ "java/lang/invoke/MethodHandle" ∧ yX5_begin.cls ≠ "java/lang/invoke/VarHandle" ∧ (parseMethodDescriptor yX5_begin.desc).map (fun d => d.parameters.length) = some 1 := ⟨ncl_5.1, ncl_5.2, pds_2⟩
theorem mi_55 : mI 55 = (yX5_addDrop, cX5_addDrop, 1, none, false) := rfl
theorem na_55 : yX5_addDrop.cls ≠ "java/lang/invoke/MethodHandle" ∧ yX5_addDrop.cls ≠ "java/lang/invoke/VarHandle" ∧ (parseMethodDescriptor yX5_addDrop.desc).map (fun d => d.parameters.length) = some 0 := ⟨ncl_5.1, ncl_5.2, pds_0⟩
theorem mi_56 : mI 56 = (yX5_copyFrom, cX5_copyFrom, 2, none, false) := rfl
theorem na_56 : yX5_copyFrom.cls ≠ "java/lang/invoke/MethodHandle" ∧ yX5_copyFrom.cls ≠ "java/lang/invoke/VarHandle" ∧ (parseMethodDescriptor yX5_copyFrom.desc).map (fun d => d.parameters.length) = some 1 := ⟨ncl_5.1, ncl_5.2, pds_9⟩
theorem mi_57 : mI 57 = (yX5_hasDrop, cX5_hasDrop, 2, (some .boolean), false) := rfl
theorem na_57 : yX5_hasDrop.cls ≠ "java/lang/invoke/MethodHandle" ∧ yX5_hasDrop.cls ≠ "java/lang/invoke/VarHandle" ∧ (parseMethodDescriptor yX5_hasDrop.desc).map (fun d => d.parameters.length) = some 1 := ⟨ncl_5.1, ncl_5.2, pds_17⟩
theorem mi_58 : mI 58 = (yX5_how, cX5_how, 3, (some .int), false) := rfl
theorem na_58 : yX5_how.cls ≠ "java/lang/invoke/MethodHandle" ∧ yX5_how.cls ≠ "java/lang/invoke/VarHandle" ∧ (parseMethodDescriptor yX5_how.desc).map (fun d => d.parameters.length) = some 2 := ⟨ncl_5.1, ncl_5.2, pds_6⟩
theorem mi_59 : mI 59 = (yX5_shortOf, cX5_shortOf, 3, (some .int), false) := rfl
theorem na_59 : yX5_shortOf.cls ≠ "java/lang/invoke/MethodHandle" ∧ yX5_shortOf.cls ≠ "java/lang/invoke/VarHandle" ∧ (parseMethodDescriptor yX5_shortOf.desc).map (fun d => d.parameters.length) = some 2 := ⟨ncl_5.1, ncl_5.2, pds_6⟩
theorem mi_60 : mI 60 = (yX5_waiting, cX5_waiting, 4, (some .int), false) := rfl
theorem pds_23 : (parseMethodDescriptor "(LTankerDesk$Told;)I").map (fun d => d.parameters.length) = some 1 := by decide +kernel
theorem na_60 : yX5_waiting.cls ≠ "java/lang/invoke/MethodHandle" ∧ yX5_waiting.cls ≠ "java/lang/invoke/VarHandle" ∧ (parseMethodDescriptor yX5_waiting.desc).map (fun d => d.parameters.length) = some 1 := ⟨ncl_5.1, ncl_5.2, pds_23⟩
theorem mi_61 : mI 61 = (yX6_init, cX6_init, 1, none, true) := rfl
theorem ncl_6 : (RX6 : String) ≠ "java/lang/invoke/MethodHandle" ∧ (RX6 : String) ≠ "java/lang/invoke/VarHandle" := by decide +kernel
theorem na_61 : yX6_init.cls ≠ "java/lang/invoke/MethodHandle" ∧ yX6_init.cls ≠ "java/lang/invoke/VarHandle" ∧ (parseMethodDescriptor yX6_init.desc).map (fun d => d.parameters.length) = some 0 := ⟨ncl_6.1, ncl_6.2, pds_0⟩
theorem mi_62 : mI 62 = (yX6_clear, cX6_clear, 1, none, false) := rfl
theorem na_62 : yX6_clear.cls ≠ "java/lang/invoke/MethodHandle" ∧ yX6_clear.cls ≠ "java/lang/invoke/VarHandle" ∧ (parseMethodDescriptor yX6_clear.desc).map (fun d => d.parameters.length) = some 0 := ⟨ncl_6.1, ncl_6.2, pds_0⟩
theorem mi_63 : mI 63 = (yX6_hasCompartment, cX6_hasCompartment, 2, (some .boolean), false) := rfl
theorem na_63 : yX6_hasCompartment.cls ≠ "java/lang/invoke/MethodHandle" ∧ yX6_hasCompartment.cls ≠ "java/lang/invoke/VarHandle" ∧ (parseMethodDescriptor yX6_hasCompartment.desc).map (fun d => d.parameters.length) = some 1 := ⟨ncl_6.1, ncl_6.2, pds_17⟩
theorem mi_64 : mI 64 = (yX6_hasLiquid, cX6_hasLiquid, 2, (some .boolean), false) := rfl
theorem na_64 : yX6_hasLiquid.cls ≠ "java/lang/invoke/MethodHandle" ∧ yX6_hasLiquid.cls ≠ "java/lang/invoke/VarHandle" ∧ (parseMethodDescriptor yX6_hasLiquid.desc).map (fun d => d.parameters.length) = some 1 := ⟨ncl_6.1, ncl_6.2, pds_17⟩
theorem mi_65 : mI 65 = (yX6_top, cX6_top, 2, (some .int), false) := rfl
theorem na_65 : yX6_top.cls ≠ "java/lang/invoke/MethodHandle" ∧ yX6_top.cls ≠ "java/lang/invoke/VarHandle" ∧ (parseMethodDescriptor yX6_top.desc).map (fun d => d.parameters.length) = some 1 := ⟨ncl_6.1, ncl_6.2, pds_5⟩
theorem mi_66 : mI 66 = (yX6_bar, cX6_bar, 3, none, false) := rfl
theorem na_66 : yX6_bar.cls ≠ "java/lang/invoke/MethodHandle" ∧ yX6_bar.cls ≠ "java/lang/invoke/VarHandle" ∧ (parseMethodDescriptor yX6_bar.desc).map (fun d => d.parameters.length) = some 2 := ⟨ncl_6.1, ncl_6.2, pds_18⟩
theorem mi_67 : mI 67 = (yX6_isBarred, cX6_isBarred, 3, (some .boolean), false) := rfl
theorem na_67 : yX6_isBarred.cls ≠ "java/lang/invoke/MethodHandle" ∧ yX6_isBarred.cls ≠ "java/lang/invoke/VarHandle" ∧ (parseMethodDescriptor yX6_isBarred.desc).map (fun d => d.parameters.length) = some 2 := ⟨ncl_6.1, ncl_6.2, pds_8⟩
theorem mi_68 : mI 68 = (yX7_init, cX7_init, 1, none, true) := rfl
theorem ncl_7 : (RX7 : String) ≠ "java/lang/invoke/MethodHandle" ∧ (RX7 : String) ≠ "java/lang/invoke/VarHandle" := by decide +kernel
theorem na_68 : yX7_init.cls ≠ "java/lang/invoke/MethodHandle" ∧ yX7_init.cls ≠ "java/lang/invoke/VarHandle" ∧ (parseMethodDescriptor yX7_init.desc).map (fun d => d.parameters.length) = some 0 := ⟨ncl_7.1, ncl_7.2, pds_0⟩
theorem mi_69 : mI 69 = (yX7_feed, cX7_feed, 6, (some .int), false) := rfl
theorem pds_24 : (parseMethodDescriptor "(IIIII)I").map (fun d => d.parameters.length) = some 5 := by decide +kernel
theorem na_69 : yX7_feed.cls ≠ "java/lang/invoke/MethodHandle" ∧ yX7_feed.cls ≠ "java/lang/invoke/VarHandle" ∧ (parseMethodDescriptor yX7_feed.desc).map (fun d => d.parameters.length) = some 5 := ⟨ncl_7.1, ncl_7.2, pds_24⟩
theorem mi_70 : mI 70 = (yX7_end, cX7_end, 2, (some .boolean), false) := rfl
theorem na_70 : yX7_end.cls ≠ "java/lang/invoke/MethodHandle" ∧ yX7_end.cls ≠ "java/lang/invoke/VarHandle" ∧ (parseMethodDescriptor yX7_end.desc).map (fun d => d.parameters.length) = some 1 := ⟨ncl_7.1, ncl_7.2, pds_17⟩
theorem mi_71 : mI 71 = (yX7_text, cX7_text, 3, (some .int), false) := rfl
theorem na_71 : yX7_text.cls ≠ "java/lang/invoke/MethodHandle" ∧ yX7_text.cls ≠ "java/lang/invoke/VarHandle" ∧ (parseMethodDescriptor yX7_text.desc).map (fun d => d.parameters.length) = some 0 := ⟨ncl_7.1, ncl_7.2, pds_21⟩
theorem mi_72 : mI 72 = (yX7_fault, cX7_fault, 1, (some .int), false) := rfl
theorem na_72 : yX7_fault.cls ≠ "java/lang/invoke/MethodHandle" ∧ yX7_fault.cls ≠ "java/lang/invoke/VarHandle" ∧ (parseMethodDescriptor yX7_fault.desc).map (fun d => d.parameters.length) = some 0 := ⟨ncl_7.1, ncl_7.2, pds_21⟩
theorem mi_73 : mI 73 = (yX7_now, cX7_now, 2, (some .int), false) := rfl
theorem na_73 : yX7_now.cls ≠ "java/lang/invoke/MethodHandle" ∧ yX7_now.cls ≠ "java/lang/invoke/VarHandle" ∧ (parseMethodDescriptor yX7_now.desc).map (fun d => d.parameters.length) = some 1 := ⟨ncl_7.1, ncl_7.2, pds_5⟩
theorem mi_74 : mI 74 = (yX7_compartment, cX7_compartment, 3, (some .int), false) := rfl
theorem pds_25 : (parseMethodDescriptor "(II)I").map (fun d => d.parameters.length) = some 2 := by decide +kernel
theorem na_74 : yX7_compartment.cls ≠ "java/lang/invoke/MethodHandle" ∧ yX7_compartment.cls ≠ "java/lang/invoke/VarHandle" ∧ (parseMethodDescriptor yX7_compartment.desc).map (fun d => d.parameters.length) = some 2 := ⟨ncl_7.1, ncl_7.2, pds_25⟩
theorem mi_75 : mI 75 = (yX7_drop, cX7_drop, 3, (some .int), false) := rfl
theorem na_75 : yX7_drop.cls ≠ "java/lang/invoke/MethodHandle" ∧ yX7_drop.cls ≠ "java/lang/invoke/VarHandle" ∧ (parseMethodDescriptor yX7_drop.desc).map (fun d => d.parameters.length) = some 2 := ⟨ncl_7.1, ncl_7.2, pds_25⟩
theorem mi_76 : mI 76 = (yX7_may, cX7_may, 3, (some .boolean), false) := rfl
theorem na_76 : yX7_may.cls ≠ "java/lang/invoke/MethodHandle" ∧ yX7_may.cls ≠ "java/lang/invoke/VarHandle" ∧ (parseMethodDescriptor yX7_may.desc).map (fun d => d.parameters.length) = some 2 := ⟨ncl_7.1, ncl_7.2, pds_8⟩
theorem mi_77 : mI 77 = (yX7_would, cX7_would, 4, (some .int), false) := rfl
theorem pds_26 : (parseMethodDescriptor "(III)I").map (fun d => d.parameters.length) = some 3 := by decide +kernel
theorem na_77 : yX7_would.cls ≠ "java/lang/invoke/MethodHandle" ∧ yX7_would.cls ≠ "java/lang/invoke/VarHandle" ∧ (parseMethodDescriptor yX7_would.desc).map (fun d => d.parameters.length) = some 3 := ⟨ncl_7.1, ncl_7.2, pds_26⟩
theorem mi_78 : mI 78 = (yX7_orders, cX7_orders, 1, (some .int), false) := rfl
theorem na_78 : yX7_orders.cls ≠ "java/lang/invoke/MethodHandle" ∧ yX7_orders.cls ≠ "java/lang/invoke/VarHandle" ∧ (parseMethodDescriptor yX7_orders.desc).map (fun d => d.parameters.length) = some 0 := ⟨ncl_7.1, ncl_7.2, pds_21⟩
theorem mi_79 : mI 79 = (yX7_ordered, cX7_ordered, 2, (some .int), false) := rfl
theorem na_79 : yX7_ordered.cls ≠ "java/lang/invoke/MethodHandle" ∧ yX7_ordered.cls ≠ "java/lang/invoke/VarHandle" ∧ (parseMethodDescriptor yX7_ordered.desc).map (fun d => d.parameters.length) = some 1 := ⟨ncl_7.1, ncl_7.2, pds_5⟩
theorem mi_80 : mI 80 = (yX7_without, cX7_without, 2, (some .int), false) := rfl
theorem na_80 : yX7_without.cls ≠ "java/lang/invoke/MethodHandle" ∧ yX7_without.cls ≠ "java/lang/invoke/VarHandle" ∧ (parseMethodDescriptor yX7_without.desc).map (fun d => d.parameters.length) = some 1 := ⟨ncl_7.1, ncl_7.2, pds_5⟩
theorem mi_81 : mI 81 = (yX7_plan, cX7_plan, 2, (some .int), false) := rfl
theorem na_81 : yX7_plan.cls ≠ "java/lang/invoke/MethodHandle" ∧ yX7_plan.cls ≠ "java/lang/invoke/VarHandle" ∧ (parseMethodDescriptor yX7_plan.desc).map (fun d => d.parameters.length) = some 1 := ⟨ncl_7.1, ncl_7.2, pds_5⟩
theorem mi_82 : mI 82 = (yX7_washes, cX7_washes, 2, (some .int), false) := rfl
theorem na_82 : yX7_washes.cls ≠ "java/lang/invoke/MethodHandle" ∧ yX7_washes.cls ≠ "java/lang/invoke/VarHandle" ∧ (parseMethodDescriptor yX7_washes.desc).map (fun d => d.parameters.length) = some 0 := ⟨ncl_7.1, ncl_7.2, pds_21⟩
theorem mi_83 : mI 83 = (yX7_asks, cX7_asks, 4, (some .int), false) := rfl
theorem na_83 : yX7_asks.cls ≠ "java/lang/invoke/MethodHandle" ∧ yX7_asks.cls ≠ "java/lang/invoke/VarHandle" ∧ (parseMethodDescriptor yX7_asks.desc).map (fun d => d.parameters.length) = some 2 := ⟨ncl_7.1, ncl_7.2, pds_25⟩
theorem mi_84 : mI 84 = (yX7_cancel, cX7_cancel, 2, (some .boolean), false) := rfl
theorem na_84 : yX7_cancel.cls ≠ "java/lang/invoke/MethodHandle" ∧ yX7_cancel.cls ≠ "java/lang/invoke/VarHandle" ∧ (parseMethodDescriptor yX7_cancel.desc).map (fun d => d.parameters.length) = some 1 := ⟨ncl_7.1, ncl_7.2, pds_17⟩
theorem mi_85 : mI 85 = (yX7_put, cX7_put, 6, (some .int), false) := rfl
theorem na_85 : yX7_put.cls ≠ "java/lang/invoke/MethodHandle" ∧ yX7_put.cls ≠ "java/lang/invoke/VarHandle" ∧ (parseMethodDescriptor yX7_put.desc).map (fun d => d.parameters.length) = some 2 := ⟨ncl_7.1, ncl_7.2, pds_25⟩
theorem mi_86 : mI 86 = (yX7_load, cX7_load, 3, (some .int), false) := rfl
theorem na_86 : yX7_load.cls ≠ "java/lang/invoke/MethodHandle" ∧ yX7_load.cls ≠ "java/lang/invoke/VarHandle" ∧ (parseMethodDescriptor yX7_load.desc).map (fun d => d.parameters.length) = some 0 := ⟨ncl_7.1, ncl_7.2, pds_21⟩
theorem mi_87 : mI 87 = (yX7_unload, cX7_unload, 4, (some .int), false) := rfl
theorem na_87 : yX7_unload.cls ≠ "java/lang/invoke/MethodHandle" ∧ yX7_unload.cls ≠ "java/lang/invoke/VarHandle" ∧ (parseMethodDescriptor yX7_unload.desc).map (fun d => d.parameters.length) = some 2 := ⟨ncl_7.1, ncl_7.2, pds_25⟩
theorem mi_88 : mI 88 = (yX7_empty, cX7_empty, 3, (some .int), false) := rfl
theorem na_88 : yX7_empty.cls ≠ "java/lang/invoke/MethodHandle" ∧ yX7_empty.cls ≠ "java/lang/invoke/VarHandle" ∧ (parseMethodDescriptor yX7_empty.desc).map (fun d => d.parameters.length) = some 1 := ⟨ncl_7.1, ncl_7.2, pds_5⟩
theorem mi_89 : mI 89 = (yX7_wash, cX7_wash, 2, (some .boolean), false) := rfl
theorem na_89 : yX7_wash.cls ≠ "java/lang/invoke/MethodHandle" ∧ yX7_wash.cls ≠ "java/lang/invoke/VarHandle" ∧ (parseMethodDescriptor yX7_wash.desc).map (fun d => d.parameters.length) = some 1 := ⟨ncl_7.1, ncl_7.2, pds_17⟩
theorem mi_90 : mI 90 = (yX7_undo, cX7_undo, 1, (some .int), false) := rfl
theorem na_90 : yX7_undo.cls ≠ "java/lang/invoke/MethodHandle" ∧ yX7_undo.cls ≠ "java/lang/invoke/VarHandle" ∧ (parseMethodDescriptor yX7_undo.desc).map (fun d => d.parameters.length) = some 0 := ⟨ncl_7.1, ncl_7.2, pds_21⟩
theorem mi_91 : mI 91 = (yX7_tapeNumber, cX7_tapeNumber, 3, none, false) := rfl
theorem na_91 : yX7_tapeNumber.cls ≠ "java/lang/invoke/MethodHandle" ∧ yX7_tapeNumber.cls ≠ "java/lang/invoke/VarHandle" ∧ (parseMethodDescriptor yX7_tapeNumber.desc).map (fun d => d.parameters.length) = some 1 := ⟨ncl_7.1, ncl_7.2, pds_4⟩
theorem mi_92 : mI 92 = (yX7_isSo, cX7_isSo, 3, (some .boolean), false) := rfl
theorem na_92 : yX7_isSo.cls ≠ "java/lang/invoke/MethodHandle" ∧ yX7_isSo.cls ≠ "java/lang/invoke/VarHandle" ∧ (parseMethodDescriptor yX7_isSo.desc).map (fun d => d.parameters.length) = some 2 := ⟨ncl_7.1, ncl_7.2, pds_8⟩
theorem mi_93 : mI 93 = (yX8_refuse, cX8_refuse, 1, (some .int), false) := rfl
theorem ncl_8 : (RX8 : String) ≠ "java/lang/invoke/MethodHandle" ∧ (RX8 : String) ≠ "java/lang/invoke/VarHandle" := by decide +kernel
theorem na_93 : yX8_refuse.cls ≠ "java/lang/invoke/MethodHandle" ∧ yX8_refuse.cls ≠ "java/lang/invoke/VarHandle" ∧ (parseMethodDescriptor yX8_refuse.desc).map (fun d => d.parameters.length) = some 0 := ⟨ncl_8.1, ncl_8.2, pds_21⟩
theorem mi_94 : mI 94 = (yX8_isIn, cX8_isIn, 3, (some .boolean), false) := rfl
theorem pds_27 : (parseMethodDescriptor "(III)Z").map (fun d => d.parameters.length) = some 3 := by decide +kernel
theorem na_94 : yX8_isIn.cls ≠ "java/lang/invoke/MethodHandle" ∧ yX8_isIn.cls ≠ "java/lang/invoke/VarHandle" ∧ (parseMethodDescriptor yX8_isIn.desc).map (fun d => d.parameters.length) = some 3 := ⟨ncl_8.1, ncl_8.2, pds_27⟩
theorem mi_95 : mI 95 = (yX8_has, cX8_has, 2, (some .boolean), false) := rfl
theorem na_95 : yX8_has.cls ≠ "java/lang/invoke/MethodHandle" ∧ yX8_has.cls ≠ "java/lang/invoke/VarHandle" ∧ (parseMethodDescriptor yX8_has.desc).map (fun d => d.parameters.length) = some 2 := ⟨ncl_8.1, ncl_8.2, pds_8⟩
theorem mi_96 : mI 96 = (yX8_lays, cX8_lays, 3, none, false) := rfl
theorem na_96 : yX8_lays.cls ≠ "java/lang/invoke/MethodHandle" ∧ yX8_lays.cls ≠ "java/lang/invoke/VarHandle" ∧ (parseMethodDescriptor yX8_lays.desc).map (fun d => d.parameters.length) = some 1 := ⟨ncl_8.1, ncl_8.2, pds_4⟩
theorem mi_97 : mI 97 = (yX8_feed, cX8_feed, 6, (some .int), false) := rfl
theorem na_97 : yX8_feed.cls ≠ "java/lang/invoke/MethodHandle" ∧ yX8_feed.cls ≠ "java/lang/invoke/VarHandle" ∧ (parseMethodDescriptor yX8_feed.desc).map (fun d => d.parameters.length) = some 5 := ⟨ncl_8.1, ncl_8.2, pds_24⟩
theorem mi_98 : mI 98 = (yX8_end, cX8_end, 2, (some .boolean), false) := rfl
theorem na_98 : yX8_end.cls ≠ "java/lang/invoke/MethodHandle" ∧ yX8_end.cls ≠ "java/lang/invoke/VarHandle" ∧ (parseMethodDescriptor yX8_end.desc).map (fun d => d.parameters.length) = some 1 := ⟨ncl_8.1, ncl_8.2, pds_17⟩
theorem mi_99 : mI 99 = (yX8_tapeAt, cX8_tapeAt, 2, (some .int), false) := rfl
theorem na_99 : yX8_tapeAt.cls ≠ "java/lang/invoke/MethodHandle" ∧ yX8_tapeAt.cls ≠ "java/lang/invoke/VarHandle" ∧ (parseMethodDescriptor yX8_tapeAt.desc).map (fun d => d.parameters.length) = some 1 := ⟨ncl_8.1, ncl_8.2, pds_5⟩
theorem mi_100 : mI 100 = (yX8_isDigit, cX8_isDigit, 1, (some .boolean), false) := rfl
theorem na_100 : yX8_isDigit.cls ≠ "java/lang/invoke/MethodHandle" ∧ yX8_isDigit.cls ≠ "java/lang/invoke/VarHandle" ∧ (parseMethodDescriptor yX8_isDigit.desc).map (fun d => d.parameters.length) = some 1 := ⟨ncl_8.1, ncl_8.2, pds_17⟩
theorem mi_101 : mI 101 = (yX8_isLetter, cX8_isLetter, 1, (some .boolean), false) := rfl
theorem na_101 : yX8_isLetter.cls ≠ "java/lang/invoke/MethodHandle" ∧ yX8_isLetter.cls ≠ "java/lang/invoke/VarHandle" ∧ (parseMethodDescriptor yX8_isLetter.desc).map (fun d => d.parameters.length) = some 1 := ⟨ncl_8.1, ncl_8.2, pds_17⟩
theorem mi_102 : mI 102 = (yX8_go, cX8_go, 5, none, false) := rfl
theorem na_102 : yX8_go.cls ≠ "java/lang/invoke/MethodHandle" ∧ yX8_go.cls ≠ "java/lang/invoke/VarHandle" ∧ (parseMethodDescriptor yX8_go.desc).map (fun d => d.parameters.length) = some 0 := ⟨ncl_8.1, ncl_8.2, pds_0⟩
theorem mi_103 : mI 103 = (yX8_three, cX8_three, 3, (some .long), false) := rfl
theorem pds_28 : (parseMethodDescriptor "(III)J").map (fun d => d.parameters.length) = some 3 := by decide +kernel
theorem na_103 : yX8_three.cls ≠ "java/lang/invoke/MethodHandle" ∧ yX8_three.cls ≠ "java/lang/invoke/VarHandle" ∧ (parseMethodDescriptor yX8_three.desc).map (fun d => d.parameters.length) = some 3 := ⟨ncl_8.1, ncl_8.2, pds_28⟩
theorem mi_104 : mI 104 = (yX8_six, cX8_six, 6, (some .long), false) := rfl
theorem pds_29 : (parseMethodDescriptor "(IIIIII)J").map (fun d => d.parameters.length) = some 6 := by decide +kernel
theorem na_104 : yX8_six.cls ≠ "java/lang/invoke/MethodHandle" ∧ yX8_six.cls ≠ "java/lang/invoke/VarHandle" ∧ (parseMethodDescriptor yX8_six.desc).map (fun d => d.parameters.length) = some 6 := ⟨ncl_8.1, ncl_8.2, pds_29⟩
theorem mi_105 : mI 105 = (yX8_four, cX8_four, 4, (some .long), false) := rfl
theorem pds_30 : (parseMethodDescriptor "(IIII)J").map (fun d => d.parameters.length) = some 4 := by decide +kernel
theorem na_105 : yX8_four.cls ≠ "java/lang/invoke/MethodHandle" ∧ yX8_four.cls ≠ "java/lang/invoke/VarHandle" ∧ (parseMethodDescriptor yX8_four.desc).map (fun d => d.parameters.length) = some 4 := ⟨ncl_8.1, ncl_8.2, pds_30⟩
theorem mi_106 : mI 106 = (yX8_isWord, cX8_isWord, 3, (some .boolean), false) := rfl
theorem pds_31 : (parseMethodDescriptor "(J)Z").map (fun d => d.parameters.length) = some 1 := by decide +kernel
theorem na_106 : yX8_isWord.cls ≠ "java/lang/invoke/MethodHandle" ∧ yX8_isWord.cls ≠ "java/lang/invoke/VarHandle" ∧ (parseMethodDescriptor yX8_isWord.desc).map (fun d => d.parameters.length) = some 1 := ⟨ncl_8.1, ncl_8.2, pds_31⟩
theorem mi_107 : mI 107 = (yX8_bad, cX8_bad, 2, (some .boolean), false) := rfl
theorem na_107 : yX8_bad.cls ≠ "java/lang/invoke/MethodHandle" ∧ yX8_bad.cls ≠ "java/lang/invoke/VarHandle" ∧ (parseMethodDescriptor yX8_bad.desc).map (fun d => d.parameters.length) = some 1 := ⟨ncl_8.1, ncl_8.2, pds_17⟩
theorem mi_108 : mI 108 = (yX8_init, cX8_init, 1, none, true) := rfl
theorem na_108 : yX8_init.cls ≠ "java/lang/invoke/MethodHandle" ∧ yX8_init.cls ≠ "java/lang/invoke/VarHandle" ∧ (parseMethodDescriptor yX8_init.desc).map (fun d => d.parameters.length) = some 0 := ⟨ncl_8.1, ncl_8.2, pds_0⟩
theorem mi_109 : mI 109 = (yX8_told, cX8_told, 4, (some .boolean), false) := rfl
theorem na_109 : yX8_told.cls ≠ "java/lang/invoke/MethodHandle" ∧ yX8_told.cls ≠ "java/lang/invoke/VarHandle" ∧ (parseMethodDescriptor yX8_told.desc).map (fun d => d.parameters.length) = some 3 := ⟨ncl_8.1, ncl_8.2, pds_27⟩
theorem mi_110 : mI 110 = (yX8_oneOf, cX8_oneOf, 2, (some .boolean), false) := rfl
theorem na_110 : yX8_oneOf.cls ≠ "java/lang/invoke/MethodHandle" ∧ yX8_oneOf.cls ≠ "java/lang/invoke/VarHandle" ∧ (parseMethodDescriptor yX8_oneOf.desc).map (fun d => d.parameters.length) = some 1 := ⟨ncl_8.1, ncl_8.2, pds_17⟩
theorem mi_111 : mI 111 = (yX8_readTanker, cX8_readTanker, 2, (some .boolean), false) := rfl
theorem na_111 : yX8_readTanker.cls ≠ "java/lang/invoke/MethodHandle" ∧ yX8_readTanker.cls ≠ "java/lang/invoke/VarHandle" ∧ (parseMethodDescriptor yX8_readTanker.desc).map (fun d => d.parameters.length) = some 0 := ⟨ncl_8.1, ncl_8.2, pds_20⟩
theorem mi_112 : mI 112 = (yX8_readHold, cX8_readHold, 3, (some .boolean), false) := rfl
theorem na_112 : yX8_readHold.cls ≠ "java/lang/invoke/MethodHandle" ∧ yX8_readHold.cls ≠ "java/lang/invoke/VarHandle" ∧ (parseMethodDescriptor yX8_readHold.desc).map (fun d => d.parameters.length) = some 0 := ⟨ncl_8.1, ncl_8.2, pds_20⟩
theorem mi_113 : mI 113 = (yX8_readLiquid, cX8_readLiquid, 1, (some .boolean), false) := rfl
theorem na_113 : yX8_readLiquid.cls ≠ "java/lang/invoke/MethodHandle" ∧ yX8_readLiquid.cls ≠ "java/lang/invoke/VarHandle" ∧ (parseMethodDescriptor yX8_readLiquid.desc).map (fun d => d.parameters.length) = some 0 := ⟨ncl_8.1, ncl_8.2, pds_20⟩
theorem mi_114 : mI 114 = (yX8_readBar, cX8_readBar, 2, (some .boolean), false) := rfl
theorem na_114 : yX8_readBar.cls ≠ "java/lang/invoke/MethodHandle" ∧ yX8_readBar.cls ≠ "java/lang/invoke/VarHandle" ∧ (parseMethodDescriptor yX8_readBar.desc).map (fun d => d.parameters.length) = some 0 := ⟨ncl_8.1, ncl_8.2, pds_20⟩
theorem mi_115 : mI 115 = (yX8_readLast, cX8_readLast, 2, (some .boolean), false) := rfl
theorem na_115 : yX8_readLast.cls ≠ "java/lang/invoke/MethodHandle" ∧ yX8_readLast.cls ≠ "java/lang/invoke/VarHandle" ∧ (parseMethodDescriptor yX8_readLast.desc).map (fun d => d.parameters.length) = some 0 := ⟨ncl_8.1, ncl_8.2, pds_20⟩
theorem mi_116 : mI 116 = (yX8_readDrop, cX8_readDrop, 2, (some .boolean), false) := rfl
theorem na_116 : yX8_readDrop.cls ≠ "java/lang/invoke/MethodHandle" ∧ yX8_readDrop.cls ≠ "java/lang/invoke/VarHandle" ∧ (parseMethodDescriptor yX8_readDrop.desc).map (fun d => d.parameters.length) = some 0 := ⟨ncl_8.1, ncl_8.2, pds_20⟩
theorem mi_117 : mI 117 = (yX8_readLine, cX8_readLine, 2, (some .boolean), false) := rfl
theorem pds_32 : (parseMethodDescriptor "(Z)Z").map (fun d => d.parameters.length) = some 1 := by decide +kernel
theorem na_117 : yX8_readLine.cls ≠ "java/lang/invoke/MethodHandle" ∧ yX8_readLine.cls ≠ "java/lang/invoke/VarHandle" ∧ (parseMethodDescriptor yX8_readLine.desc).map (fun d => d.parameters.length) = some 1 := ⟨ncl_8.1, ncl_8.2, pds_32⟩
theorem mi_118 : mI 118 = (yX8_readEnd, cX8_readEnd, 1, (some .boolean), false) := rfl
theorem na_118 : yX8_readEnd.cls ≠ "java/lang/invoke/MethodHandle" ∧ yX8_readEnd.cls ≠ "java/lang/invoke/VarHandle" ∧ (parseMethodDescriptor yX8_readEnd.desc).map (fun d => d.parameters.length) = some 0 := ⟨ncl_8.1, ncl_8.2, pds_20⟩
theorem mi_119 : mI 119 = (yX8_text, cX8_text, 3, (some .int), false) := rfl
theorem na_119 : yX8_text.cls ≠ "java/lang/invoke/MethodHandle" ∧ yX8_text.cls ≠ "java/lang/invoke/VarHandle" ∧ (parseMethodDescriptor yX8_text.desc).map (fun d => d.parameters.length) = some 0 := ⟨ncl_8.1, ncl_8.2, pds_21⟩
theorem mi_120 : mI 120 = (yX8_fault, cX8_fault, 1, (some .int), false) := rfl
theorem na_120 : yX8_fault.cls ≠ "java/lang/invoke/MethodHandle" ∧ yX8_fault.cls ≠ "java/lang/invoke/VarHandle" ∧ (parseMethodDescriptor yX8_fault.desc).map (fun d => d.parameters.length) = some 0 := ⟨ncl_8.1, ncl_8.2, pds_21⟩
theorem mi_121 : mI 121 = (yX8_isHold, cX8_isHold, 2, (some .boolean), false) := rfl
theorem na_121 : yX8_isHold.cls ≠ "java/lang/invoke/MethodHandle" ∧ yX8_isHold.cls ≠ "java/lang/invoke/VarHandle" ∧ (parseMethodDescriptor yX8_isHold.desc).map (fun d => d.parameters.length) = some 1 := ⟨ncl_8.1, ncl_8.2, pds_17⟩
theorem mi_122 : mI 122 = (yX8_isLiquid, cX8_isLiquid, 2, (some .boolean), false) := rfl
theorem na_122 : yX8_isLiquid.cls ≠ "java/lang/invoke/MethodHandle" ∧ yX8_isLiquid.cls ≠ "java/lang/invoke/VarHandle" ∧ (parseMethodDescriptor yX8_isLiquid.desc).map (fun d => d.parameters.length) = some 1 := ⟨ncl_8.1, ncl_8.2, pds_17⟩
theorem mi_123 : mI 123 = (yX8_isDrop, cX8_isDrop, 2, (some .boolean), false) := rfl
theorem na_123 : yX8_isDrop.cls ≠ "java/lang/invoke/MethodHandle" ∧ yX8_isDrop.cls ≠ "java/lang/invoke/VarHandle" ∧ (parseMethodDescriptor yX8_isDrop.desc).map (fun d => d.parameters.length) = some 1 := ⟨ncl_8.1, ncl_8.2, pds_17⟩
theorem mi_124 : mI 124 = (yX8_holds, cX8_holds, 3, (some .int), false) := rfl
theorem na_124 : yX8_holds.cls ≠ "java/lang/invoke/MethodHandle" ∧ yX8_holds.cls ≠ "java/lang/invoke/VarHandle" ∧ (parseMethodDescriptor yX8_holds.desc).map (fun d => d.parameters.length) = some 2 := ⟨ncl_8.1, ncl_8.2, pds_25⟩
theorem mi_125 : mI 125 = (yX8_its, cX8_its, 3, (some .int), false) := rfl
theorem na_125 : yX8_its.cls ≠ "java/lang/invoke/MethodHandle" ∧ yX8_its.cls ≠ "java/lang/invoke/VarHandle" ∧ (parseMethodDescriptor yX8_its.desc).map (fun d => d.parameters.length) = some 2 := ⟨ncl_8.1, ncl_8.2, pds_25⟩
theorem mi_126 : mI 126 = (yX8_top, cX8_top, 2, (some .int), false) := rfl
theorem na_126 : yX8_top.cls ≠ "java/lang/invoke/MethodHandle" ∧ yX8_top.cls ≠ "java/lang/invoke/VarHandle" ∧ (parseMethodDescriptor yX8_top.desc).map (fun d => d.parameters.length) = some 1 := ⟨ncl_8.1, ncl_8.2, pds_5⟩
theorem mi_127 : mI 127 = (yX8_lastIn, cX8_lastIn, 2, (some .int), false) := rfl
theorem na_127 : yX8_lastIn.cls ≠ "java/lang/invoke/MethodHandle" ∧ yX8_lastIn.cls ≠ "java/lang/invoke/VarHandle" ∧ (parseMethodDescriptor yX8_lastIn.desc).map (fun d => d.parameters.length) = some 1 := ⟨ncl_8.1, ncl_8.2, pds_5⟩
theorem mi_128 : mI 128 = (yX8_mayCome, cX8_mayCome, 4, (some .boolean), false) := rfl
theorem na_128 : yX8_mayCome.cls ≠ "java/lang/invoke/MethodHandle" ∧ yX8_mayCome.cls ≠ "java/lang/invoke/VarHandle" ∧ (parseMethodDescriptor yX8_mayCome.desc).map (fun d => d.parameters.length) = some 3 := ⟨ncl_8.1, ncl_8.2, pds_27⟩
theorem mi_129 : mI 129 = (yX8_loadedOf, cX8_loadedOf, 4, (some .int), false) := rfl
theorem na_129 : yX8_loadedOf.cls ≠ "java/lang/invoke/MethodHandle" ∧ yX8_loadedOf.cls ≠ "java/lang/invoke/VarHandle" ∧ (parseMethodDescriptor yX8_loadedOf.desc).map (fun d => d.parameters.length) = some 1 := ⟨ncl_8.1, ncl_8.2, pds_5⟩
theorem mi_130 : mI 130 = (yX8_having, cX8_having, 4, (some .int), false) := rfl
theorem na_130 : yX8_having.cls ≠ "java/lang/invoke/MethodHandle" ∧ yX8_having.cls ≠ "java/lang/invoke/VarHandle" ∧ (parseMethodDescriptor yX8_having.desc).map (fun d => d.parameters.length) = some 1 := ⟨ncl_8.1, ncl_8.2, pds_5⟩
theorem mi_131 : mI 131 = (yX8_laysNow, cX8_laysNow, 2, none, false) := rfl
theorem na_131 : yX8_laysNow.cls ≠ "java/lang/invoke/MethodHandle" ∧ yX8_laysNow.cls ≠ "java/lang/invoke/VarHandle" ∧ (parseMethodDescriptor yX8_laysNow.desc).map (fun d => d.parameters.length) = some 0 := ⟨ncl_8.1, ncl_8.2, pds_0⟩
theorem mi_132 : mI 132 = (yX8_muchBut, cX8_muchBut, 3, (some .int), false) := rfl
theorem na_132 : yX8_muchBut.cls ≠ "java/lang/invoke/MethodHandle" ∧ yX8_muchBut.cls ≠ "java/lang/invoke/VarHandle" ∧ (parseMethodDescriptor yX8_muchBut.desc).map (fun d => d.parameters.length) = some 2 := ⟨ncl_8.1, ncl_8.2, pds_25⟩
theorem mi_133 : mI 133 = (yX8_front, cX8_front, 4, (some .int), false) := rfl
theorem na_133 : yX8_front.cls ≠ "java/lang/invoke/MethodHandle" ∧ yX8_front.cls ≠ "java/lang/invoke/VarHandle" ∧ (parseMethodDescriptor yX8_front.desc).map (fun d => d.parameters.length) = some 1 := ⟨ncl_8.1, ncl_8.2, pds_5⟩
theorem mi_134 : mI 134 = (yX8_rear, cX8_rear, 4, (some .int), false) := rfl
theorem na_134 : yX8_rear.cls ≠ "java/lang/invoke/MethodHandle" ∧ yX8_rear.cls ≠ "java/lang/invoke/VarHandle" ∧ (parseMethodDescriptor yX8_rear.desc).map (fun d => d.parameters.length) = some 1 := ⟨ncl_8.1, ncl_8.2, pds_5⟩
theorem mi_135 : mI 135 = (yX8_stands, cX8_stands, 4, (some .int), false) := rfl
theorem na_135 : yX8_stands.cls ≠ "java/lang/invoke/MethodHandle" ∧ yX8_stands.cls ≠ "java/lang/invoke/VarHandle" ∧ (parseMethodDescriptor yX8_stands.desc).map (fun d => d.parameters.length) = some 1 := ⟨ncl_8.1, ncl_8.2, pds_5⟩
theorem mi_136 : mI 136 = (yX8_ordersFrom, cX8_ordersFrom, 6, (some .int), false) := rfl
theorem na_136 : yX8_ordersFrom.cls ≠ "java/lang/invoke/MethodHandle" ∧ yX8_ordersFrom.cls ≠ "java/lang/invoke/VarHandle" ∧ (parseMethodDescriptor yX8_ordersFrom.desc).map (fun d => d.parameters.length) = some 3 := ⟨ncl_8.1, ncl_8.2, pds_26⟩
theorem mi_137 : mI 137 = (yX8_ordersOf, cX8_ordersOf, 2, (some .int), false) := rfl
theorem na_137 : yX8_ordersOf.cls ≠ "java/lang/invoke/MethodHandle" ∧ yX8_ordersOf.cls ≠ "java/lang/invoke/VarHandle" ∧ (parseMethodDescriptor yX8_ordersOf.desc).map (fun d => d.parameters.length) = some 1 := ⟨ncl_8.1, ncl_8.2, pds_5⟩
theorem mi_138 : mI 138 = (yX8_aboardNow, cX8_aboardNow, 3, (some .int), false) := rfl
theorem na_138 : yX8_aboardNow.cls ≠ "java/lang/invoke/MethodHandle" ∧ yX8_aboardNow.cls ≠ "java/lang/invoke/VarHandle" ∧ (parseMethodDescriptor yX8_aboardNow.desc).map (fun d => d.parameters.length) = some 0 := ⟨ncl_8.1, ncl_8.2, pds_21⟩
theorem mi_139 : mI 139 = (yX8_now, cX8_now, 2, (some .int), false) := rfl
theorem na_139 : yX8_now.cls ≠ "java/lang/invoke/MethodHandle" ∧ yX8_now.cls ≠ "java/lang/invoke/VarHandle" ∧ (parseMethodDescriptor yX8_now.desc).map (fun d => d.parameters.length) = some 1 := ⟨ncl_8.1, ncl_8.2, pds_5⟩
theorem mi_140 : mI 140 = (yX8_bars, cX8_bars, 4, (some .int), false) := rfl
theorem na_140 : yX8_bars.cls ≠ "java/lang/invoke/MethodHandle" ∧ yX8_bars.cls ≠ "java/lang/invoke/VarHandle" ∧ (parseMethodDescriptor yX8_bars.desc).map (fun d => d.parameters.length) = some 0 := ⟨ncl_8.1, ncl_8.2, pds_21⟩
theorem mi_141 : mI 141 = (yX8_compartment, cX8_compartment, 3, (some .int), false) := rfl
theorem na_141 : yX8_compartment.cls ≠ "java/lang/invoke/MethodHandle" ∧ yX8_compartment.cls ≠ "java/lang/invoke/VarHandle" ∧ (parseMethodDescriptor yX8_compartment.desc).map (fun d => d.parameters.length) = some 2 := ⟨ncl_8.1, ncl_8.2, pds_25⟩
theorem mi_142 : mI 142 = (yX8_drop, cX8_drop, 3, (some .int), false) := rfl
theorem na_142 : yX8_drop.cls ≠ "java/lang/invoke/MethodHandle" ∧ yX8_drop.cls ≠ "java/lang/invoke/VarHandle" ∧ (parseMethodDescriptor yX8_drop.desc).map (fun d => d.parameters.length) = some 2 := ⟨ncl_8.1, ncl_8.2, pds_25⟩
theorem mi_143 : mI 143 = (yX8_may, cX8_may, 3, (some .boolean), false) := rfl
theorem na_143 : yX8_may.cls ≠ "java/lang/invoke/MethodHandle" ∧ yX8_may.cls ≠ "java/lang/invoke/VarHandle" ∧ (parseMethodDescriptor yX8_may.desc).map (fun d => d.parameters.length) = some 2 := ⟨ncl_8.1, ncl_8.2, pds_8⟩
theorem mi_144 : mI 144 = (yX8_would, cX8_would, 4, (some .int), false) := rfl
theorem na_144 : yX8_would.cls ≠ "java/lang/invoke/MethodHandle" ∧ yX8_would.cls ≠ "java/lang/invoke/VarHandle" ∧ (parseMethodDescriptor yX8_would.desc).map (fun d => d.parameters.length) = some 3 := ⟨ncl_8.1, ncl_8.2, pds_26⟩
theorem mi_145 : mI 145 = (yX8_orders, cX8_orders, 1, (some .int), false) := rfl
theorem na_145 : yX8_orders.cls ≠ "java/lang/invoke/MethodHandle" ∧ yX8_orders.cls ≠ "java/lang/invoke/VarHandle" ∧ (parseMethodDescriptor yX8_orders.desc).map (fun d => d.parameters.length) = some 0 := ⟨ncl_8.1, ncl_8.2, pds_21⟩
theorem mi_146 : mI 146 = (yX8_ordered, cX8_ordered, 2, (some .int), false) := rfl
theorem na_146 : yX8_ordered.cls ≠ "java/lang/invoke/MethodHandle" ∧ yX8_ordered.cls ≠ "java/lang/invoke/VarHandle" ∧ (parseMethodDescriptor yX8_ordered.desc).map (fun d => d.parameters.length) = some 1 := ⟨ncl_8.1, ncl_8.2, pds_5⟩
theorem mi_147 : mI 147 = (yX8_without, cX8_without, 2, (some .int), false) := rfl
theorem na_147 : yX8_without.cls ≠ "java/lang/invoke/MethodHandle" ∧ yX8_without.cls ≠ "java/lang/invoke/VarHandle" ∧ (parseMethodDescriptor yX8_without.desc).map (fun d => d.parameters.length) = some 1 := ⟨ncl_8.1, ncl_8.2, pds_5⟩
theorem mi_148 : mI 148 = (yX8_pours, cX8_pours, 8, (some .int), false) := rfl
theorem na_148 : yX8_pours.cls ≠ "java/lang/invoke/MethodHandle" ∧ yX8_pours.cls ≠ "java/lang/invoke/VarHandle" ∧ (parseMethodDescriptor yX8_pours.desc).map (fun d => d.parameters.length) = some 1 := ⟨ncl_8.1, ncl_8.2, pds_5⟩
theorem mi_149 : mI 149 = (yX8_looks, cX8_looks, 6, none, false) := rfl
theorem na_149 : yX8_looks.cls ≠ "java/lang/invoke/MethodHandle" ∧ yX8_looks.cls ≠ "java/lang/invoke/VarHandle" ∧ (parseMethodDescriptor yX8_looks.desc).map (fun d => d.parameters.length) = some 1 := ⟨ncl_8.1, ncl_8.2, pds_4⟩
theorem mi_150 : mI 150 = (yX8_tries, cX8_tries, 4, none, false) := rfl
theorem na_150 : yX8_tries.cls ≠ "java/lang/invoke/MethodHandle" ∧ yX8_tries.cls ≠ "java/lang/invoke/VarHandle" ∧ (parseMethodDescriptor yX8_tries.desc).map (fun d => d.parameters.length) = some 2 := ⟨ncl_8.1, ncl_8.2, pds_18⟩
theorem mi_151 : mI 151 = (yX8_laysPlan, cX8_laysPlan, 3, none, false) := rfl
theorem na_151 : yX8_laysPlan.cls ≠ "java/lang/invoke/MethodHandle" ∧ yX8_laysPlan.cls ≠ "java/lang/invoke/VarHandle" ∧ (parseMethodDescriptor yX8_laysPlan.desc).map (fun d => d.parameters.length) = some 1 := ⟨ncl_8.1, ncl_8.2, pds_4⟩
theorem mi_152 : mI 152 = (yX8_plan, cX8_plan, 3, (some .int), false) := rfl
theorem na_152 : yX8_plan.cls ≠ "java/lang/invoke/MethodHandle" ∧ yX8_plan.cls ≠ "java/lang/invoke/VarHandle" ∧ (parseMethodDescriptor yX8_plan.desc).map (fun d => d.parameters.length) = some 1 := ⟨ncl_8.1, ncl_8.2, pds_5⟩
theorem mi_153 : mI 153 = (yX8_washes, cX8_washes, 6, (some .int), false) := rfl
theorem na_153 : yX8_washes.cls ≠ "java/lang/invoke/MethodHandle" ∧ yX8_washes.cls ≠ "java/lang/invoke/VarHandle" ∧ (parseMethodDescriptor yX8_washes.desc).map (fun d => d.parameters.length) = some 0 := ⟨ncl_8.1, ncl_8.2, pds_21⟩
theorem mi_154 : mI 154 = (yX8_snap, cX8_snap, 2, none, false) := rfl
theorem na_154 : yX8_snap.cls ≠ "java/lang/invoke/MethodHandle" ∧ yX8_snap.cls ≠ "java/lang/invoke/VarHandle" ∧ (parseMethodDescriptor yX8_snap.desc).map (fun d => d.parameters.length) = some 0 := ⟨ncl_8.1, ncl_8.2, pds_0⟩
theorem mi_155 : mI 155 = (yX8_asks, cX8_asks, 5, (some .int), false) := rfl
theorem na_155 : yX8_asks.cls ≠ "java/lang/invoke/MethodHandle" ∧ yX8_asks.cls ≠ "java/lang/invoke/VarHandle" ∧ (parseMethodDescriptor yX8_asks.desc).map (fun d => d.parameters.length) = some 2 := ⟨ncl_8.1, ncl_8.2, pds_25⟩
theorem mi_156 : mI 156 = (yX8_cancel, cX8_cancel, 2, (some .boolean), false) := rfl
theorem na_156 : yX8_cancel.cls ≠ "java/lang/invoke/MethodHandle" ∧ yX8_cancel.cls ≠ "java/lang/invoke/VarHandle" ∧ (parseMethodDescriptor yX8_cancel.desc).map (fun d => d.parameters.length) = some 1 := ⟨ncl_8.1, ncl_8.2, pds_17⟩
theorem mi_157 : mI 157 = (yX8_puts, cX8_puts, 4, none, false) := rfl
theorem pds_33 : (parseMethodDescriptor "(III)V").map (fun d => d.parameters.length) = some 3 := by decide +kernel
theorem na_157 : yX8_puts.cls ≠ "java/lang/invoke/MethodHandle" ∧ yX8_puts.cls ≠ "java/lang/invoke/VarHandle" ∧ (parseMethodDescriptor yX8_puts.desc).map (fun d => d.parameters.length) = some 3 := ⟨ncl_8.1, ncl_8.2, pds_33⟩
theorem mi_158 : mI 158 = (yX8_put, cX8_put, 5, (some .int), false) := rfl
theorem na_158 : yX8_put.cls ≠ "java/lang/invoke/MethodHandle" ∧ yX8_put.cls ≠ "java/lang/invoke/VarHandle" ∧ (parseMethodDescriptor yX8_put.desc).map (fun d => d.parameters.length) = some 2 := ⟨ncl_8.1, ncl_8.2, pds_25⟩
theorem mi_159 : mI 159 = (yX8_load, cX8_load, 2, (some .int), false) := rfl
theorem na_159 : yX8_load.cls ≠ "java/lang/invoke/MethodHandle" ∧ yX8_load.cls ≠ "java/lang/invoke/VarHandle" ∧ (parseMethodDescriptor yX8_load.desc).map (fun d => d.parameters.length) = some 0 := ⟨ncl_8.1, ncl_8.2, pds_21⟩
theorem mi_160 : mI 160 = (yX8_goes, cX8_goes, 2, none, false) := rfl
theorem na_160 : yX8_goes.cls ≠ "java/lang/invoke/MethodHandle" ∧ yX8_goes.cls ≠ "java/lang/invoke/VarHandle" ∧ (parseMethodDescriptor yX8_goes.desc).map (fun d => d.parameters.length) = some 1 := ⟨ncl_8.1, ncl_8.2, pds_4⟩
theorem mi_161 : mI 161 = (yX8_unload, cX8_unload, 5, (some .int), false) := rfl
theorem na_161 : yX8_unload.cls ≠ "java/lang/invoke/MethodHandle" ∧ yX8_unload.cls ≠ "java/lang/invoke/VarHandle" ∧ (parseMethodDescriptor yX8_unload.desc).map (fun d => d.parameters.length) = some 2 := ⟨ncl_8.1, ncl_8.2, pds_25⟩
theorem mi_162 : mI 162 = (yX8_empty, cX8_empty, 4, (some .int), false) := rfl
theorem na_162 : yX8_empty.cls ≠ "java/lang/invoke/MethodHandle" ∧ yX8_empty.cls ≠ "java/lang/invoke/VarHandle" ∧ (parseMethodDescriptor yX8_empty.desc).map (fun d => d.parameters.length) = some 1 := ⟨ncl_8.1, ncl_8.2, pds_5⟩
theorem mi_163 : mI 163 = (yX8_wash, cX8_wash, 2, (some .boolean), false) := rfl
theorem na_163 : yX8_wash.cls ≠ "java/lang/invoke/MethodHandle" ∧ yX8_wash.cls ≠ "java/lang/invoke/VarHandle" ∧ (parseMethodDescriptor yX8_wash.desc).map (fun d => d.parameters.length) = some 1 := ⟨ncl_8.1, ncl_8.2, pds_17⟩
theorem mi_164 : mI 164 = (yX8_undo, cX8_undo, 2, (some .int), false) := rfl
theorem na_164 : yX8_undo.cls ≠ "java/lang/invoke/MethodHandle" ∧ yX8_undo.cls ≠ "java/lang/invoke/VarHandle" ∧ (parseMethodDescriptor yX8_undo.desc).map (fun d => d.parameters.length) = some 0 := ⟨ncl_8.1, ncl_8.2, pds_21⟩
theorem mi_165 : mI 165 = (yJ7_fill_53178, cJ7_fill_53178, 4, none, false) := rfl
theorem ncl_9 : (RJ7 : String) ≠ "java/lang/invoke/MethodHandle" ∧ (RJ7 : String) ≠ "java/lang/invoke/VarHandle" := by decide +kernel
theorem pds_34 : (parseMethodDescriptor "([II)V").map (fun d => d.parameters.length) = some 2 := by decide +kernel
theorem na_165 : yJ7_fill_53178.cls ≠ "java/lang/invoke/MethodHandle" ∧ yJ7_fill_53178.cls ≠ "java/lang/invoke/VarHandle" ∧ (parseMethodDescriptor yJ7_fill_53178.desc).map (fun d => d.parameters.length) = some 2 := ⟨ncl_9.1, ncl_9.2, pds_34⟩
theorem mi_166 : mI 166 = (yJ13_bitCount_95d88, cJ13_bitCount_95d88, 2, (some .int), false) := rfl
theorem ncl_10 : (RJ13 : String) ≠ "java/lang/invoke/MethodHandle" ∧ (RJ13 : String) ≠ "java/lang/invoke/VarHandle" := by decide +kernel
theorem pds_35 : (parseMethodDescriptor "(J)I").map (fun d => d.parameters.length) = some 1 := by decide +kernel
theorem na_166 : yJ13_bitCount_95d88.cls ≠ "java/lang/invoke/MethodHandle" ∧ yJ13_bitCount_95d88.cls ≠ "java/lang/invoke/VarHandle" ∧ (parseMethodDescriptor yJ13_bitCount_95d88.desc).map (fun d => d.parameters.length) = some 1 := ⟨ncl_10.1, ncl_10.2, pds_35⟩
theorem mi_167 : mI 167 = (yJ0_length_8abf5, cJ0_length_8abf5, 1, (some .int), false) := rfl
theorem ncl_11 : (RJ0 : String) ≠ "java/lang/invoke/MethodHandle" ∧ (RJ0 : String) ≠ "java/lang/invoke/VarHandle" := by decide +kernel
theorem na_167 : yJ0_length_8abf5.cls ≠ "java/lang/invoke/MethodHandle" ∧ yJ0_length_8abf5.cls ≠ "java/lang/invoke/VarHandle" ∧ (parseMethodDescriptor yJ0_length_8abf5.desc).map (fun d => d.parameters.length) = some 0 := ⟨ncl_11.1, ncl_11.2, pds_21⟩
theorem mi_168 : mI 168 = (yJ0_coder_7d493, cJ0_coder_7d493, 1, (some .byte), false) := rfl
theorem pds_36 : (parseMethodDescriptor "()B").map (fun d => d.parameters.length) = some 0 := by decide +kernel
theorem na_168 : yJ0_coder_7d493.cls ≠ "java/lang/invoke/MethodHandle" ∧ yJ0_coder_7d493.cls ≠ "java/lang/invoke/VarHandle" ∧ (parseMethodDescriptor yJ0_coder_7d493.desc).map (fun d => d.parameters.length) = some 0 := ⟨ncl_11.1, ncl_11.2, pds_36⟩
theorem mi_169 : mI 169 = (yJ0_charAt_5068e, cJ0_charAt_5068e, 2, (some .char), false) := rfl
theorem pds_37 : (parseMethodDescriptor "(I)C").map (fun d => d.parameters.length) = some 1 := by decide +kernel
theorem na_169 : yJ0_charAt_5068e.cls ≠ "java/lang/invoke/MethodHandle" ∧ yJ0_charAt_5068e.cls ≠ "java/lang/invoke/VarHandle" ∧ (parseMethodDescriptor yJ0_charAt_5068e.desc).map (fun d => d.parameters.length) = some 1 := ⟨ncl_11.1, ncl_11.2, pds_37⟩
theorem mi_170 : mI 170 = (yJ0_isLatin1_aae02, cJ0_isLatin1_aae02, 1, (some .boolean), false) := rfl
theorem na_170 : yJ0_isLatin1_aae02.cls ≠ "java/lang/invoke/MethodHandle" ∧ yJ0_isLatin1_aae02.cls ≠ "java/lang/invoke/VarHandle" ∧ (parseMethodDescriptor yJ0_isLatin1_aae02.desc).map (fun d => d.parameters.length) = some 0 := ⟨ncl_11.1, ncl_11.2, pds_20⟩
theorem mi_171 : mI 171 = (yJ0_checkIndex_df160, cJ0_checkIndex_df160, 2, none, false) := rfl
theorem na_171 : yJ0_checkIndex_df160.cls ≠ "java/lang/invoke/MethodHandle" ∧ yJ0_checkIndex_df160.cls ≠ "java/lang/invoke/VarHandle" ∧ (parseMethodDescriptor yJ0_checkIndex_df160.desc).map (fun d => d.parameters.length) = some 2 := ⟨ncl_11.1, ncl_11.2, pds_18⟩
theorem mi_172 : mI 172 = (yJ1_charAt_3b067, cJ1_charAt_3b067, 2, (some .char), false) := rfl
theorem ncl_12 : (RJ1 : String) ≠ "java/lang/invoke/MethodHandle" ∧ (RJ1 : String) ≠ "java/lang/invoke/VarHandle" := by decide +kernel
theorem pds_38 : (parseMethodDescriptor "([BI)C").map (fun d => d.parameters.length) = some 2 := by decide +kernel
theorem na_172 : yJ1_charAt_3b067.cls ≠ "java/lang/invoke/MethodHandle" ∧ yJ1_charAt_3b067.cls ≠ "java/lang/invoke/VarHandle" ∧ (parseMethodDescriptor yJ1_charAt_3b067.desc).map (fun d => d.parameters.length) = some 2 := ⟨ncl_12.1, ncl_12.2, pds_38⟩
theorem mi_173 : mI 173 = (yJ3_checkIndex_8e157, cJ3_checkIndex_8e157, 3, (some .int), false) := rfl
theorem ncl_13 : (RJ3 : String) ≠ "java/lang/invoke/MethodHandle" ∧ (RJ3 : String) ≠ "java/lang/invoke/VarHandle" := by decide +kernel
theorem pds_39 : (parseMethodDescriptor "(IILjava/util/function/BiFunction;)I").map (fun d => d.parameters.length) = some 3 := by decide +kernel
theorem na_173 : yJ3_checkIndex_8e157.cls ≠ "java/lang/invoke/MethodHandle" ∧ yJ3_checkIndex_8e157.cls ≠ "java/lang/invoke/VarHandle" ∧ (parseMethodDescriptor yJ3_checkIndex_8e157.desc).map (fun d => d.parameters.length) = some 3 := ⟨ncl_13.1, ncl_13.2, pds_39⟩
