/-! the law's own code: the script's length and ints, and the rest -/
def eSlen (pc L : Nat) : Ent := (pc, fun _ lv st h => match st with
  | .retAddr _ :: r => some (.inl (pc + 1, lv, .int (Int32.ofNat L) :: r, h))
  | _ => none)
def eSld (pc L : Nat) (xs : Nat → Int32) : Ent := (pc, fun _ lv st h => match st with
  | .int i :: .retAddr _ :: r => if ¬ i < 0 ∧ i.toNatClampNeg < L then some (.inl (pc + 1, lv, .int (xs i.toNatClampNeg) :: r, h)) else none
  | _ => none)
theorem ok_slen {l : Launch} {own : String} {cc : ByteArray} {nL : Nat} {ret : Option FieldType} {ini : Bool} {D : va_G} {cA : Nat → ClassId} {B : BB} {G : State → Prop} {md : Bool} {d : Nat} {call : Call} {pc L : Nat} {xs : Nat → Int32} (hG : ∀ s, G s → va_X B.2.1 L xs s s.heap) (hB : B.2.1 < B.1) (hd : decode cc pc = .ok (.arraylength, 1)) : EOk l own cc nL ret ini D cA B G md d call (eSlen pc L) := by
  intro lv st h out ho
  simp only [eSlen] at ho
  split at ho
  · next x r =>
    cases ho
    refine ⟨Nat.le_refl _, Nat.le_refl _, ?_⟩
    intro p e R s m args below meth c Q C _ _ H locs ls c0 s0 x0 y0 hW hl _ _ _ _ _ kk
    exact va_slen C.1 C.2.1 (hG s C.2.2.2.2.2.2.2.2.2.1.2.1) (Nat.lt_of_lt_of_le hB C.2.2.2.2.2.2.2.2.2.2) (Nat.not_le.mpr hB) hW.2 hd (kk H locs ls hW hl)
  · cases ho
theorem ok_sld {l : Launch} {own : String} {cc : ByteArray} {nL : Nat} {ret : Option FieldType} {ini : Bool} {D : va_G} {cA : Nat → ClassId} {B : BB} {G : State → Prop} {md : Bool} {d : Nat} {call : Call} {pc L : Nat} {xs : Nat → Int32} (hG : ∀ s, G s → va_X B.2.1 L xs s s.heap) (hB : B.2.1 < B.1) (hd : decode cc pc = .ok (.iaload, 1)) : EOk l own cc nL ret ini D cA B G md d call (eSld pc L xs) := by
  intro lv st h out ho
  simp only [eSld] at ho
  split at ho
  · next i x r =>
    split at ho
    · next hi =>
      cases ho
      refine ⟨Nat.le_refl _, Nat.le_refl _, ?_⟩
      intro p e R s m args below meth c Q C _ _ H locs ls c0 s0 x0 y0 hW hl _ _ _ _ _ kk
      have hin : vp_in i L := fun z => z.elim hi.1 (fun z => absurd hi.2 (Nat.not_lt.mpr z))
      exact va_sld C.1 C.2.1 (hG s C.2.2.2.2.2.2.2.2.2.1.2.1) (Nat.lt_of_lt_of_le hB C.2.2.2.2.2.2.2.2.2.2) (Nat.not_le.mpr hB) hW.2 hin hd (kk H locs ls hW hl)
    · cases ho
  · cases ho
theorem w_93 : Cond.classLink RL 8 RX7 ∈ tT := tT_in (cs_tables_1_1) 22 (by decide +kernel) rfl
theorem w_94 : Cond.instantiable RX7 11 ∈ tT := tT_in (cs_tables_1_1) 23 (by decide +kernel) rfl
theorem w_95 : Cond.methodLink RL 15 yX7_init ∈ tT := tT_in (cs_tables_1_1) 24 (by decide +kernel) rfl
theorem w_96 : Cond.instanceMethod yX7_init ∈ tT := tT_in (cs_tables_1_1) 25 (by decide +kernel) rfl
theorem w_97 : Cond.code yX7_init cX7_init 1 none ∈ tT := tT_in (cs_tables_1_1) 26 (by decide +kernel) rfl
theorem w_940 : Cond.classLink RL 16 RX8 ∈ tT := tT_in (cs_tables_1_4) 149 (by decide +kernel) rfl
theorem w_934 : Cond.instantiable RX8 28 ∈ tT := tT_in (cs_tables_1_4) 143 (by decide +kernel) rfl
theorem w_941 : Cond.methodLink RL 18 yX8_init ∈ tT := tT_in (cs_tables_1_4) 150 (by decide +kernel) rfl
theorem w_942 : Cond.instanceMethod yX8_init ∈ tT := tT_in (cs_tables_1_4) 151 (by decide +kernel) rfl
theorem w_943 : Cond.code yX8_init cX8_init 1 none ∈ tT := tT_in (cs_tables_1_4) 152 (by decide +kernel) rfl
theorem w_1304 : Cond.arrayClass .long ∈ tT := tT_in (cs_tables_1_6) 33 (by decide +kernel) rfl
theorem w_442 : Cond.methodLink RL 19 yX7_feed ∈ tT := tT_in (cs_tables_1_2) 131 (by decide +kernel) rfl
theorem w_443 : Cond.instanceMethod yX7_feed ∈ tT := tT_in (cs_tables_1_2) 132 (by decide +kernel) rfl
theorem w_444 : Cond.selects RX7 yX7_feed yX7_feed ∈ tT := tT_in (cs_tables_1_2) 133 (by decide +kernel) rfl
theorem w_445 : Cond.code yX7_feed cX7_feed 6 (some .int) ∈ tT := tT_in (cs_tables_1_2) 134 (by decide +kernel) rfl
theorem w_927 : Cond.methodLink RL 23 yX8_feed ∈ tT := tT_in (cs_tables_1_4) 136 (by decide +kernel) rfl
theorem w_928 : Cond.instanceMethod yX8_feed ∈ tT := tT_in (cs_tables_1_4) 137 (by decide +kernel) rfl
theorem w_929 : Cond.selects RX8 yX8_feed yX8_feed ∈ tT := tT_in (cs_tables_1_4) 138 (by decide +kernel) rfl
theorem w_930 : Cond.code yX8_feed cX8_feed 6 (some .int) ∈ tT := tT_in (cs_tables_1_4) 139 (by decide +kernel) rfl
theorem w_450 : Cond.methodLink RL 24 yX7_end ∈ tT := tT_in (cs_tables_1_2) 139 (by decide +kernel) rfl
theorem w_451 : Cond.instanceMethod yX7_end ∈ tT := tT_in (cs_tables_1_2) 140 (by decide +kernel) rfl
theorem w_452 : Cond.selects RX7 yX7_end yX7_end ∈ tT := tT_in (cs_tables_1_2) 141 (by decide +kernel) rfl
theorem w_453 : Cond.code yX7_end cX7_end 2 (some .boolean) ∈ tT := tT_in (cs_tables_1_2) 142 (by decide +kernel) rfl
theorem w_936 : Cond.methodLink RL 28 yX8_end ∈ tT := tT_in (cs_tables_1_4) 145 (by decide +kernel) rfl
theorem w_937 : Cond.instanceMethod yX8_end ∈ tT := tT_in (cs_tables_1_4) 146 (by decide +kernel) rfl
theorem w_938 : Cond.selects RX8 yX8_end yX8_end ∈ tT := tT_in (cs_tables_1_4) 147 (by decide +kernel) rfl
theorem w_939 : Cond.code yX8_end cX8_end 2 (some .boolean) ∈ tT := tT_in (cs_tables_1_4) 148 (by decide +kernel) rfl
theorem w_454 : Cond.methodLink RL 29 yX7_text ∈ tT := tT_in (cs_tables_1_2) 143 (by decide +kernel) rfl
theorem w_455 : Cond.instanceMethod yX7_text ∈ tT := tT_in (cs_tables_1_2) 144 (by decide +kernel) rfl
theorem w_456 : Cond.selects RX7 yX7_text yX7_text ∈ tT := tT_in (cs_tables_1_2) 145 (by decide +kernel) rfl
theorem w_457 : Cond.code yX7_text cX7_text 3 (some .int) ∈ tT := tT_in (cs_tables_1_2) 146 (by decide +kernel) rfl
theorem w_1030 : Cond.methodLink RL 33 yX8_text ∈ tT := tT_in (cs_tables_1_4) 239 (by decide +kernel) rfl
theorem w_1031 : Cond.instanceMethod yX8_text ∈ tT := tT_in (cs_tables_1_5) 0 (by decide +kernel) rfl
theorem w_1032 : Cond.selects RX8 yX8_text yX8_text ∈ tT := tT_in (cs_tables_1_5) 1 (by decide +kernel) rfl
theorem w_1033 : Cond.code yX8_text cX8_text 3 (some .int) ∈ tT := tT_in (cs_tables_1_5) 2 (by decide +kernel) rfl
theorem w_596 : Cond.methodLink RL 34 yX7_fault ∈ tT := tT_in (cs_tables_1_3) 45 (by decide +kernel) rfl
theorem w_597 : Cond.instanceMethod yX7_fault ∈ tT := tT_in (cs_tables_1_3) 46 (by decide +kernel) rfl
theorem w_598 : Cond.selects RX7 yX7_fault yX7_fault ∈ tT := tT_in (cs_tables_1_3) 47 (by decide +kernel) rfl
theorem w_599 : Cond.code yX7_fault cX7_fault 1 (some .int) ∈ tT := tT_in (cs_tables_1_3) 48 (by decide +kernel) rfl
theorem w_1116 : Cond.methodLink RL 37 yX8_fault ∈ tT := tT_in (cs_tables_1_5) 85 (by decide +kernel) rfl
theorem w_1117 : Cond.instanceMethod yX8_fault ∈ tT := tT_in (cs_tables_1_5) 86 (by decide +kernel) rfl
theorem w_1118 : Cond.selects RX8 yX8_fault yX8_fault ∈ tT := tT_in (cs_tables_1_5) 87 (by decide +kernel) rfl
theorem w_1119 : Cond.code yX8_fault cX8_fault 1 (some .int) ∈ tT := tT_in (cs_tables_1_5) 88 (by decide +kernel) rfl
theorem w_600 : Cond.methodLink RL 38 yX7_now ∈ tT := tT_in (cs_tables_1_3) 49 (by decide +kernel) rfl
theorem w_601 : Cond.instanceMethod yX7_now ∈ tT := tT_in (cs_tables_1_3) 50 (by decide +kernel) rfl
theorem w_602 : Cond.selects RX7 yX7_now yX7_now ∈ tT := tT_in (cs_tables_1_3) 51 (by decide +kernel) rfl
theorem w_603 : Cond.code yX7_now cX7_now 2 (some .int) ∈ tT := tT_in (cs_tables_1_3) 52 (by decide +kernel) rfl
theorem w_1120 : Cond.methodLink RL 42 yX8_now ∈ tT := tT_in (cs_tables_1_5) 89 (by decide +kernel) rfl
theorem w_1121 : Cond.instanceMethod yX8_now ∈ tT := tT_in (cs_tables_1_5) 90 (by decide +kernel) rfl
theorem w_1122 : Cond.selects RX8 yX8_now yX8_now ∈ tT := tT_in (cs_tables_1_5) 91 (by decide +kernel) rfl
theorem w_1123 : Cond.code yX8_now cX8_now 2 (some .int) ∈ tT := tT_in (cs_tables_1_5) 92 (by decide +kernel) rfl
theorem w_632 : Cond.methodLink RL 43 yX7_compartment ∈ tT := tT_in (cs_tables_1_3) 81 (by decide +kernel) rfl
theorem w_633 : Cond.instanceMethod yX7_compartment ∈ tT := tT_in (cs_tables_1_3) 82 (by decide +kernel) rfl
theorem w_634 : Cond.selects RX7 yX7_compartment yX7_compartment ∈ tT := tT_in (cs_tables_1_3) 83 (by decide +kernel) rfl
theorem w_635 : Cond.code yX7_compartment cX7_compartment 3 (some .int) ∈ tT := tT_in (cs_tables_1_3) 84 (by decide +kernel) rfl
theorem w_1160 : Cond.methodLink RL 46 yX8_compartment ∈ tT := tT_in (cs_tables_1_5) 129 (by decide +kernel) rfl
theorem w_1161 : Cond.instanceMethod yX8_compartment ∈ tT := tT_in (cs_tables_1_5) 130 (by decide +kernel) rfl
theorem w_1162 : Cond.selects RX8 yX8_compartment yX8_compartment ∈ tT := tT_in (cs_tables_1_5) 131 (by decide +kernel) rfl
theorem w_1163 : Cond.code yX8_compartment cX8_compartment 3 (some .int) ∈ tT := tT_in (cs_tables_1_5) 132 (by decide +kernel) rfl
theorem w_1176 : Cond.methodLink RL 52 yX8_drop ∈ tT := tT_in (cs_tables_1_5) 145 (by decide +kernel) rfl
theorem w_1177 : Cond.instanceMethod yX8_drop ∈ tT := tT_in (cs_tables_1_5) 146 (by decide +kernel) rfl
theorem w_1178 : Cond.selects RX8 yX8_drop yX8_drop ∈ tT := tT_in (cs_tables_1_5) 147 (by decide +kernel) rfl
theorem w_1179 : Cond.code yX8_drop cX8_drop 3 (some .int) ∈ tT := tT_in (cs_tables_1_5) 148 (by decide +kernel) rfl
theorem w_923 : Cond.methodLink RL 53 yX8_thrown ∈ tT := tT_in (cs_tables_1_4) 132 (by decide +kernel) rfl
theorem w_924 : Cond.instanceMethod yX8_thrown ∈ tT := tT_in (cs_tables_1_4) 133 (by decide +kernel) rfl
theorem w_925 : Cond.selects RX8 yX8_thrown yX8_thrown ∈ tT := tT_in (cs_tables_1_4) 134 (by decide +kernel) rfl
theorem w_926 : Cond.code yX8_thrown cX8_thrown 1 (some .int) ∈ tT := tT_in (cs_tables_1_4) 135 (by decide +kernel) rfl
theorem w_644 : Cond.methodLink RL 56 yX7_may ∈ tT := tT_in (cs_tables_1_3) 93 (by decide +kernel) rfl
theorem w_645 : Cond.instanceMethod yX7_may ∈ tT := tT_in (cs_tables_1_3) 94 (by decide +kernel) rfl
theorem w_646 : Cond.selects RX7 yX7_may yX7_may ∈ tT := tT_in (cs_tables_1_3) 95 (by decide +kernel) rfl
theorem w_647 : Cond.code yX7_may cX7_may 3 (some .boolean) ∈ tT := tT_in (cs_tables_1_3) 96 (by decide +kernel) rfl
theorem w_1192 : Cond.methodLink RL 60 yX8_may ∈ tT := tT_in (cs_tables_1_5) 161 (by decide +kernel) rfl
theorem w_1193 : Cond.instanceMethod yX8_may ∈ tT := tT_in (cs_tables_1_5) 162 (by decide +kernel) rfl
theorem w_1194 : Cond.selects RX8 yX8_may yX8_may ∈ tT := tT_in (cs_tables_1_5) 163 (by decide +kernel) rfl
theorem w_1195 : Cond.code yX8_may cX8_may 3 (some .boolean) ∈ tT := tT_in (cs_tables_1_5) 164 (by decide +kernel) rfl
theorem w_656 : Cond.methodLink RL 61 yX7_would ∈ tT := tT_in (cs_tables_1_3) 105 (by decide +kernel) rfl
theorem w_657 : Cond.instanceMethod yX7_would ∈ tT := tT_in (cs_tables_1_3) 106 (by decide +kernel) rfl
theorem w_658 : Cond.selects RX7 yX7_would yX7_would ∈ tT := tT_in (cs_tables_1_3) 107 (by decide +kernel) rfl
theorem w_659 : Cond.code yX7_would cX7_would 4 (some .int) ∈ tT := tT_in (cs_tables_1_3) 108 (by decide +kernel) rfl
theorem w_1204 : Cond.methodLink RL 65 yX8_would ∈ tT := tT_in (cs_tables_1_5) 173 (by decide +kernel) rfl
theorem w_1205 : Cond.instanceMethod yX8_would ∈ tT := tT_in (cs_tables_1_5) 174 (by decide +kernel) rfl
theorem w_1206 : Cond.selects RX8 yX8_would yX8_would ∈ tT := tT_in (cs_tables_1_5) 175 (by decide +kernel) rfl
theorem w_1207 : Cond.code yX8_would cX8_would 4 (some .int) ∈ tT := tT_in (cs_tables_1_5) 176 (by decide +kernel) rfl
theorem w_668 : Cond.methodLink RL 66 yX7_orders ∈ tT := tT_in (cs_tables_1_3) 117 (by decide +kernel) rfl
theorem w_669 : Cond.instanceMethod yX7_orders ∈ tT := tT_in (cs_tables_1_3) 118 (by decide +kernel) rfl
theorem w_670 : Cond.selects RX7 yX7_orders yX7_orders ∈ tT := tT_in (cs_tables_1_3) 119 (by decide +kernel) rfl
theorem w_671 : Cond.code yX7_orders cX7_orders 1 (some .int) ∈ tT := tT_in (cs_tables_1_3) 120 (by decide +kernel) rfl
theorem w_1208 : Cond.methodLink RL 69 yX8_orders ∈ tT := tT_in (cs_tables_1_5) 177 (by decide +kernel) rfl
theorem w_1209 : Cond.instanceMethod yX8_orders ∈ tT := tT_in (cs_tables_1_5) 178 (by decide +kernel) rfl
theorem w_1210 : Cond.selects RX8 yX8_orders yX8_orders ∈ tT := tT_in (cs_tables_1_5) 179 (by decide +kernel) rfl
theorem w_1211 : Cond.code yX8_orders cX8_orders 1 (some .int) ∈ tT := tT_in (cs_tables_1_5) 180 (by decide +kernel) rfl
theorem w_697 : Cond.methodLink RL 70 yX7_ordered ∈ tT := tT_in (cs_tables_1_3) 146 (by decide +kernel) rfl
theorem w_698 : Cond.instanceMethod yX7_ordered ∈ tT := tT_in (cs_tables_1_3) 147 (by decide +kernel) rfl
theorem w_699 : Cond.selects RX7 yX7_ordered yX7_ordered ∈ tT := tT_in (cs_tables_1_3) 148 (by decide +kernel) rfl
theorem w_700 : Cond.code yX7_ordered cX7_ordered 2 (some .int) ∈ tT := tT_in (cs_tables_1_3) 149 (by decide +kernel) rfl
theorem w_1224 : Cond.methodLink RL 73 yX8_ordered ∈ tT := tT_in (cs_tables_1_5) 193 (by decide +kernel) rfl
theorem w_1225 : Cond.instanceMethod yX8_ordered ∈ tT := tT_in (cs_tables_1_5) 194 (by decide +kernel) rfl
theorem w_1226 : Cond.selects RX8 yX8_ordered yX8_ordered ∈ tT := tT_in (cs_tables_1_5) 195 (by decide +kernel) rfl
theorem w_1227 : Cond.code yX8_ordered cX8_ordered 2 (some .int) ∈ tT := tT_in (cs_tables_1_5) 196 (by decide +kernel) rfl
theorem w_709 : Cond.methodLink RL 74 yX7_without ∈ tT := tT_in (cs_tables_1_3) 158 (by decide +kernel) rfl
theorem w_710 : Cond.instanceMethod yX7_without ∈ tT := tT_in (cs_tables_1_3) 159 (by decide +kernel) rfl
theorem w_711 : Cond.selects RX7 yX7_without yX7_without ∈ tT := tT_in (cs_tables_1_3) 160 (by decide +kernel) rfl
theorem w_712 : Cond.code yX7_without cX7_without 2 (some .int) ∈ tT := tT_in (cs_tables_1_3) 161 (by decide +kernel) rfl
theorem w_1228 : Cond.methodLink RL 77 yX8_without ∈ tT := tT_in (cs_tables_1_5) 197 (by decide +kernel) rfl
theorem w_1229 : Cond.instanceMethod yX8_without ∈ tT := tT_in (cs_tables_1_5) 198 (by decide +kernel) rfl
theorem w_1230 : Cond.selects RX8 yX8_without yX8_without ∈ tT := tT_in (cs_tables_1_5) 199 (by decide +kernel) rfl
theorem w_1231 : Cond.code yX8_without cX8_without 2 (some .int) ∈ tT := tT_in (cs_tables_1_5) 200 (by decide +kernel) rfl
theorem w_727 : Cond.methodLink RL 78 yX7_plan ∈ tT := tT_in (cs_tables_1_3) 176 (by decide +kernel) rfl
theorem w_728 : Cond.instanceMethod yX7_plan ∈ tT := tT_in (cs_tables_1_3) 177 (by decide +kernel) rfl
theorem w_729 : Cond.selects RX7 yX7_plan yX7_plan ∈ tT := tT_in (cs_tables_1_3) 178 (by decide +kernel) rfl
theorem w_730 : Cond.code yX7_plan cX7_plan 2 (some .int) ∈ tT := tT_in (cs_tables_1_3) 179 (by decide +kernel) rfl
theorem w_1232 : Cond.methodLink RL 81 yX8_plan ∈ tT := tT_in (cs_tables_1_5) 201 (by decide +kernel) rfl
theorem w_1233 : Cond.instanceMethod yX8_plan ∈ tT := tT_in (cs_tables_1_5) 202 (by decide +kernel) rfl
theorem w_1234 : Cond.selects RX8 yX8_plan yX8_plan ∈ tT := tT_in (cs_tables_1_5) 203 (by decide +kernel) rfl
theorem w_1235 : Cond.code yX8_plan cX8_plan 3 (some .int) ∈ tT := tT_in (cs_tables_1_5) 204 (by decide +kernel) rfl
theorem w_781 : Cond.methodLink RL 82 yX7_washes ∈ tT := tT_in (cs_tables_1_3) 230 (by decide +kernel) rfl
theorem w_782 : Cond.instanceMethod yX7_washes ∈ tT := tT_in (cs_tables_1_3) 231 (by decide +kernel) rfl
theorem w_783 : Cond.selects RX7 yX7_washes yX7_washes ∈ tT := tT_in (cs_tables_1_3) 232 (by decide +kernel) rfl
theorem w_784 : Cond.code yX7_washes cX7_washes 2 (some .int) ∈ tT := tT_in (cs_tables_1_3) 233 (by decide +kernel) rfl
theorem w_1252 : Cond.methodLink RL 85 yX8_washes ∈ tT := tT_in (cs_tables_1_5) 221 (by decide +kernel) rfl
theorem w_1253 : Cond.instanceMethod yX8_washes ∈ tT := tT_in (cs_tables_1_5) 222 (by decide +kernel) rfl
theorem w_1254 : Cond.selects RX8 yX8_washes yX8_washes ∈ tT := tT_in (cs_tables_1_5) 223 (by decide +kernel) rfl
theorem w_1255 : Cond.code yX8_washes cX8_washes 6 (some .int) ∈ tT := tT_in (cs_tables_1_5) 224 (by decide +kernel) rfl
theorem w_789 : Cond.methodLink RL 86 yX7_asks ∈ tT := tT_in (cs_tables_1_3) 238 (by decide +kernel) rfl
theorem w_790 : Cond.instanceMethod yX7_asks ∈ tT := tT_in (cs_tables_1_3) 239 (by decide +kernel) rfl
theorem w_791 : Cond.selects RX7 yX7_asks yX7_asks ∈ tT := tT_in (cs_tables_1_4) 0 (by decide +kernel) rfl
theorem w_792 : Cond.code yX7_asks cX7_asks 4 (some .int) ∈ tT := tT_in (cs_tables_1_4) 1 (by decide +kernel) rfl
theorem w_1260 : Cond.methodLink RL 89 yX8_asks ∈ tT := tT_in (cs_tables_1_5) 229 (by decide +kernel) rfl
theorem w_1261 : Cond.instanceMethod yX8_asks ∈ tT := tT_in (cs_tables_1_5) 230 (by decide +kernel) rfl
theorem w_1262 : Cond.selects RX8 yX8_asks yX8_asks ∈ tT := tT_in (cs_tables_1_5) 231 (by decide +kernel) rfl
theorem w_1263 : Cond.code yX8_asks cX8_asks 5 (some .int) ∈ tT := tT_in (cs_tables_1_5) 232 (by decide +kernel) rfl
theorem w_810 : Cond.methodLink RL 90 yX7_cancel ∈ tT := tT_in (cs_tables_1_4) 19 (by decide +kernel) rfl
theorem w_811 : Cond.instanceMethod yX7_cancel ∈ tT := tT_in (cs_tables_1_4) 20 (by decide +kernel) rfl
theorem w_812 : Cond.selects RX7 yX7_cancel yX7_cancel ∈ tT := tT_in (cs_tables_1_4) 21 (by decide +kernel) rfl
theorem w_813 : Cond.code yX7_cancel cX7_cancel 2 (some .boolean) ∈ tT := tT_in (cs_tables_1_4) 22 (by decide +kernel) rfl
theorem w_1268 : Cond.methodLink RL 93 yX8_cancel ∈ tT := tT_in (cs_tables_1_5) 237 (by decide +kernel) rfl
theorem w_1269 : Cond.instanceMethod yX8_cancel ∈ tT := tT_in (cs_tables_1_5) 238 (by decide +kernel) rfl
theorem w_1270 : Cond.selects RX8 yX8_cancel yX8_cancel ∈ tT := tT_in (cs_tables_1_5) 239 (by decide +kernel) rfl
theorem w_1271 : Cond.code yX8_cancel cX8_cancel 2 (some .boolean) ∈ tT := tT_in (cs_tables_1_6) 0 (by decide +kernel) rfl
theorem w_815 : Cond.methodLink RL 94 yX7_put ∈ tT := tT_in (cs_tables_1_4) 24 (by decide +kernel) rfl
theorem w_816 : Cond.instanceMethod yX7_put ∈ tT := tT_in (cs_tables_1_4) 25 (by decide +kernel) rfl
theorem w_817 : Cond.selects RX7 yX7_put yX7_put ∈ tT := tT_in (cs_tables_1_4) 26 (by decide +kernel) rfl
theorem w_818 : Cond.code yX7_put cX7_put 6 (some .int) ∈ tT := tT_in (cs_tables_1_4) 27 (by decide +kernel) rfl
theorem w_1272 : Cond.methodLink RL 97 yX8_put ∈ tT := tT_in (cs_tables_1_6) 1 (by decide +kernel) rfl
theorem w_1273 : Cond.instanceMethod yX8_put ∈ tT := tT_in (cs_tables_1_6) 2 (by decide +kernel) rfl
theorem w_1274 : Cond.selects RX8 yX8_put yX8_put ∈ tT := tT_in (cs_tables_1_6) 3 (by decide +kernel) rfl
theorem w_1275 : Cond.code yX8_put cX8_put 5 (some .int) ∈ tT := tT_in (cs_tables_1_6) 4 (by decide +kernel) rfl
theorem w_820 : Cond.methodLink RL 98 yX7_load ∈ tT := tT_in (cs_tables_1_4) 29 (by decide +kernel) rfl
theorem w_821 : Cond.instanceMethod yX7_load ∈ tT := tT_in (cs_tables_1_4) 30 (by decide +kernel) rfl
theorem w_822 : Cond.selects RX7 yX7_load yX7_load ∈ tT := tT_in (cs_tables_1_4) 31 (by decide +kernel) rfl
theorem w_823 : Cond.code yX7_load cX7_load 3 (some .int) ∈ tT := tT_in (cs_tables_1_4) 32 (by decide +kernel) rfl
theorem w_1280 : Cond.methodLink RL 101 yX8_load ∈ tT := tT_in (cs_tables_1_6) 9 (by decide +kernel) rfl
theorem w_1281 : Cond.instanceMethod yX8_load ∈ tT := tT_in (cs_tables_1_6) 10 (by decide +kernel) rfl
theorem w_1282 : Cond.selects RX8 yX8_load yX8_load ∈ tT := tT_in (cs_tables_1_6) 11 (by decide +kernel) rfl
theorem w_1283 : Cond.code yX8_load cX8_load 2 (some .int) ∈ tT := tT_in (cs_tables_1_6) 12 (by decide +kernel) rfl
theorem w_824 : Cond.methodLink RL 102 yX7_unload ∈ tT := tT_in (cs_tables_1_4) 33 (by decide +kernel) rfl
theorem w_825 : Cond.instanceMethod yX7_unload ∈ tT := tT_in (cs_tables_1_4) 34 (by decide +kernel) rfl
theorem w_826 : Cond.selects RX7 yX7_unload yX7_unload ∈ tT := tT_in (cs_tables_1_4) 35 (by decide +kernel) rfl
theorem w_827 : Cond.code yX7_unload cX7_unload 4 (some .int) ∈ tT := tT_in (cs_tables_1_4) 36 (by decide +kernel) rfl
theorem w_1284 : Cond.methodLink RL 105 yX8_unload ∈ tT := tT_in (cs_tables_1_6) 13 (by decide +kernel) rfl
theorem w_1285 : Cond.instanceMethod yX8_unload ∈ tT := tT_in (cs_tables_1_6) 14 (by decide +kernel) rfl
theorem w_1286 : Cond.selects RX8 yX8_unload yX8_unload ∈ tT := tT_in (cs_tables_1_6) 15 (by decide +kernel) rfl
theorem w_1287 : Cond.code yX8_unload cX8_unload 5 (some .int) ∈ tT := tT_in (cs_tables_1_6) 16 (by decide +kernel) rfl
theorem w_837 : Cond.methodLink RL 106 yX7_empty ∈ tT := tT_in (cs_tables_1_4) 46 (by decide +kernel) rfl
theorem w_838 : Cond.instanceMethod yX7_empty ∈ tT := tT_in (cs_tables_1_4) 47 (by decide +kernel) rfl
theorem w_839 : Cond.selects RX7 yX7_empty yX7_empty ∈ tT := tT_in (cs_tables_1_4) 48 (by decide +kernel) rfl
theorem w_840 : Cond.code yX7_empty cX7_empty 3 (some .int) ∈ tT := tT_in (cs_tables_1_4) 49 (by decide +kernel) rfl
theorem w_1292 : Cond.methodLink RL 109 yX8_empty ∈ tT := tT_in (cs_tables_1_6) 21 (by decide +kernel) rfl
theorem w_1293 : Cond.instanceMethod yX8_empty ∈ tT := tT_in (cs_tables_1_6) 22 (by decide +kernel) rfl
theorem w_1294 : Cond.selects RX8 yX8_empty yX8_empty ∈ tT := tT_in (cs_tables_1_6) 23 (by decide +kernel) rfl
theorem w_1295 : Cond.code yX8_empty cX8_empty 4 (some .int) ∈ tT := tT_in (cs_tables_1_6) 24 (by decide +kernel) rfl
theorem w_842 : Cond.methodLink RL 110 yX7_wash ∈ tT := tT_in (cs_tables_1_4) 51 (by decide +kernel) rfl
theorem w_843 : Cond.instanceMethod yX7_wash ∈ tT := tT_in (cs_tables_1_4) 52 (by decide +kernel) rfl
theorem w_844 : Cond.selects RX7 yX7_wash yX7_wash ∈ tT := tT_in (cs_tables_1_4) 53 (by decide +kernel) rfl
theorem w_845 : Cond.code yX7_wash cX7_wash 2 (some .boolean) ∈ tT := tT_in (cs_tables_1_4) 54 (by decide +kernel) rfl
theorem w_1296 : Cond.methodLink RL 113 yX8_wash ∈ tT := tT_in (cs_tables_1_6) 25 (by decide +kernel) rfl
theorem w_1297 : Cond.instanceMethod yX8_wash ∈ tT := tT_in (cs_tables_1_6) 26 (by decide +kernel) rfl
theorem w_1298 : Cond.selects RX8 yX8_wash yX8_wash ∈ tT := tT_in (cs_tables_1_6) 27 (by decide +kernel) rfl
theorem w_1299 : Cond.code yX8_wash cX8_wash 2 (some .boolean) ∈ tT := tT_in (cs_tables_1_6) 28 (by decide +kernel) rfl
theorem w_846 : Cond.methodLink RL 114 yX7_undo ∈ tT := tT_in (cs_tables_1_4) 55 (by decide +kernel) rfl
theorem w_847 : Cond.instanceMethod yX7_undo ∈ tT := tT_in (cs_tables_1_4) 56 (by decide +kernel) rfl
theorem w_848 : Cond.selects RX7 yX7_undo yX7_undo ∈ tT := tT_in (cs_tables_1_4) 57 (by decide +kernel) rfl
theorem w_849 : Cond.code yX7_undo cX7_undo 1 (some .int) ∈ tT := tT_in (cs_tables_1_4) 58 (by decide +kernel) rfl
theorem w_1300 : Cond.methodLink RL 117 yX8_undo ∈ tT := tT_in (cs_tables_1_6) 29 (by decide +kernel) rfl
theorem w_1301 : Cond.instanceMethod yX8_undo ∈ tT := tT_in (cs_tables_1_6) 30 (by decide +kernel) rfl
theorem w_1302 : Cond.selects RX8 yX8_undo yX8_undo ∈ tT := tT_in (cs_tables_1_6) 31 (by decide +kernel) rfl
theorem w_1303 : Cond.code yX8_undo cX8_undo 2 (some .int) ∈ tT := tT_in (cs_tables_1_6) 32 (by decide +kernel) rfl
def k_lawP (md : Bool) : List Ent := [eNew md 0 7 [.null, .int 0, .int 0, .null, .null, .null, .null, .null, .null, .null, .null],
  ePure 3 (fDup 3),
  eCallI 4 0 68,
  ePure 7 (fStoA 7 1 1 7),
  eNew md 8 8 [.int 0, .null, .int 0, .int 0, .int 0, .int 0, .int 0, .int 0, .int 0, .int 0, .long 0, .null, .null, .null, .int 0, .int 0, .null, .null, .null, .null, .null, .int 0, .null, .null, .null, .null, .int 0, .int 0],
  ePure 11 (fDup 11),
  eCallI 12 0 108,
  ePure 15 (fStoA 15 1 2 7),
  ePure 16 (fPush 16 1 (.int 1)),
  eNewJ md 17,
  ePure 19 (fStoA 19 1 3 7),
  ePure 20 (fPush 20 1 (.int 0)),
  ePure 21 (fStoI 21 2 4 7)]
set_option maxRecDepth 100000 in
set_option maxHeartbeats 4000000 in
theorem ko_lawP {l : Launch} {D : va_G} {cA : Nat → ClassId} {B : BB} {G : State → Prop} {md : Bool} {d : Nat} {call : Call} (hok : COk l D cA B G md d mI call) : ∀ e ∈ k_lawP md, EOk l RL cL_law 7 (some .boolean) false D cA B G md d call e := by
  unfold k_lawP
  refine al_cons (ok_new cl_X7 gX7 tyX7_ok w_93 w_94 w_72 dfX7 (by decide) rfl dL_law_0) ?_
  refine al_cons (eok_pure (pr_dup dL_law_3)) ?_
  refine al_cons (ok_callI hok mi_68 w_95 w_96 w_72 w_97 rfl na_68 (by decide) dL_law_4) ?_
  refine al_cons (eok_pure (pr_astore_n dL_law_7 rfl)) ?_
  refine al_cons (ok_new cl_X8 gX8 tyX8_ok w_940 w_934 w_82 dfX8 (by decide) rfl dL_law_8) ?_
  refine al_cons (eok_pure (pr_dup dL_law_11)) ?_
  refine al_cons (ok_callI hok mi_108 w_941 w_942 w_82 w_943 rfl na_108 (by decide) dL_law_12) ?_
  refine al_cons (eok_pure (pr_astore_n dL_law_15 rfl)) ?_
  refine al_cons (eok_pure (pr_iconst dL_law_16 (by decide))) ?_
  refine al_cons (ok_newj w_1304 dL_law_17) ?_
  refine al_cons (eok_pure (pr_astore_n dL_law_19 rfl)) ?_
  refine al_cons (eok_pure (pr_iconst dL_law_20 (by decide))) ?_
  refine al_cons (eok_pure (pr_istore dL_law_21)) ?_
  exact al_nil
def k_lawQ (md : Bool) (L : Nat) (xs : Nat → Int32) : List Ent := [ePure 23 (fLoadI 23 2 4),
  ePure 25 (fLoadA 25 1 0),
  eSlen 26 L,
  ePure 27 (fPush 27 2 (.int 6)),
  ePure 29 (fBin 29 o_isub),
  ePure 30 (fIf2 30 803 b2_gt),
  ePure 33 (fLoadA 33 1 0),
  ePure 34 (fLoadI 34 2 4),
  eSld 36 L xs,
  ePure 37 (fPush 37 2 (.int 31)),
  ePure 39 (fBin 39 o_iand),
  ePure 40 (fSw 0 [144, 217, 242, 255, 268, 293, 330, 398, 435, 484, 497, 522, 547, 572, 585, 622, 647, 684, 697, 734, 759, 784] 797),
  ePure 144 (fLoadA 144 1 1),
  ePure 145 (fLoadA 145 1 0),
  ePure 146 (fLoadI 146 2 4),
  ePure 148 (fPush 148 1 (.int 1)),
  ePure 149 (fBin 149 o_iadd),
  eSld 150 L xs,
  ePure 151 (fLoadA 151 1 0),
  ePure 152 (fLoadI 152 2 4),
  ePure 154 (fPush 154 1 (.int 2)),
  ePure 155 (fBin 155 o_iadd),
  eSld 156 L xs,
  ePure 157 (fLoadA 157 1 0),
  ePure 158 (fLoadI 158 2 4),
  ePure 160 (fPush 160 1 (.int 3)),
  ePure 161 (fBin 161 o_iadd),
  eSld 162 L xs,
  ePure 163 (fLoadA 163 1 0),
  ePure 164 (fLoadI 164 2 4),
  ePure 166 (fPush 166 1 (.int 4)),
  ePure 167 (fBin 167 o_iadd),
  eSld 168 L xs,
  ePure 169 (fLoadA 169 1 0),
  ePure 170 (fLoadI 170 2 4),
  ePure 172 (fPush 172 1 (.int 5)),
  ePure 173 (fBin 173 o_iadd),
  eSld 174 L xs,
  eCallV 175 5 69 7,
  ePure 178 (fPop 178),
  ePure 179 (fLoadA 179 1 2),
  ePure 180 (fLoadA 180 1 0),
  ePure 181 (fLoadI 181 2 4),
  ePure 183 (fPush 183 1 (.int 1)),
  ePure 184 (fBin 184 o_iadd),
  eSld 185 L xs,
  ePure 186 (fLoadA 186 1 0),
  ePure 187 (fLoadI 187 2 4),
  ePure 189 (fPush 189 1 (.int 2)),
  ePure 190 (fBin 190 o_iadd),
  eSld 191 L xs,
  ePure 192 (fLoadA 192 1 0),
  ePure 193 (fLoadI 193 2 4),
  ePure 195 (fPush 195 1 (.int 3)),
  ePure 196 (fBin 196 o_iadd),
  eSld 197 L xs,
  ePure 198 (fLoadA 198 1 0),
  ePure 199 (fLoadI 199 2 4),
  ePure 201 (fPush 201 1 (.int 4)),
  ePure 202 (fBin 202 o_iadd),
  eSld 203 L xs,
  ePure 204 (fLoadA 204 1 0),
  ePure 205 (fLoadI 205 2 4),
  ePure 207 (fPush 207 1 (.int 5)),
  ePure 208 (fBin 208 o_iadd),
  eSld 209 L xs,
  eCallV 210 5 97 8,
  ePure 213 (fPop 213),
  ePure 214 (fGoto 797),
  ePure 217 (fLoadA 217 1 1),
  ePure 218 (fLoadA 218 1 0),
  ePure 219 (fLoadI 219 2 4),
  ePure 221 (fPush 221 1 (.int 1)),
  ePure 222 (fBin 222 o_iadd),
  eSld 223 L xs,
  eCallV 224 1 70 7,
  ePure 227 (fPop 227),
  ePure 228 (fLoadA 228 1 2),
  ePure 229 (fLoadA 229 1 0),
  ePure 230 (fLoadI 230 2 4),
  ePure 232 (fPush 232 1 (.int 1)),
  ePure 233 (fBin 233 o_iadd),
  eSld 234 L xs,
  eCallV 235 1 98 8,
  ePure 238 (fPop 238),
  ePure 239 (fGoto 797),
  ePure 242 (fLoadA 242 1 1),
  eCallV 243 0 71 7,
  ePure 246 (fPop 246),
  ePure 247 (fLoadA 247 1 2),
  eCallV 248 0 119 8,
  ePure 251 (fPop 251),
  ePure 252 (fGoto 797),
  ePure 255 (fLoadA 255 1 1),
  eCallV 256 0 72 7,
  ePure 259 (fPop 259),
  ePure 260 (fLoadA 260 1 2),
  eCallV 261 0 120 8,
  ePure 264 (fPop 264),
  ePure 265 (fGoto 797),
  ePure 268 (fLoadA 268 1 1),
  ePure 269 (fLoadA 269 1 0),
  ePure 270 (fLoadI 270 2 4),
  ePure 272 (fPush 272 1 (.int 1)),
  ePure 273 (fBin 273 o_iadd),
  eSld 274 L xs,
  eCallV 275 1 73 7,
  ePure 278 (fPop 278),
  ePure 279 (fLoadA 279 1 2),
  ePure 280 (fLoadA 280 1 0),
  ePure 281 (fLoadI 281 2 4),
  ePure 283 (fPush 283 1 (.int 1)),
  ePure 284 (fBin 284 o_iadd),
  eSld 285 L xs,
  eCallV 286 1 139 8,
  ePure 289 (fPop 289),
  ePure 290 (fGoto 797),
  ePure 293 (fLoadA 293 1 1),
  ePure 294 (fLoadA 294 1 0),
  ePure 295 (fLoadI 295 2 4),
  ePure 297 (fPush 297 1 (.int 1)),
  ePure 298 (fBin 298 o_iadd),
  eSld 299 L xs,
  ePure 300 (fLoadA 300 1 0),
  ePure 301 (fLoadI 301 2 4),
  ePure 303 (fPush 303 1 (.int 2)),
  ePure 304 (fBin 304 o_iadd),
  eSld 305 L xs,
  eCallV 306 2 74 7,
  ePure 309 (fPop 309),
  ePure 310 (fLoadA 310 1 2),
  ePure 311 (fLoadA 311 1 0),
  ePure 312 (fLoadI 312 2 4),
  ePure 314 (fPush 314 1 (.int 1)),
  ePure 315 (fBin 315 o_iadd),
  eSld 316 L xs,
  ePure 317 (fLoadA 317 1 0),
  ePure 318 (fLoadI 318 2 4),
  ePure 320 (fPush 320 1 (.int 2)),
  ePure 321 (fBin 321 o_iadd),
  eSld 322 L xs,
  eCallV 323 2 141 8,
  ePure 326 (fPop 326),
  ePure 327 (fGoto 797),
  ePure 330 (fLoadA 330 1 1),
  ePure 331 (fLoadA 331 1 0),
  ePure 332 (fLoadI 332 2 4),
  ePure 334 (fPush 334 1 (.int 1)),
  ePure 335 (fBin 335 o_iadd),
  eSld 336 L xs,
  ePure 337 (fLoadA 337 1 0),
  ePure 338 (fLoadI 338 2 4),
  ePure 340 (fPush 340 1 (.int 2)),
  ePure 341 (fBin 341 o_iadd),
  eSld 342 L xs,
  ePure 343 (fLoadA 343 1 3),
  ePure 347 (fStoI 347 2 5 7),
  ePure 349 (fLoadA 349 1 2),
  ePure 350 (fLoadA 350 1 0),
  ePure 351 (fLoadI 351 2 4),
  ePure 353 (fPush 353 1 (.int 1)),
  ePure 354 (fBin 354 o_iadd),
  eSld 355 L xs,
  ePure 356 (fLoadA 356 1 0),
  ePure 357 (fLoadI 357 2 4),
  ePure 359 (fPush 359 1 (.int 2)),
  ePure 360 (fBin 360 o_iadd),
  eSld 361 L xs,
  eCallV 362 2 142 8,
  ePure 365 (fStoI 365 2 6 7),
  ePure 367 (fLoadA 367 1 2),
  eCallV 368 0 174 8,
  ePure 371 (fLoadI 371 2 5),
  ePure 373 (fIf2 373 378 b2_eq),
  ePure 376 (fPush 376 1 (.int 0)),
  eRetZ 377,
  ePure 378 (fLoadI 378 2 5),
  ePure 380 (fIf1 380 395 b1_ne),
  ePure 383 (fLoadA 383 1 3),
  ePure 384 (fPush 384 1 (.int 0)),
  eLald 385,
  ePure 386 (fLoadI 386 2 6),
  ePure 388 (f_i2l 388),
  ePure 389 (fLcmp 389),
  ePure 390 (fIf1 390 395 b1_eq),
  ePure 393 (fPush 393 1 (.int 0)),
  eRetZ 394,
  ePure 395 (fGoto 797),
  ePure 398 (fLoadA 398 1 1),
  ePure 399 (fLoadA 399 1 0),
  ePure 400 (fLoadI 400 2 4),
  ePure 402 (fPush 402 1 (.int 1)),
  ePure 403 (fBin 403 o_iadd),
  eSld 404 L xs,
  ePure 405 (fLoadA 405 1 0),
  ePure 406 (fLoadI 406 2 4),
  ePure 408 (fPush 408 1 (.int 2)),
  ePure 409 (fBin 409 o_iadd),
  eSld 410 L xs,
  eCallV 411 2 76 7,
  ePure 414 (fPop 414),
  ePure 415 (fLoadA 415 1 2),
  ePure 416 (fLoadA 416 1 0),
  ePure 417 (fLoadI 417 2 4),
  ePure 419 (fPush 419 1 (.int 1)),
  ePure 420 (fBin 420 o_iadd),
  eSld 421 L xs,
  ePure 422 (fLoadA 422 1 0),
  ePure 423 (fLoadI 423 2 4),
  ePure 425 (fPush 425 1 (.int 2)),
  ePure 426 (fBin 426 o_iadd),
  eSld 427 L xs,
  eCallV 428 2 143 8,
  ePure 431 (fPop 431),
  ePure 432 (fGoto 797),
  ePure 435 (fLoadA 435 1 1),
  ePure 436 (fLoadA 436 1 0),
  ePure 437 (fLoadI 437 2 4),
  ePure 439 (fPush 439 1 (.int 1)),
  ePure 440 (fBin 440 o_iadd),
  eSld 441 L xs,
  ePure 442 (fLoadA 442 1 0),
  ePure 443 (fLoadI 443 2 4),
  ePure 445 (fPush 445 1 (.int 2)),
  ePure 446 (fBin 446 o_iadd),
  eSld 447 L xs,
  ePure 448 (fLoadA 448 1 0),
  ePure 449 (fLoadI 449 2 4),
  ePure 451 (fPush 451 1 (.int 3)),
  ePure 452 (fBin 452 o_iadd),
  eSld 453 L xs,
  eCallV 454 3 77 7,
  ePure 457 (fPop 457),
  ePure 458 (fLoadA 458 1 2),
  ePure 459 (fLoadA 459 1 0),
  ePure 460 (fLoadI 460 2 4),
  ePure 462 (fPush 462 1 (.int 1)),
  ePure 463 (fBin 463 o_iadd),
  eSld 464 L xs,
  ePure 465 (fLoadA 465 1 0),
  ePure 466 (fLoadI 466 2 4),
  ePure 468 (fPush 468 1 (.int 2)),
  ePure 469 (fBin 469 o_iadd),
  eSld 470 L xs,
  ePure 471 (fLoadA 471 1 0),
  ePure 472 (fLoadI 472 2 4),
  ePure 474 (fPush 474 1 (.int 3)),
  ePure 475 (fBin 475 o_iadd),
  eSld 476 L xs,
  eCallV 477 3 144 8,
  ePure 480 (fPop 480),
  ePure 481 (fGoto 797),
  ePure 484 (fLoadA 484 1 1),
  eCallV 485 0 78 7,
  ePure 488 (fPop 488),
  ePure 489 (fLoadA 489 1 2),
  eCallV 490 0 145 8,
  ePure 493 (fPop 493),
  ePure 494 (fGoto 797),
  ePure 497 (fLoadA 497 1 1),
  ePure 498 (fLoadA 498 1 0),
  ePure 499 (fLoadI 499 2 4),
  ePure 501 (fPush 501 1 (.int 1)),
  ePure 502 (fBin 502 o_iadd),
  eSld 503 L xs,
  eCallV 504 1 79 7,
  ePure 507 (fPop 507),
  ePure 508 (fLoadA 508 1 2),
  ePure 509 (fLoadA 509 1 0),
  ePure 510 (fLoadI 510 2 4),
  ePure 512 (fPush 512 1 (.int 1)),
  ePure 513 (fBin 513 o_iadd),
  eSld 514 L xs,
  eCallV 515 1 146 8,
  ePure 518 (fPop 518),
  ePure 519 (fGoto 797),
  ePure 522 (fLoadA 522 1 1),
  ePure 523 (fLoadA 523 1 0),
  ePure 524 (fLoadI 524 2 4),
  ePure 526 (fPush 526 1 (.int 1)),
  ePure 527 (fBin 527 o_iadd),
  eSld 528 L xs,
  eCallV 529 1 80 7,
  ePure 532 (fPop 532),
  ePure 533 (fLoadA 533 1 2),
  ePure 534 (fLoadA 534 1 0),
  ePure 535 (fLoadI 535 2 4),
  ePure 537 (fPush 537 1 (.int 1)),
  ePure 538 (fBin 538 o_iadd),
  eSld 539 L xs,
  eCallV 540 1 147 8,
  ePure 543 (fPop 543),
  ePure 544 (fGoto 797),
  ePure 547 (fLoadA 547 1 1),
  ePure 548 (fLoadA 548 1 0),
  ePure 549 (fLoadI 549 2 4),
  ePure 551 (fPush 551 1 (.int 1)),
  ePure 552 (fBin 552 o_iadd),
  eSld 553 L xs,
  eCallV 554 1 81 7,
  ePure 557 (fPop 557),
  ePure 558 (fLoadA 558 1 2),
  ePure 559 (fLoadA 559 1 0),
  ePure 560 (fLoadI 560 2 4),
  ePure 562 (fPush 562 1 (.int 1)),
  ePure 563 (fBin 563 o_iadd),
  eSld 564 L xs,
  eCallV 565 1 152 8,
  ePure 568 (fPop 568),
  ePure 569 (fGoto 797),
  ePure 572 (fLoadA 572 1 1),
  eCallV 573 0 82 7,
  ePure 576 (fPop 576),
  ePure 577 (fLoadA 577 1 2),
  eCallV 578 0 153 8,
  ePure 581 (fPop 581),
  ePure 582 (fGoto 797),
  ePure 585 (fLoadA 585 1 1),
  ePure 586 (fLoadA 586 1 0),
  ePure 587 (fLoadI 587 2 4),
  ePure 589 (fPush 589 1 (.int 1)),
  ePure 590 (fBin 590 o_iadd),
  eSld 591 L xs,
  ePure 592 (fLoadA 592 1 0),
  ePure 593 (fLoadI 593 2 4),
  ePure 595 (fPush 595 1 (.int 2)),
  ePure 596 (fBin 596 o_iadd),
  eSld 597 L xs,
  eCallV 598 2 83 7,
  ePure 601 (fPop 601),
  ePure 602 (fLoadA 602 1 2),
  ePure 603 (fLoadA 603 1 0),
  ePure 604 (fLoadI 604 2 4),
  ePure 606 (fPush 606 1 (.int 1)),
  ePure 607 (fBin 607 o_iadd),
  eSld 608 L xs,
  ePure 609 (fLoadA 609 1 0),
  ePure 610 (fLoadI 610 2 4),
  ePure 612 (fPush 612 1 (.int 2)),
  ePure 613 (fBin 613 o_iadd),
  eSld 614 L xs,
  eCallV 615 2 155 8,
  ePure 618 (fPop 618),
  ePure 619 (fGoto 797),
  ePure 622 (fLoadA 622 1 1),
  ePure 623 (fLoadA 623 1 0),
  ePure 624 (fLoadI 624 2 4),
  ePure 626 (fPush 626 1 (.int 1)),
  ePure 627 (fBin 627 o_iadd),
  eSld 628 L xs,
  eCallV 629 1 84 7,
  ePure 632 (fPop 632),
  ePure 633 (fLoadA 633 1 2),
  ePure 634 (fLoadA 634 1 0),
  ePure 635 (fLoadI 635 2 4),
  ePure 637 (fPush 637 1 (.int 1)),
  ePure 638 (fBin 638 o_iadd),
  eSld 639 L xs,
  eCallV 640 1 156 8,
  ePure 643 (fPop 643),
  ePure 644 (fGoto 797),
  ePure 647 (fLoadA 647 1 1),
  ePure 648 (fLoadA 648 1 0),
  ePure 649 (fLoadI 649 2 4),
  ePure 651 (fPush 651 1 (.int 1)),
  ePure 652 (fBin 652 o_iadd),
  eSld 653 L xs,
  ePure 654 (fLoadA 654 1 0),
  ePure 655 (fLoadI 655 2 4),
  ePure 657 (fPush 657 1 (.int 2)),
  ePure 658 (fBin 658 o_iadd),
  eSld 659 L xs,
  eCallV 660 2 85 7,
  ePure 663 (fPop 663),
  ePure 664 (fLoadA 664 1 2),
  ePure 665 (fLoadA 665 1 0),
  ePure 666 (fLoadI 666 2 4),
  ePure 668 (fPush 668 1 (.int 1)),
  ePure 669 (fBin 669 o_iadd),
  eSld 670 L xs,
  ePure 671 (fLoadA 671 1 0),
  ePure 672 (fLoadI 672 2 4),
  ePure 674 (fPush 674 1 (.int 2)),
  ePure 675 (fBin 675 o_iadd),
  eSld 676 L xs,
  eCallV 677 2 158 8,
  ePure 680 (fPop 680),
  ePure 681 (fGoto 797),
  ePure 684 (fLoadA 684 1 1),
  eCallV 685 0 86 7,
  ePure 688 (fPop 688),
  ePure 689 (fLoadA 689 1 2),
  eCallV 690 0 159 8,
  ePure 693 (fPop 693),
  ePure 694 (fGoto 797),
  ePure 697 (fLoadA 697 1 1),
  ePure 698 (fLoadA 698 1 0),
  ePure 699 (fLoadI 699 2 4),
  ePure 701 (fPush 701 1 (.int 1)),
  ePure 702 (fBin 702 o_iadd),
  eSld 703 L xs,
  ePure 704 (fLoadA 704 1 0),
  ePure 705 (fLoadI 705 2 4),
  ePure 707 (fPush 707 1 (.int 2)),
  ePure 708 (fBin 708 o_iadd),
  eSld 709 L xs,
  eCallV 710 2 87 7,
  ePure 713 (fPop 713),
  ePure 714 (fLoadA 714 1 2),
  ePure 715 (fLoadA 715 1 0),
  ePure 716 (fLoadI 716 2 4),
  ePure 718 (fPush 718 1 (.int 1)),
  ePure 719 (fBin 719 o_iadd),
  eSld 720 L xs,
  ePure 721 (fLoadA 721 1 0),
  ePure 722 (fLoadI 722 2 4),
  ePure 724 (fPush 724 1 (.int 2)),
  ePure 725 (fBin 725 o_iadd),
  eSld 726 L xs,
  eCallV 727 2 161 8,
  ePure 730 (fPop 730),
  ePure 731 (fGoto 797),
  ePure 734 (fLoadA 734 1 1),
  ePure 735 (fLoadA 735 1 0),
  ePure 736 (fLoadI 736 2 4),
  ePure 738 (fPush 738 1 (.int 1)),
  ePure 739 (fBin 739 o_iadd),
  eSld 740 L xs,
  eCallV 741 1 88 7,
  ePure 744 (fPop 744),
  ePure 745 (fLoadA 745 1 2),
  ePure 746 (fLoadA 746 1 0),
  ePure 747 (fLoadI 747 2 4),
  ePure 749 (fPush 749 1 (.int 1)),
  ePure 750 (fBin 750 o_iadd),
  eSld 751 L xs,
  eCallV 752 1 162 8,
  ePure 755 (fPop 755),
  ePure 756 (fGoto 797),
  ePure 759 (fLoadA 759 1 1),
  ePure 760 (fLoadA 760 1 0),
  ePure 761 (fLoadI 761 2 4),
  ePure 763 (fPush 763 1 (.int 1)),
  ePure 764 (fBin 764 o_iadd),
  eSld 765 L xs,
  eCallV 766 1 89 7,
  ePure 769 (fPop 769),
  ePure 770 (fLoadA 770 1 2),
  ePure 771 (fLoadA 771 1 0),
  ePure 772 (fLoadI 772 2 4),
  ePure 774 (fPush 774 1 (.int 1)),
  ePure 775 (fBin 775 o_iadd),
  eSld 776 L xs,
  eCallV 777 1 163 8,
  ePure 780 (fPop 780),
  ePure 781 (fGoto 797),
  ePure 784 (fLoadA 784 1 1),
  eCallV 785 0 90 7,
  ePure 788 (fPop 788),
  ePure 789 (fLoadA 789 1 2),
  eCallV 790 0 164 8,
  ePure 793 (fPop 793),
  ePure 794 (fGoto 797),
  ePure 797 (fInc 797 4 7 6),
  ePure 800 (fGoto 23),
  ePure 803 (fPush 803 1 (.int 1)),
  eRetZ 804]
set_option maxRecDepth 100000 in
set_option maxHeartbeats 4000000 in
theorem ko_lawQ {l : Launch} {D : va_G} {cA : Nat → ClassId} {B : BB} {G : State → Prop} {md : Bool} {d : Nat} {call : Call} (hok : COk l D cA B G md d mI call) {L : Nat} {xs : Nat → Int32} (hG : ∀ s, G s → va_X B.2.1 L xs s s.heap) (hB : B.2.1 < B.1) : ∀ e ∈ k_lawQ md L xs, EOk l RL cL_law 7 (some .boolean) false D cA B G md d call e := by
  unfold k_lawQ
  refine al_cons (eok_pure (pr_iload dL_law_23)) ?_
  refine al_cons (eok_pure (pr_aload_n dL_law_25 rfl)) ?_
  refine al_cons (ok_slen hG hB dL_law_26) ?_
  refine al_cons (eok_pure (pr_bipush dL_law_27 (by decide))) ?_
  refine al_cons (eok_pure (pr_isub dL_law_29)) ?_
  refine al_cons (eok_pure (pr_icmp_gt dL_law_30 (by decide))) ?_
  refine al_cons (eok_pure (pr_aload_n dL_law_33 rfl)) ?_
  refine al_cons (eok_pure (pr_iload dL_law_34)) ?_
  refine al_cons (ok_sld hG hB dL_law_36) ?_
  refine al_cons (eok_pure (pr_bipush dL_law_37 (by decide))) ?_
  refine al_cons (eok_pure (pr_iand dL_law_39)) ?_
  refine al_cons (eok_pure (pr_tsw dL_law_40 (by decide) (by decide) (by decide))) ?_
  refine al_cons (eok_pure (pr_aload_n dL_law_144 rfl)) ?_
  refine al_cons (eok_pure (pr_aload_n dL_law_145 rfl)) ?_
  refine al_cons (eok_pure (pr_iload dL_law_146)) ?_
  refine al_cons (eok_pure (pr_iconst dL_law_148 (by decide))) ?_
  refine al_cons (eok_pure (pr_iadd dL_law_149)) ?_
  refine al_cons (ok_sld hG hB dL_law_150) ?_
  refine al_cons (eok_pure (pr_aload_n dL_law_151 rfl)) ?_
  refine al_cons (eok_pure (pr_iload dL_law_152)) ?_
  refine al_cons (eok_pure (pr_iconst dL_law_154 (by decide))) ?_
  refine al_cons (eok_pure (pr_iadd dL_law_155)) ?_
  refine al_cons (ok_sld hG hB dL_law_156) ?_
  refine al_cons (eok_pure (pr_aload_n dL_law_157 rfl)) ?_
  refine al_cons (eok_pure (pr_iload dL_law_158)) ?_
  refine al_cons (eok_pure (pr_iconst dL_law_160 (by decide))) ?_
  refine al_cons (eok_pure (pr_iadd dL_law_161)) ?_
  refine al_cons (ok_sld hG hB dL_law_162) ?_
  refine al_cons (eok_pure (pr_aload_n dL_law_163 rfl)) ?_
  refine al_cons (eok_pure (pr_iload dL_law_164)) ?_
  refine al_cons (eok_pure (pr_iconst dL_law_166 (by decide))) ?_
  refine al_cons (eok_pure (pr_iadd dL_law_167)) ?_
  refine al_cons (ok_sld hG hB dL_law_168) ?_
  refine al_cons (eok_pure (pr_aload_n dL_law_169 rfl)) ?_
  refine al_cons (eok_pure (pr_iload dL_law_170)) ?_
  refine al_cons (eok_pure (pr_iconst dL_law_172 (by decide))) ?_
  refine al_cons (eok_pure (pr_iadd dL_law_173)) ?_
  refine al_cons (ok_sld hG hB dL_law_174) ?_
  refine al_cons (ok_callV hok mi_69 cl_X7 w_442 w_443 w_444 w_72 w_445 na_69 (by decide) dL_law_175) ?_
  refine al_cons (eok_pure (pr_pop dL_law_178)) ?_
  refine al_cons (eok_pure (pr_aload_n dL_law_179 rfl)) ?_
  refine al_cons (eok_pure (pr_aload_n dL_law_180 rfl)) ?_
  refine al_cons (eok_pure (pr_iload dL_law_181)) ?_
  refine al_cons (eok_pure (pr_iconst dL_law_183 (by decide))) ?_
  refine al_cons (eok_pure (pr_iadd dL_law_184)) ?_
  refine al_cons (ok_sld hG hB dL_law_185) ?_
  refine al_cons (eok_pure (pr_aload_n dL_law_186 rfl)) ?_
  refine al_cons (eok_pure (pr_iload dL_law_187)) ?_
  refine al_cons (eok_pure (pr_iconst dL_law_189 (by decide))) ?_
  refine al_cons (eok_pure (pr_iadd dL_law_190)) ?_
  refine al_cons (ok_sld hG hB dL_law_191) ?_
  refine al_cons (eok_pure (pr_aload_n dL_law_192 rfl)) ?_
  refine al_cons (eok_pure (pr_iload dL_law_193)) ?_
  refine al_cons (eok_pure (pr_iconst dL_law_195 (by decide))) ?_
  refine al_cons (eok_pure (pr_iadd dL_law_196)) ?_
  refine al_cons (ok_sld hG hB dL_law_197) ?_
  refine al_cons (eok_pure (pr_aload_n dL_law_198 rfl)) ?_
  refine al_cons (eok_pure (pr_iload dL_law_199)) ?_
  refine al_cons (eok_pure (pr_iconst dL_law_201 (by decide))) ?_
  refine al_cons (eok_pure (pr_iadd dL_law_202)) ?_
  refine al_cons (ok_sld hG hB dL_law_203) ?_
  refine al_cons (eok_pure (pr_aload_n dL_law_204 rfl)) ?_
  refine al_cons (eok_pure (pr_iload dL_law_205)) ?_
  refine al_cons (eok_pure (pr_iconst dL_law_207 (by decide))) ?_
  refine al_cons (eok_pure (pr_iadd dL_law_208)) ?_
  refine al_cons (ok_sld hG hB dL_law_209) ?_
  refine al_cons (ok_callV hok mi_97 cl_X8 w_927 w_928 w_929 w_82 w_930 na_97 (by decide) dL_law_210) ?_
  refine al_cons (eok_pure (pr_pop dL_law_213)) ?_
  refine al_cons (eok_pure (pr_goto dL_law_214 (by decide))) ?_
  refine al_cons (eok_pure (pr_aload_n dL_law_217 rfl)) ?_
  refine al_cons (eok_pure (pr_aload_n dL_law_218 rfl)) ?_
  refine al_cons (eok_pure (pr_iload dL_law_219)) ?_
  refine al_cons (eok_pure (pr_iconst dL_law_221 (by decide))) ?_
  refine al_cons (eok_pure (pr_iadd dL_law_222)) ?_
  refine al_cons (ok_sld hG hB dL_law_223) ?_
  refine al_cons (ok_callV hok mi_70 cl_X7 w_450 w_451 w_452 w_72 w_453 na_70 (by decide) dL_law_224) ?_
  refine al_cons (eok_pure (pr_pop dL_law_227)) ?_
  refine al_cons (eok_pure (pr_aload_n dL_law_228 rfl)) ?_
  refine al_cons (eok_pure (pr_aload_n dL_law_229 rfl)) ?_
  refine al_cons (eok_pure (pr_iload dL_law_230)) ?_
  refine al_cons (eok_pure (pr_iconst dL_law_232 (by decide))) ?_
  refine al_cons (eok_pure (pr_iadd dL_law_233)) ?_
  refine al_cons (ok_sld hG hB dL_law_234) ?_
  refine al_cons (ok_callV hok mi_98 cl_X8 w_936 w_937 w_938 w_82 w_939 na_98 (by decide) dL_law_235) ?_
  refine al_cons (eok_pure (pr_pop dL_law_238)) ?_
  refine al_cons (eok_pure (pr_goto dL_law_239 (by decide))) ?_
  refine al_cons (eok_pure (pr_aload_n dL_law_242 rfl)) ?_
  refine al_cons (ok_callV hok mi_71 cl_X7 w_454 w_455 w_456 w_72 w_457 na_71 (by decide) dL_law_243) ?_
  refine al_cons (eok_pure (pr_pop dL_law_246)) ?_
  refine al_cons (eok_pure (pr_aload_n dL_law_247 rfl)) ?_
  refine al_cons (ok_callV hok mi_119 cl_X8 w_1030 w_1031 w_1032 w_82 w_1033 na_119 (by decide) dL_law_248) ?_
  refine al_cons (eok_pure (pr_pop dL_law_251)) ?_
  refine al_cons (eok_pure (pr_goto dL_law_252 (by decide))) ?_
  refine al_cons (eok_pure (pr_aload_n dL_law_255 rfl)) ?_
  refine al_cons (ok_callV hok mi_72 cl_X7 w_596 w_597 w_598 w_72 w_599 na_72 (by decide) dL_law_256) ?_
  refine al_cons (eok_pure (pr_pop dL_law_259)) ?_
  refine al_cons (eok_pure (pr_aload_n dL_law_260 rfl)) ?_
  refine al_cons (ok_callV hok mi_120 cl_X8 w_1116 w_1117 w_1118 w_82 w_1119 na_120 (by decide) dL_law_261) ?_
  refine al_cons (eok_pure (pr_pop dL_law_264)) ?_
  refine al_cons (eok_pure (pr_goto dL_law_265 (by decide))) ?_
  refine al_cons (eok_pure (pr_aload_n dL_law_268 rfl)) ?_
  refine al_cons (eok_pure (pr_aload_n dL_law_269 rfl)) ?_
  refine al_cons (eok_pure (pr_iload dL_law_270)) ?_
  refine al_cons (eok_pure (pr_iconst dL_law_272 (by decide))) ?_
  refine al_cons (eok_pure (pr_iadd dL_law_273)) ?_
  refine al_cons (ok_sld hG hB dL_law_274) ?_
  refine al_cons (ok_callV hok mi_73 cl_X7 w_600 w_601 w_602 w_72 w_603 na_73 (by decide) dL_law_275) ?_
  refine al_cons (eok_pure (pr_pop dL_law_278)) ?_
  refine al_cons (eok_pure (pr_aload_n dL_law_279 rfl)) ?_
  refine al_cons (eok_pure (pr_aload_n dL_law_280 rfl)) ?_
  refine al_cons (eok_pure (pr_iload dL_law_281)) ?_
  refine al_cons (eok_pure (pr_iconst dL_law_283 (by decide))) ?_
  refine al_cons (eok_pure (pr_iadd dL_law_284)) ?_
  refine al_cons (ok_sld hG hB dL_law_285) ?_
  refine al_cons (ok_callV hok mi_139 cl_X8 w_1120 w_1121 w_1122 w_82 w_1123 na_139 (by decide) dL_law_286) ?_
  refine al_cons (eok_pure (pr_pop dL_law_289)) ?_
  refine al_cons (eok_pure (pr_goto dL_law_290 (by decide))) ?_
  refine al_cons (eok_pure (pr_aload_n dL_law_293 rfl)) ?_
  refine al_cons (eok_pure (pr_aload_n dL_law_294 rfl)) ?_
  refine al_cons (eok_pure (pr_iload dL_law_295)) ?_
  refine al_cons (eok_pure (pr_iconst dL_law_297 (by decide))) ?_
  refine al_cons (eok_pure (pr_iadd dL_law_298)) ?_
  refine al_cons (ok_sld hG hB dL_law_299) ?_
  refine al_cons (eok_pure (pr_aload_n dL_law_300 rfl)) ?_
  refine al_cons (eok_pure (pr_iload dL_law_301)) ?_
  refine al_cons (eok_pure (pr_iconst dL_law_303 (by decide))) ?_
  refine al_cons (eok_pure (pr_iadd dL_law_304)) ?_
  refine al_cons (ok_sld hG hB dL_law_305) ?_
  refine al_cons (ok_callV hok mi_74 cl_X7 w_632 w_633 w_634 w_72 w_635 na_74 (by decide) dL_law_306) ?_
  refine al_cons (eok_pure (pr_pop dL_law_309)) ?_
  refine al_cons (eok_pure (pr_aload_n dL_law_310 rfl)) ?_
  refine al_cons (eok_pure (pr_aload_n dL_law_311 rfl)) ?_
  refine al_cons (eok_pure (pr_iload dL_law_312)) ?_
  refine al_cons (eok_pure (pr_iconst dL_law_314 (by decide))) ?_
  refine al_cons (eok_pure (pr_iadd dL_law_315)) ?_
  refine al_cons (ok_sld hG hB dL_law_316) ?_
  refine al_cons (eok_pure (pr_aload_n dL_law_317 rfl)) ?_
  refine al_cons (eok_pure (pr_iload dL_law_318)) ?_
  refine al_cons (eok_pure (pr_iconst dL_law_320 (by decide))) ?_
  refine al_cons (eok_pure (pr_iadd dL_law_321)) ?_
  refine al_cons (ok_sld hG hB dL_law_322) ?_
  refine al_cons (ok_callV hok mi_141 cl_X8 w_1160 w_1161 w_1162 w_82 w_1163 na_141 (by decide) dL_law_323) ?_
  refine al_cons (eok_pure (pr_pop dL_law_326)) ?_
  refine al_cons (eok_pure (pr_goto dL_law_327 (by decide))) ?_
  refine al_cons (eok_pure (pr_aload_n dL_law_330 rfl)) ?_
  refine al_cons (eok_pure (pr_aload_n dL_law_331 rfl)) ?_
  refine al_cons (eok_pure (pr_iload dL_law_332)) ?_
  refine al_cons (eok_pure (pr_iconst dL_law_334 (by decide))) ?_
  refine al_cons (eok_pure (pr_iadd dL_law_335)) ?_
  refine al_cons (ok_sld hG hB dL_law_336) ?_
  refine al_cons (eok_pure (pr_aload_n dL_law_337 rfl)) ?_
  refine al_cons (eok_pure (pr_iload dL_law_338)) ?_
  refine al_cons (eok_pure (pr_iconst dL_law_340 (by decide))) ?_
  refine al_cons (eok_pure (pr_iadd dL_law_341)) ?_
  refine al_cons (ok_sld hG hB dL_law_342) ?_
  refine al_cons (eok_pure (pr_aload_n dL_law_343 rfl)) ?_
  refine al_cons (eok_pure (pr_istore dL_law_347)) ?_
  refine al_cons (eok_pure (pr_aload_n dL_law_349 rfl)) ?_
  refine al_cons (eok_pure (pr_aload_n dL_law_350 rfl)) ?_
  refine al_cons (eok_pure (pr_iload dL_law_351)) ?_
  refine al_cons (eok_pure (pr_iconst dL_law_353 (by decide))) ?_
  refine al_cons (eok_pure (pr_iadd dL_law_354)) ?_
  refine al_cons (ok_sld hG hB dL_law_355) ?_
  refine al_cons (eok_pure (pr_aload_n dL_law_356 rfl)) ?_
  refine al_cons (eok_pure (pr_iload dL_law_357)) ?_
  refine al_cons (eok_pure (pr_iconst dL_law_359 (by decide))) ?_
  refine al_cons (eok_pure (pr_iadd dL_law_360)) ?_
  refine al_cons (ok_sld hG hB dL_law_361) ?_
  refine al_cons (ok_callV hok mi_142 cl_X8 w_1176 w_1177 w_1178 w_82 w_1179 na_142 (by decide) dL_law_362) ?_
  refine al_cons (eok_pure (pr_istore dL_law_365)) ?_
  refine al_cons (eok_pure (pr_aload_n dL_law_367 rfl)) ?_
  refine al_cons (ok_callV hok mi_174 cl_X8 w_923 w_924 w_925 w_82 w_926 na_174 (by decide) dL_law_368) ?_
  refine al_cons (eok_pure (pr_iload dL_law_371)) ?_
  refine al_cons (eok_pure (pr_icmp_eq dL_law_373 (by decide))) ?_
  refine al_cons (eok_pure (pr_iconst dL_law_376 (by decide))) ?_
  refine al_cons (ok_retZ rfl dL_law_377) ?_
  refine al_cons (eok_pure (pr_iload dL_law_378)) ?_
  refine al_cons (eok_pure (pr_if_ne dL_law_380 (by decide))) ?_
  refine al_cons (eok_pure (pr_aload_n dL_law_383 rfl)) ?_
  refine al_cons (eok_pure (pr_iconst dL_law_384 (by decide))) ?_
  refine al_cons (ok_lald dL_law_385) ?_
  refine al_cons (eok_pure (pr_iload dL_law_386)) ?_
  refine al_cons (eok_pure (pr_i2l dL_law_388)) ?_
  refine al_cons (eok_pure (pr_lcmp dL_law_389)) ?_
  refine al_cons (eok_pure (pr_if_eq dL_law_390 (by decide))) ?_
  refine al_cons (eok_pure (pr_iconst dL_law_393 (by decide))) ?_
  refine al_cons (ok_retZ rfl dL_law_394) ?_
  refine al_cons (eok_pure (pr_goto dL_law_395 (by decide))) ?_
  refine al_cons (eok_pure (pr_aload_n dL_law_398 rfl)) ?_
  refine al_cons (eok_pure (pr_aload_n dL_law_399 rfl)) ?_
  refine al_cons (eok_pure (pr_iload dL_law_400)) ?_
  refine al_cons (eok_pure (pr_iconst dL_law_402 (by decide))) ?_
  refine al_cons (eok_pure (pr_iadd dL_law_403)) ?_
  refine al_cons (ok_sld hG hB dL_law_404) ?_
  refine al_cons (eok_pure (pr_aload_n dL_law_405 rfl)) ?_
  refine al_cons (eok_pure (pr_iload dL_law_406)) ?_
  refine al_cons (eok_pure (pr_iconst dL_law_408 (by decide))) ?_
  refine al_cons (eok_pure (pr_iadd dL_law_409)) ?_
  refine al_cons (ok_sld hG hB dL_law_410) ?_
  refine al_cons (ok_callV hok mi_76 cl_X7 w_644 w_645 w_646 w_72 w_647 na_76 (by decide) dL_law_411) ?_
  refine al_cons (eok_pure (pr_pop dL_law_414)) ?_
  refine al_cons (eok_pure (pr_aload_n dL_law_415 rfl)) ?_
  refine al_cons (eok_pure (pr_aload_n dL_law_416 rfl)) ?_
  refine al_cons (eok_pure (pr_iload dL_law_417)) ?_
  refine al_cons (eok_pure (pr_iconst dL_law_419 (by decide))) ?_
  refine al_cons (eok_pure (pr_iadd dL_law_420)) ?_
  refine al_cons (ok_sld hG hB dL_law_421) ?_
  refine al_cons (eok_pure (pr_aload_n dL_law_422 rfl)) ?_
  refine al_cons (eok_pure (pr_iload dL_law_423)) ?_
  refine al_cons (eok_pure (pr_iconst dL_law_425 (by decide))) ?_
  refine al_cons (eok_pure (pr_iadd dL_law_426)) ?_
  refine al_cons (ok_sld hG hB dL_law_427) ?_
  refine al_cons (ok_callV hok mi_143 cl_X8 w_1192 w_1193 w_1194 w_82 w_1195 na_143 (by decide) dL_law_428) ?_
  refine al_cons (eok_pure (pr_pop dL_law_431)) ?_
  refine al_cons (eok_pure (pr_goto dL_law_432 (by decide))) ?_
  refine al_cons (eok_pure (pr_aload_n dL_law_435 rfl)) ?_
  refine al_cons (eok_pure (pr_aload_n dL_law_436 rfl)) ?_
  refine al_cons (eok_pure (pr_iload dL_law_437)) ?_
  refine al_cons (eok_pure (pr_iconst dL_law_439 (by decide))) ?_
  refine al_cons (eok_pure (pr_iadd dL_law_440)) ?_
  refine al_cons (ok_sld hG hB dL_law_441) ?_
  refine al_cons (eok_pure (pr_aload_n dL_law_442 rfl)) ?_
  refine al_cons (eok_pure (pr_iload dL_law_443)) ?_
  refine al_cons (eok_pure (pr_iconst dL_law_445 (by decide))) ?_
  refine al_cons (eok_pure (pr_iadd dL_law_446)) ?_
  refine al_cons (ok_sld hG hB dL_law_447) ?_
  refine al_cons (eok_pure (pr_aload_n dL_law_448 rfl)) ?_
  refine al_cons (eok_pure (pr_iload dL_law_449)) ?_
  refine al_cons (eok_pure (pr_iconst dL_law_451 (by decide))) ?_
  refine al_cons (eok_pure (pr_iadd dL_law_452)) ?_
  refine al_cons (ok_sld hG hB dL_law_453) ?_
  refine al_cons (ok_callV hok mi_77 cl_X7 w_656 w_657 w_658 w_72 w_659 na_77 (by decide) dL_law_454) ?_
  refine al_cons (eok_pure (pr_pop dL_law_457)) ?_
  refine al_cons (eok_pure (pr_aload_n dL_law_458 rfl)) ?_
  refine al_cons (eok_pure (pr_aload_n dL_law_459 rfl)) ?_
  refine al_cons (eok_pure (pr_iload dL_law_460)) ?_
  refine al_cons (eok_pure (pr_iconst dL_law_462 (by decide))) ?_
  refine al_cons (eok_pure (pr_iadd dL_law_463)) ?_
  refine al_cons (ok_sld hG hB dL_law_464) ?_
  refine al_cons (eok_pure (pr_aload_n dL_law_465 rfl)) ?_
  refine al_cons (eok_pure (pr_iload dL_law_466)) ?_
  refine al_cons (eok_pure (pr_iconst dL_law_468 (by decide))) ?_
  refine al_cons (eok_pure (pr_iadd dL_law_469)) ?_
  refine al_cons (ok_sld hG hB dL_law_470) ?_
  refine al_cons (eok_pure (pr_aload_n dL_law_471 rfl)) ?_
  refine al_cons (eok_pure (pr_iload dL_law_472)) ?_
  refine al_cons (eok_pure (pr_iconst dL_law_474 (by decide))) ?_
  refine al_cons (eok_pure (pr_iadd dL_law_475)) ?_
  refine al_cons (ok_sld hG hB dL_law_476) ?_
  refine al_cons (ok_callV hok mi_144 cl_X8 w_1204 w_1205 w_1206 w_82 w_1207 na_144 (by decide) dL_law_477) ?_
  refine al_cons (eok_pure (pr_pop dL_law_480)) ?_
  refine al_cons (eok_pure (pr_goto dL_law_481 (by decide))) ?_
  refine al_cons (eok_pure (pr_aload_n dL_law_484 rfl)) ?_
  refine al_cons (ok_callV hok mi_78 cl_X7 w_668 w_669 w_670 w_72 w_671 na_78 (by decide) dL_law_485) ?_
  refine al_cons (eok_pure (pr_pop dL_law_488)) ?_
  refine al_cons (eok_pure (pr_aload_n dL_law_489 rfl)) ?_
  refine al_cons (ok_callV hok mi_145 cl_X8 w_1208 w_1209 w_1210 w_82 w_1211 na_145 (by decide) dL_law_490) ?_
  refine al_cons (eok_pure (pr_pop dL_law_493)) ?_
  refine al_cons (eok_pure (pr_goto dL_law_494 (by decide))) ?_
  refine al_cons (eok_pure (pr_aload_n dL_law_497 rfl)) ?_
  refine al_cons (eok_pure (pr_aload_n dL_law_498 rfl)) ?_
  refine al_cons (eok_pure (pr_iload dL_law_499)) ?_
  refine al_cons (eok_pure (pr_iconst dL_law_501 (by decide))) ?_
  refine al_cons (eok_pure (pr_iadd dL_law_502)) ?_
  refine al_cons (ok_sld hG hB dL_law_503) ?_
  refine al_cons (ok_callV hok mi_79 cl_X7 w_697 w_698 w_699 w_72 w_700 na_79 (by decide) dL_law_504) ?_
  refine al_cons (eok_pure (pr_pop dL_law_507)) ?_
  refine al_cons (eok_pure (pr_aload_n dL_law_508 rfl)) ?_
  refine al_cons (eok_pure (pr_aload_n dL_law_509 rfl)) ?_
  refine al_cons (eok_pure (pr_iload dL_law_510)) ?_
  refine al_cons (eok_pure (pr_iconst dL_law_512 (by decide))) ?_
  refine al_cons (eok_pure (pr_iadd dL_law_513)) ?_
  refine al_cons (ok_sld hG hB dL_law_514) ?_
  refine al_cons (ok_callV hok mi_146 cl_X8 w_1224 w_1225 w_1226 w_82 w_1227 na_146 (by decide) dL_law_515) ?_
  refine al_cons (eok_pure (pr_pop dL_law_518)) ?_
  refine al_cons (eok_pure (pr_goto dL_law_519 (by decide))) ?_
  refine al_cons (eok_pure (pr_aload_n dL_law_522 rfl)) ?_
  refine al_cons (eok_pure (pr_aload_n dL_law_523 rfl)) ?_
  refine al_cons (eok_pure (pr_iload dL_law_524)) ?_
  refine al_cons (eok_pure (pr_iconst dL_law_526 (by decide))) ?_
  refine al_cons (eok_pure (pr_iadd dL_law_527)) ?_
  refine al_cons (ok_sld hG hB dL_law_528) ?_
  refine al_cons (ok_callV hok mi_80 cl_X7 w_709 w_710 w_711 w_72 w_712 na_80 (by decide) dL_law_529) ?_
  refine al_cons (eok_pure (pr_pop dL_law_532)) ?_
  refine al_cons (eok_pure (pr_aload_n dL_law_533 rfl)) ?_
  refine al_cons (eok_pure (pr_aload_n dL_law_534 rfl)) ?_
  refine al_cons (eok_pure (pr_iload dL_law_535)) ?_
  refine al_cons (eok_pure (pr_iconst dL_law_537 (by decide))) ?_
  refine al_cons (eok_pure (pr_iadd dL_law_538)) ?_
  refine al_cons (ok_sld hG hB dL_law_539) ?_
  refine al_cons (ok_callV hok mi_147 cl_X8 w_1228 w_1229 w_1230 w_82 w_1231 na_147 (by decide) dL_law_540) ?_
  refine al_cons (eok_pure (pr_pop dL_law_543)) ?_
  refine al_cons (eok_pure (pr_goto dL_law_544 (by decide))) ?_
  refine al_cons (eok_pure (pr_aload_n dL_law_547 rfl)) ?_
  refine al_cons (eok_pure (pr_aload_n dL_law_548 rfl)) ?_
  refine al_cons (eok_pure (pr_iload dL_law_549)) ?_
  refine al_cons (eok_pure (pr_iconst dL_law_551 (by decide))) ?_
  refine al_cons (eok_pure (pr_iadd dL_law_552)) ?_
  refine al_cons (ok_sld hG hB dL_law_553) ?_
  refine al_cons (ok_callV hok mi_81 cl_X7 w_727 w_728 w_729 w_72 w_730 na_81 (by decide) dL_law_554) ?_
  refine al_cons (eok_pure (pr_pop dL_law_557)) ?_
  refine al_cons (eok_pure (pr_aload_n dL_law_558 rfl)) ?_
  refine al_cons (eok_pure (pr_aload_n dL_law_559 rfl)) ?_
  refine al_cons (eok_pure (pr_iload dL_law_560)) ?_
  refine al_cons (eok_pure (pr_iconst dL_law_562 (by decide))) ?_
  refine al_cons (eok_pure (pr_iadd dL_law_563)) ?_
  refine al_cons (ok_sld hG hB dL_law_564) ?_
  refine al_cons (ok_callV hok mi_152 cl_X8 w_1232 w_1233 w_1234 w_82 w_1235 na_152 (by decide) dL_law_565) ?_
  refine al_cons (eok_pure (pr_pop dL_law_568)) ?_
  refine al_cons (eok_pure (pr_goto dL_law_569 (by decide))) ?_
  refine al_cons (eok_pure (pr_aload_n dL_law_572 rfl)) ?_
  refine al_cons (ok_callV hok mi_82 cl_X7 w_781 w_782 w_783 w_72 w_784 na_82 (by decide) dL_law_573) ?_
  refine al_cons (eok_pure (pr_pop dL_law_576)) ?_
  refine al_cons (eok_pure (pr_aload_n dL_law_577 rfl)) ?_
  refine al_cons (ok_callV hok mi_153 cl_X8 w_1252 w_1253 w_1254 w_82 w_1255 na_153 (by decide) dL_law_578) ?_
  refine al_cons (eok_pure (pr_pop dL_law_581)) ?_
  refine al_cons (eok_pure (pr_goto dL_law_582 (by decide))) ?_
  refine al_cons (eok_pure (pr_aload_n dL_law_585 rfl)) ?_
  refine al_cons (eok_pure (pr_aload_n dL_law_586 rfl)) ?_
  refine al_cons (eok_pure (pr_iload dL_law_587)) ?_
  refine al_cons (eok_pure (pr_iconst dL_law_589 (by decide))) ?_
  refine al_cons (eok_pure (pr_iadd dL_law_590)) ?_
  refine al_cons (ok_sld hG hB dL_law_591) ?_
  refine al_cons (eok_pure (pr_aload_n dL_law_592 rfl)) ?_
  refine al_cons (eok_pure (pr_iload dL_law_593)) ?_
  refine al_cons (eok_pure (pr_iconst dL_law_595 (by decide))) ?_
  refine al_cons (eok_pure (pr_iadd dL_law_596)) ?_
  refine al_cons (ok_sld hG hB dL_law_597) ?_
  refine al_cons (ok_callV hok mi_83 cl_X7 w_789 w_790 w_791 w_72 w_792 na_83 (by decide) dL_law_598) ?_
  refine al_cons (eok_pure (pr_pop dL_law_601)) ?_
  refine al_cons (eok_pure (pr_aload_n dL_law_602 rfl)) ?_
  refine al_cons (eok_pure (pr_aload_n dL_law_603 rfl)) ?_
  refine al_cons (eok_pure (pr_iload dL_law_604)) ?_
  refine al_cons (eok_pure (pr_iconst dL_law_606 (by decide))) ?_
  refine al_cons (eok_pure (pr_iadd dL_law_607)) ?_
  refine al_cons (ok_sld hG hB dL_law_608) ?_
  refine al_cons (eok_pure (pr_aload_n dL_law_609 rfl)) ?_
  refine al_cons (eok_pure (pr_iload dL_law_610)) ?_
  refine al_cons (eok_pure (pr_iconst dL_law_612 (by decide))) ?_
  refine al_cons (eok_pure (pr_iadd dL_law_613)) ?_
  refine al_cons (ok_sld hG hB dL_law_614) ?_
  refine al_cons (ok_callV hok mi_155 cl_X8 w_1260 w_1261 w_1262 w_82 w_1263 na_155 (by decide) dL_law_615) ?_
  refine al_cons (eok_pure (pr_pop dL_law_618)) ?_
  refine al_cons (eok_pure (pr_goto dL_law_619 (by decide))) ?_
  refine al_cons (eok_pure (pr_aload_n dL_law_622 rfl)) ?_
  refine al_cons (eok_pure (pr_aload_n dL_law_623 rfl)) ?_
  refine al_cons (eok_pure (pr_iload dL_law_624)) ?_
  refine al_cons (eok_pure (pr_iconst dL_law_626 (by decide))) ?_
  refine al_cons (eok_pure (pr_iadd dL_law_627)) ?_
  refine al_cons (ok_sld hG hB dL_law_628) ?_
  refine al_cons (ok_callV hok mi_84 cl_X7 w_810 w_811 w_812 w_72 w_813 na_84 (by decide) dL_law_629) ?_
  refine al_cons (eok_pure (pr_pop dL_law_632)) ?_
  refine al_cons (eok_pure (pr_aload_n dL_law_633 rfl)) ?_
  refine al_cons (eok_pure (pr_aload_n dL_law_634 rfl)) ?_
  refine al_cons (eok_pure (pr_iload dL_law_635)) ?_
  refine al_cons (eok_pure (pr_iconst dL_law_637 (by decide))) ?_
  refine al_cons (eok_pure (pr_iadd dL_law_638)) ?_
  refine al_cons (ok_sld hG hB dL_law_639) ?_
  refine al_cons (ok_callV hok mi_156 cl_X8 w_1268 w_1269 w_1270 w_82 w_1271 na_156 (by decide) dL_law_640) ?_
  refine al_cons (eok_pure (pr_pop dL_law_643)) ?_
  refine al_cons (eok_pure (pr_goto dL_law_644 (by decide))) ?_
  refine al_cons (eok_pure (pr_aload_n dL_law_647 rfl)) ?_
  refine al_cons (eok_pure (pr_aload_n dL_law_648 rfl)) ?_
  refine al_cons (eok_pure (pr_iload dL_law_649)) ?_
  refine al_cons (eok_pure (pr_iconst dL_law_651 (by decide))) ?_
  refine al_cons (eok_pure (pr_iadd dL_law_652)) ?_
  refine al_cons (ok_sld hG hB dL_law_653) ?_
  refine al_cons (eok_pure (pr_aload_n dL_law_654 rfl)) ?_
  refine al_cons (eok_pure (pr_iload dL_law_655)) ?_
  refine al_cons (eok_pure (pr_iconst dL_law_657 (by decide))) ?_
  refine al_cons (eok_pure (pr_iadd dL_law_658)) ?_
  refine al_cons (ok_sld hG hB dL_law_659) ?_
  refine al_cons (ok_callV hok mi_85 cl_X7 w_815 w_816 w_817 w_72 w_818 na_85 (by decide) dL_law_660) ?_
  refine al_cons (eok_pure (pr_pop dL_law_663)) ?_
  refine al_cons (eok_pure (pr_aload_n dL_law_664 rfl)) ?_
  refine al_cons (eok_pure (pr_aload_n dL_law_665 rfl)) ?_
  refine al_cons (eok_pure (pr_iload dL_law_666)) ?_
  refine al_cons (eok_pure (pr_iconst dL_law_668 (by decide))) ?_
  refine al_cons (eok_pure (pr_iadd dL_law_669)) ?_
  refine al_cons (ok_sld hG hB dL_law_670) ?_
  refine al_cons (eok_pure (pr_aload_n dL_law_671 rfl)) ?_
  refine al_cons (eok_pure (pr_iload dL_law_672)) ?_
  refine al_cons (eok_pure (pr_iconst dL_law_674 (by decide))) ?_
  refine al_cons (eok_pure (pr_iadd dL_law_675)) ?_
  refine al_cons (ok_sld hG hB dL_law_676) ?_
  refine al_cons (ok_callV hok mi_158 cl_X8 w_1272 w_1273 w_1274 w_82 w_1275 na_158 (by decide) dL_law_677) ?_
  refine al_cons (eok_pure (pr_pop dL_law_680)) ?_
  refine al_cons (eok_pure (pr_goto dL_law_681 (by decide))) ?_
  refine al_cons (eok_pure (pr_aload_n dL_law_684 rfl)) ?_
  refine al_cons (ok_callV hok mi_86 cl_X7 w_820 w_821 w_822 w_72 w_823 na_86 (by decide) dL_law_685) ?_
  refine al_cons (eok_pure (pr_pop dL_law_688)) ?_
  refine al_cons (eok_pure (pr_aload_n dL_law_689 rfl)) ?_
  refine al_cons (ok_callV hok mi_159 cl_X8 w_1280 w_1281 w_1282 w_82 w_1283 na_159 (by decide) dL_law_690) ?_
  refine al_cons (eok_pure (pr_pop dL_law_693)) ?_
  refine al_cons (eok_pure (pr_goto dL_law_694 (by decide))) ?_
  refine al_cons (eok_pure (pr_aload_n dL_law_697 rfl)) ?_
  refine al_cons (eok_pure (pr_aload_n dL_law_698 rfl)) ?_
  refine al_cons (eok_pure (pr_iload dL_law_699)) ?_
  refine al_cons (eok_pure (pr_iconst dL_law_701 (by decide))) ?_
  refine al_cons (eok_pure (pr_iadd dL_law_702)) ?_
  refine al_cons (ok_sld hG hB dL_law_703) ?_
  refine al_cons (eok_pure (pr_aload_n dL_law_704 rfl)) ?_
  refine al_cons (eok_pure (pr_iload dL_law_705)) ?_
  refine al_cons (eok_pure (pr_iconst dL_law_707 (by decide))) ?_
  refine al_cons (eok_pure (pr_iadd dL_law_708)) ?_
  refine al_cons (ok_sld hG hB dL_law_709) ?_
  refine al_cons (ok_callV hok mi_87 cl_X7 w_824 w_825 w_826 w_72 w_827 na_87 (by decide) dL_law_710) ?_
  refine al_cons (eok_pure (pr_pop dL_law_713)) ?_
  refine al_cons (eok_pure (pr_aload_n dL_law_714 rfl)) ?_
  refine al_cons (eok_pure (pr_aload_n dL_law_715 rfl)) ?_
  refine al_cons (eok_pure (pr_iload dL_law_716)) ?_
  refine al_cons (eok_pure (pr_iconst dL_law_718 (by decide))) ?_
  refine al_cons (eok_pure (pr_iadd dL_law_719)) ?_
  refine al_cons (ok_sld hG hB dL_law_720) ?_
  refine al_cons (eok_pure (pr_aload_n dL_law_721 rfl)) ?_
  refine al_cons (eok_pure (pr_iload dL_law_722)) ?_
  refine al_cons (eok_pure (pr_iconst dL_law_724 (by decide))) ?_
  refine al_cons (eok_pure (pr_iadd dL_law_725)) ?_
  refine al_cons (ok_sld hG hB dL_law_726) ?_
  refine al_cons (ok_callV hok mi_161 cl_X8 w_1284 w_1285 w_1286 w_82 w_1287 na_161 (by decide) dL_law_727) ?_
  refine al_cons (eok_pure (pr_pop dL_law_730)) ?_
  refine al_cons (eok_pure (pr_goto dL_law_731 (by decide))) ?_
  refine al_cons (eok_pure (pr_aload_n dL_law_734 rfl)) ?_
  refine al_cons (eok_pure (pr_aload_n dL_law_735 rfl)) ?_
  refine al_cons (eok_pure (pr_iload dL_law_736)) ?_
  refine al_cons (eok_pure (pr_iconst dL_law_738 (by decide))) ?_
  refine al_cons (eok_pure (pr_iadd dL_law_739)) ?_
  refine al_cons (ok_sld hG hB dL_law_740) ?_
  refine al_cons (ok_callV hok mi_88 cl_X7 w_837 w_838 w_839 w_72 w_840 na_88 (by decide) dL_law_741) ?_
  refine al_cons (eok_pure (pr_pop dL_law_744)) ?_
  refine al_cons (eok_pure (pr_aload_n dL_law_745 rfl)) ?_
  refine al_cons (eok_pure (pr_aload_n dL_law_746 rfl)) ?_
  refine al_cons (eok_pure (pr_iload dL_law_747)) ?_
  refine al_cons (eok_pure (pr_iconst dL_law_749 (by decide))) ?_
  refine al_cons (eok_pure (pr_iadd dL_law_750)) ?_
  refine al_cons (ok_sld hG hB dL_law_751) ?_
  refine al_cons (ok_callV hok mi_162 cl_X8 w_1292 w_1293 w_1294 w_82 w_1295 na_162 (by decide) dL_law_752) ?_
  refine al_cons (eok_pure (pr_pop dL_law_755)) ?_
  refine al_cons (eok_pure (pr_goto dL_law_756 (by decide))) ?_
  refine al_cons (eok_pure (pr_aload_n dL_law_759 rfl)) ?_
  refine al_cons (eok_pure (pr_aload_n dL_law_760 rfl)) ?_
  refine al_cons (eok_pure (pr_iload dL_law_761)) ?_
  refine al_cons (eok_pure (pr_iconst dL_law_763 (by decide))) ?_
  refine al_cons (eok_pure (pr_iadd dL_law_764)) ?_
  refine al_cons (ok_sld hG hB dL_law_765) ?_
  refine al_cons (ok_callV hok mi_89 cl_X7 w_842 w_843 w_844 w_72 w_845 na_89 (by decide) dL_law_766) ?_
  refine al_cons (eok_pure (pr_pop dL_law_769)) ?_
  refine al_cons (eok_pure (pr_aload_n dL_law_770 rfl)) ?_
  refine al_cons (eok_pure (pr_aload_n dL_law_771 rfl)) ?_
  refine al_cons (eok_pure (pr_iload dL_law_772)) ?_
  refine al_cons (eok_pure (pr_iconst dL_law_774 (by decide))) ?_
  refine al_cons (eok_pure (pr_iadd dL_law_775)) ?_
  refine al_cons (ok_sld hG hB dL_law_776) ?_
  refine al_cons (ok_callV hok mi_163 cl_X8 w_1296 w_1297 w_1298 w_82 w_1299 na_163 (by decide) dL_law_777) ?_
  refine al_cons (eok_pure (pr_pop dL_law_780)) ?_
  refine al_cons (eok_pure (pr_goto dL_law_781 (by decide))) ?_
  refine al_cons (eok_pure (pr_aload_n dL_law_784 rfl)) ?_
  refine al_cons (ok_callV hok mi_90 cl_X7 w_846 w_847 w_848 w_72 w_849 na_90 (by decide) dL_law_785) ?_
  refine al_cons (eok_pure (pr_pop dL_law_788)) ?_
  refine al_cons (eok_pure (pr_aload_n dL_law_789 rfl)) ?_
  refine al_cons (ok_callV hok mi_164 cl_X8 w_1300 w_1301 w_1302 w_82 w_1303 na_164 (by decide) dL_law_790) ?_
  refine al_cons (eok_pure (pr_pop dL_law_793)) ?_
  refine al_cons (eok_pure (pr_goto dL_law_794 (by decide))) ?_
  refine al_cons (eok_pure (pr_iinc dL_law_797 (by decide))) ?_
  refine al_cons (eok_pure (pr_goto dL_law_800 (by decide))) ?_
  refine al_cons (eok_pure (pr_iconst dL_law_803 (by decide))) ?_
  refine al_cons (ok_retZ rfl dL_law_804) ?_
  exact al_nil
