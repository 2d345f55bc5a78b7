/-! the law's own code: the script's length and ints, and the rest -/
def eSlen (pc L : Nat) : Ent := (pc, fun _ lv st h => match st with
  | .retAddr _ :: r => some (.inl (pc + 1, lv, .int (Int32.ofNat L) :: r, h))
  | _ => none)
def eSld (pc L : Nat) (xs : Nat → Int32) : Ent := (pc, fun _ lv st h => match st with
  | .int i :: .retAddr _ :: r => if ¬ i < 0 ∧ i.toNatClampNeg < L then some (.inl (pc + 1, lv, .int (xs i.toNatClampNeg) :: r, h)) else none
  | _ => none)
theorem ok_slen {l : Launch} {own : String} {cc : ByteArray} {nL : Nat} {ret : Option FieldType} {ini : Bool} {D : va_G} {cA : Nat → ClassId} {B : BB} {G : State → Prop} {md : Bool} {d : Nat} {call : Call} {pc L : Nat} {xs : Nat → Int32} (hG : ∀ s, G s → va_X B.2.1 L xs s s.heap) (hB : B.2.1 < B.1) (hd : decode cc pc = .ok (.arraylength, 1)) : EOk l own cc nL ret ini D cA B G md d call (eSlen pc L) := by
  intro lv st h out ho
  simp only [eSlen] at ho
  split at ho
  · next x r =>
    cases ho
    refine ⟨Nat.le_refl _, Nat.le_refl _, ?_⟩
    intro p e R s m args below meth c Q C _ _ H locs ls c0 s0 x0 y0 hW hl _ _ _ _ _ kk
    exact va_slen C.1 C.2.1 (hG s C.2.2.2.2.2.2.2.2.2.1.2.1) (Nat.lt_of_lt_of_le hB C.2.2.2.2.2.2.2.2.2.2) (Nat.not_le.mpr hB) hW.2 hd (kk H locs ls hW hl)
  · cases ho
theorem ok_sld {l : Launch} {own : String} {cc : ByteArray} {nL : Nat} {ret : Option FieldType} {ini : Bool} {D : va_G} {cA : Nat → ClassId} {B : BB} {G : State → Prop} {md : Bool} {d : Nat} {call : Call} {pc L : Nat} {xs : Nat → Int32} (hG : ∀ s, G s → va_X B.2.1 L xs s s.heap) (hB : B.2.1 < B.1) (hd : decode cc pc = .ok (.iaload, 1)) : EOk l own cc nL ret ini D cA B G md d call (eSld pc L xs) := by
  intro lv st h out ho
  simp only [eSld] at ho
  split at ho
  · next i x r =>
    split at ho
    · next hi =>
      cases ho
      refine ⟨Nat.le_refl _, Nat.le_refl _, ?_⟩
      intro p e R s m args below meth c Q C _ _ H locs ls c0 s0 x0 y0 hW hl _ _ _ _ _ kk
      have hin : vp_in i L := fun z => z.elim hi.1 (fun z => absurd hi.2 (Nat.not_lt.mpr z))
      exact va_sld C.1 C.2.1 (hG s C.2.2.2.2.2.2.2.2.2.1.2.1) (Nat.lt_of_lt_of_le hB C.2.2.2.2.2.2.2.2.2.2) (Nat.not_le.mpr hB) hW.2 hin hd (kk H locs ls hW hl)
    · cases ho
  · cases ho
theorem w_93 : Cond.classLink RL 8 RX7 ∈ tT := tT_in (cs_tables_1_1) 22 (by decide +kernel) rfl
theorem w_94 : Cond.instantiable RX7 11 ∈ tT := tT_in (cs_tables_1_1) 23 (by decide +kernel) rfl
theorem w_95 : Cond.methodLink RL 15 yX7_init ∈ tT := tT_in (cs_tables_1_1) 24 (by decide +kernel) rfl
theorem w_96 : Cond.instanceMethod yX7_init ∈ tT := tT_in (cs_tables_1_1) 25 (by decide +kernel) rfl
theorem w_97 : Cond.code yX7_init cX7_init 1 none ∈ tT := tT_in (cs_tables_1_1) 26 (by decide +kernel) rfl
theorem w_936 : Cond.classLink RL 16 RX8 ∈ tT := tT_in (cs_tables_1_4) 145 (by decide +kernel) rfl
theorem w_930 : Cond.instantiable RX8 28 ∈ tT := tT_in (cs_tables_1_4) 139 (by decide +kernel) rfl
theorem w_937 : Cond.methodLink RL 18 yX8_init ∈ tT := tT_in (cs_tables_1_4) 146 (by decide +kernel) rfl
theorem w_938 : Cond.instanceMethod yX8_init ∈ tT := tT_in (cs_tables_1_4) 147 (by decide +kernel) rfl
theorem w_939 : Cond.code yX8_init cX8_init 1 none ∈ tT := tT_in (cs_tables_1_4) 148 (by decide +kernel) rfl
theorem w_1300 : Cond.arrayClass .long ∈ tT := tT_in (cs_tables_1_6) 29 (by decide +kernel) rfl
theorem w_442 : Cond.methodLink RL 19 yX7_feed ∈ tT := tT_in (cs_tables_1_2) 131 (by decide +kernel) rfl
theorem w_443 : Cond.instanceMethod yX7_feed ∈ tT := tT_in (cs_tables_1_2) 132 (by decide +kernel) rfl
theorem w_444 : Cond.selects RX7 yX7_feed yX7_feed ∈ tT := tT_in (cs_tables_1_2) 133 (by decide +kernel) rfl
theorem w_445 : Cond.code yX7_feed cX7_feed 6 (some .int) ∈ tT := tT_in (cs_tables_1_2) 134 (by decide +kernel) rfl
theorem w_923 : Cond.methodLink RL 23 yX8_feed ∈ tT := tT_in (cs_tables_1_4) 132 (by decide +kernel) rfl
theorem w_924 : Cond.instanceMethod yX8_feed ∈ tT := tT_in (cs_tables_1_4) 133 (by decide +kernel) rfl
theorem w_925 : Cond.selects RX8 yX8_feed yX8_feed ∈ tT := tT_in (cs_tables_1_4) 134 (by decide +kernel) rfl
theorem w_926 : Cond.code yX8_feed cX8_feed 6 (some .int) ∈ tT := tT_in (cs_tables_1_4) 135 (by decide +kernel) rfl
theorem w_450 : Cond.methodLink RL 24 yX7_end ∈ tT := tT_in (cs_tables_1_2) 139 (by decide +kernel) rfl
theorem w_451 : Cond.instanceMethod yX7_end ∈ tT := tT_in (cs_tables_1_2) 140 (by decide +kernel) rfl
theorem w_452 : Cond.selects RX7 yX7_end yX7_end ∈ tT := tT_in (cs_tables_1_2) 141 (by decide +kernel) rfl
theorem w_453 : Cond.code yX7_end cX7_end 2 (some .boolean) ∈ tT := tT_in (cs_tables_1_2) 142 (by decide +kernel) rfl
theorem w_932 : Cond.methodLink RL 28 yX8_end ∈ tT := tT_in (cs_tables_1_4) 141 (by decide +kernel) rfl
theorem w_933 : Cond.instanceMethod yX8_end ∈ tT := tT_in (cs_tables_1_4) 142 (by decide +kernel) rfl
theorem w_934 : Cond.selects RX8 yX8_end yX8_end ∈ tT := tT_in (cs_tables_1_4) 143 (by decide +kernel) rfl
theorem w_935 : Cond.code yX8_end cX8_end 2 (some .boolean) ∈ tT := tT_in (cs_tables_1_4) 144 (by decide +kernel) rfl
theorem w_454 : Cond.methodLink RL 29 yX7_text ∈ tT := tT_in (cs_tables_1_2) 143 (by decide +kernel) rfl
theorem w_455 : Cond.instanceMethod yX7_text ∈ tT := tT_in (cs_tables_1_2) 144 (by decide +kernel) rfl
theorem w_456 : Cond.selects RX7 yX7_text yX7_text ∈ tT := tT_in (cs_tables_1_2) 145 (by decide +kernel) rfl
theorem w_457 : Cond.code yX7_text cX7_text 3 (some .int) ∈ tT := tT_in (cs_tables_1_2) 146 (by decide +kernel) rfl
theorem w_1026 : Cond.methodLink RL 33 yX8_text ∈ tT := tT_in (cs_tables_1_4) 235 (by decide +kernel) rfl
theorem w_1027 : Cond.instanceMethod yX8_text ∈ tT := tT_in (cs_tables_1_4) 236 (by decide +kernel) rfl
theorem w_1028 : Cond.selects RX8 yX8_text yX8_text ∈ tT := tT_in (cs_tables_1_4) 237 (by decide +kernel) rfl
theorem w_1029 : Cond.code yX8_text cX8_text 3 (some .int) ∈ tT := tT_in (cs_tables_1_4) 238 (by decide +kernel) rfl
theorem w_596 : Cond.methodLink RL 34 yX7_fault ∈ tT := tT_in (cs_tables_1_3) 45 (by decide +kernel) rfl
theorem w_597 : Cond.instanceMethod yX7_fault ∈ tT := tT_in (cs_tables_1_3) 46 (by decide +kernel) rfl
theorem w_598 : Cond.selects RX7 yX7_fault yX7_fault ∈ tT := tT_in (cs_tables_1_3) 47 (by decide +kernel) rfl
theorem w_599 : Cond.code yX7_fault cX7_fault 1 (some .int) ∈ tT := tT_in (cs_tables_1_3) 48 (by decide +kernel) rfl
theorem w_1112 : Cond.methodLink RL 37 yX8_fault ∈ tT := tT_in (cs_tables_1_5) 81 (by decide +kernel) rfl
theorem w_1113 : Cond.instanceMethod yX8_fault ∈ tT := tT_in (cs_tables_1_5) 82 (by decide +kernel) rfl
theorem w_1114 : Cond.selects RX8 yX8_fault yX8_fault ∈ tT := tT_in (cs_tables_1_5) 83 (by decide +kernel) rfl
theorem w_1115 : Cond.code yX8_fault cX8_fault 1 (some .int) ∈ tT := tT_in (cs_tables_1_5) 84 (by decide +kernel) rfl
theorem w_600 : Cond.methodLink RL 38 yX7_now ∈ tT := tT_in (cs_tables_1_3) 49 (by decide +kernel) rfl
theorem w_601 : Cond.instanceMethod yX7_now ∈ tT := tT_in (cs_tables_1_3) 50 (by decide +kernel) rfl
theorem w_602 : Cond.selects RX7 yX7_now yX7_now ∈ tT := tT_in (cs_tables_1_3) 51 (by decide +kernel) rfl
theorem w_603 : Cond.code yX7_now cX7_now 2 (some .int) ∈ tT := tT_in (cs_tables_1_3) 52 (by decide +kernel) rfl
theorem w_1116 : Cond.methodLink RL 42 yX8_now ∈ tT := tT_in (cs_tables_1_5) 85 (by decide +kernel) rfl
theorem w_1117 : Cond.instanceMethod yX8_now ∈ tT := tT_in (cs_tables_1_5) 86 (by decide +kernel) rfl
theorem w_1118 : Cond.selects RX8 yX8_now yX8_now ∈ tT := tT_in (cs_tables_1_5) 87 (by decide +kernel) rfl
theorem w_1119 : Cond.code yX8_now cX8_now 2 (some .int) ∈ tT := tT_in (cs_tables_1_5) 88 (by decide +kernel) rfl
theorem w_632 : Cond.methodLink RL 43 yX7_compartment ∈ tT := tT_in (cs_tables_1_3) 81 (by decide +kernel) rfl
theorem w_633 : Cond.instanceMethod yX7_compartment ∈ tT := tT_in (cs_tables_1_3) 82 (by decide +kernel) rfl
theorem w_634 : Cond.selects RX7 yX7_compartment yX7_compartment ∈ tT := tT_in (cs_tables_1_3) 83 (by decide +kernel) rfl
theorem w_635 : Cond.code yX7_compartment cX7_compartment 3 (some .int) ∈ tT := tT_in (cs_tables_1_3) 84 (by decide +kernel) rfl
theorem w_1156 : Cond.methodLink RL 46 yX8_compartment ∈ tT := tT_in (cs_tables_1_5) 125 (by decide +kernel) rfl
theorem w_1157 : Cond.instanceMethod yX8_compartment ∈ tT := tT_in (cs_tables_1_5) 126 (by decide +kernel) rfl
theorem w_1158 : Cond.selects RX8 yX8_compartment yX8_compartment ∈ tT := tT_in (cs_tables_1_5) 127 (by decide +kernel) rfl
theorem w_1159 : Cond.code yX8_compartment cX8_compartment 3 (some .int) ∈ tT := tT_in (cs_tables_1_5) 128 (by decide +kernel) rfl
theorem w_1172 : Cond.methodLink RL 52 yX8_drop ∈ tT := tT_in (cs_tables_1_5) 141 (by decide +kernel) rfl
theorem w_1173 : Cond.instanceMethod yX8_drop ∈ tT := tT_in (cs_tables_1_5) 142 (by decide +kernel) rfl
theorem w_1174 : Cond.selects RX8 yX8_drop yX8_drop ∈ tT := tT_in (cs_tables_1_5) 143 (by decide +kernel) rfl
theorem w_1175 : Cond.code yX8_drop cX8_drop 3 (some .int) ∈ tT := tT_in (cs_tables_1_5) 144 (by decide +kernel) rfl
theorem w_644 : Cond.methodLink RL 53 yX7_may ∈ tT := tT_in (cs_tables_1_3) 93 (by decide +kernel) rfl
theorem w_645 : Cond.instanceMethod yX7_may ∈ tT := tT_in (cs_tables_1_3) 94 (by decide +kernel) rfl
theorem w_646 : Cond.selects RX7 yX7_may yX7_may ∈ tT := tT_in (cs_tables_1_3) 95 (by decide +kernel) rfl
theorem w_647 : Cond.code yX7_may cX7_may 3 (some .boolean) ∈ tT := tT_in (cs_tables_1_3) 96 (by decide +kernel) rfl
theorem w_1188 : Cond.methodLink RL 57 yX8_may ∈ tT := tT_in (cs_tables_1_5) 157 (by decide +kernel) rfl
theorem w_1189 : Cond.instanceMethod yX8_may ∈ tT := tT_in (cs_tables_1_5) 158 (by decide +kernel) rfl
theorem w_1190 : Cond.selects RX8 yX8_may yX8_may ∈ tT := tT_in (cs_tables_1_5) 159 (by decide +kernel) rfl
theorem w_1191 : Cond.code yX8_may cX8_may 3 (some .boolean) ∈ tT := tT_in (cs_tables_1_5) 160 (by decide +kernel) rfl
theorem w_656 : Cond.methodLink RL 58 yX7_would ∈ tT := tT_in (cs_tables_1_3) 105 (by decide +kernel) rfl
theorem w_657 : Cond.instanceMethod yX7_would ∈ tT := tT_in (cs_tables_1_3) 106 (by decide +kernel) rfl
theorem w_658 : Cond.selects RX7 yX7_would yX7_would ∈ tT := tT_in (cs_tables_1_3) 107 (by decide +kernel) rfl
theorem w_659 : Cond.code yX7_would cX7_would 4 (some .int) ∈ tT := tT_in (cs_tables_1_3) 108 (by decide +kernel) rfl
theorem w_1200 : Cond.methodLink RL 62 yX8_would ∈ tT := tT_in (cs_tables_1_5) 169 (by decide +kernel) rfl
theorem w_1201 : Cond.instanceMethod yX8_would ∈ tT := tT_in (cs_tables_1_5) 170 (by decide +kernel) rfl
theorem w_1202 : Cond.selects RX8 yX8_would yX8_would ∈ tT := tT_in (cs_tables_1_5) 171 (by decide +kernel) rfl
theorem w_1203 : Cond.code yX8_would cX8_would 4 (some .int) ∈ tT := tT_in (cs_tables_1_5) 172 (by decide +kernel) rfl
theorem w_668 : Cond.methodLink RL 63 yX7_orders ∈ tT := tT_in (cs_tables_1_3) 117 (by decide +kernel) rfl
theorem w_669 : Cond.instanceMethod yX7_orders ∈ tT := tT_in (cs_tables_1_3) 118 (by decide +kernel) rfl
theorem w_670 : Cond.selects RX7 yX7_orders yX7_orders ∈ tT := tT_in (cs_tables_1_3) 119 (by decide +kernel) rfl
theorem w_671 : Cond.code yX7_orders cX7_orders 1 (some .int) ∈ tT := tT_in (cs_tables_1_3) 120 (by decide +kernel) rfl
theorem w_1204 : Cond.methodLink RL 66 yX8_orders ∈ tT := tT_in (cs_tables_1_5) 173 (by decide +kernel) rfl
theorem w_1205 : Cond.instanceMethod yX8_orders ∈ tT := tT_in (cs_tables_1_5) 174 (by decide +kernel) rfl
theorem w_1206 : Cond.selects RX8 yX8_orders yX8_orders ∈ tT := tT_in (cs_tables_1_5) 175 (by decide +kernel) rfl
theorem w_1207 : Cond.code yX8_orders cX8_orders 1 (some .int) ∈ tT := tT_in (cs_tables_1_5) 176 (by decide +kernel) rfl
theorem w_697 : Cond.methodLink RL 67 yX7_ordered ∈ tT := tT_in (cs_tables_1_3) 146 (by decide +kernel) rfl
theorem w_698 : Cond.instanceMethod yX7_ordered ∈ tT := tT_in (cs_tables_1_3) 147 (by decide +kernel) rfl
theorem w_699 : Cond.selects RX7 yX7_ordered yX7_ordered ∈ tT := tT_in (cs_tables_1_3) 148 (by decide +kernel) rfl
theorem w_700 : Cond.code yX7_ordered cX7_ordered 2 (some .int) ∈ tT := tT_in (cs_tables_1_3) 149 (by decide +kernel) rfl
theorem w_1220 : Cond.methodLink RL 70 yX8_ordered ∈ tT := tT_in (cs_tables_1_5) 189 (by decide +kernel) rfl
theorem w_1221 : Cond.instanceMethod yX8_ordered ∈ tT := tT_in (cs_tables_1_5) 190 (by decide +kernel) rfl
theorem w_1222 : Cond.selects RX8 yX8_ordered yX8_ordered ∈ tT := tT_in (cs_tables_1_5) 191 (by decide +kernel) rfl
theorem w_1223 : Cond.code yX8_ordered cX8_ordered 2 (some .int) ∈ tT := tT_in (cs_tables_1_5) 192 (by decide +kernel) rfl
theorem w_709 : Cond.methodLink RL 71 yX7_without ∈ tT := tT_in (cs_tables_1_3) 158 (by decide +kernel) rfl
theorem w_710 : Cond.instanceMethod yX7_without ∈ tT := tT_in (cs_tables_1_3) 159 (by decide +kernel) rfl
theorem w_711 : Cond.selects RX7 yX7_without yX7_without ∈ tT := tT_in (cs_tables_1_3) 160 (by decide +kernel) rfl
theorem w_712 : Cond.code yX7_without cX7_without 2 (some .int) ∈ tT := tT_in (cs_tables_1_3) 161 (by decide +kernel) rfl
theorem w_1224 : Cond.methodLink RL 74 yX8_without ∈ tT := tT_in (cs_tables_1_5) 193 (by decide +kernel) rfl
theorem w_1225 : Cond.instanceMethod yX8_without ∈ tT := tT_in (cs_tables_1_5) 194 (by decide +kernel) rfl
theorem w_1226 : Cond.selects RX8 yX8_without yX8_without ∈ tT := tT_in (cs_tables_1_5) 195 (by decide +kernel) rfl
theorem w_1227 : Cond.code yX8_without cX8_without 2 (some .int) ∈ tT := tT_in (cs_tables_1_5) 196 (by decide +kernel) rfl
theorem w_727 : Cond.methodLink RL 75 yX7_plan ∈ tT := tT_in (cs_tables_1_3) 176 (by decide +kernel) rfl
theorem w_728 : Cond.instanceMethod yX7_plan ∈ tT := tT_in (cs_tables_1_3) 177 (by decide +kernel) rfl
theorem w_729 : Cond.selects RX7 yX7_plan yX7_plan ∈ tT := tT_in (cs_tables_1_3) 178 (by decide +kernel) rfl
theorem w_730 : Cond.code yX7_plan cX7_plan 2 (some .int) ∈ tT := tT_in (cs_tables_1_3) 179 (by decide +kernel) rfl
theorem w_1228 : Cond.methodLink RL 78 yX8_plan ∈ tT := tT_in (cs_tables_1_5) 197 (by decide +kernel) rfl
theorem w_1229 : Cond.instanceMethod yX8_plan ∈ tT := tT_in (cs_tables_1_5) 198 (by decide +kernel) rfl
theorem w_1230 : Cond.selects RX8 yX8_plan yX8_plan ∈ tT := tT_in (cs_tables_1_5) 199 (by decide +kernel) rfl
theorem w_1231 : Cond.code yX8_plan cX8_plan 3 (some .int) ∈ tT := tT_in (cs_tables_1_5) 200 (by decide +kernel) rfl
theorem w_781 : Cond.methodLink RL 79 yX7_washes ∈ tT := tT_in (cs_tables_1_3) 230 (by decide +kernel) rfl
theorem w_782 : Cond.instanceMethod yX7_washes ∈ tT := tT_in (cs_tables_1_3) 231 (by decide +kernel) rfl
theorem w_783 : Cond.selects RX7 yX7_washes yX7_washes ∈ tT := tT_in (cs_tables_1_3) 232 (by decide +kernel) rfl
theorem w_784 : Cond.code yX7_washes cX7_washes 2 (some .int) ∈ tT := tT_in (cs_tables_1_3) 233 (by decide +kernel) rfl
theorem w_1248 : Cond.methodLink RL 82 yX8_washes ∈ tT := tT_in (cs_tables_1_5) 217 (by decide +kernel) rfl
theorem w_1249 : Cond.instanceMethod yX8_washes ∈ tT := tT_in (cs_tables_1_5) 218 (by decide +kernel) rfl
theorem w_1250 : Cond.selects RX8 yX8_washes yX8_washes ∈ tT := tT_in (cs_tables_1_5) 219 (by decide +kernel) rfl
theorem w_1251 : Cond.code yX8_washes cX8_washes 6 (some .int) ∈ tT := tT_in (cs_tables_1_5) 220 (by decide +kernel) rfl
theorem w_789 : Cond.methodLink RL 83 yX7_asks ∈ tT := tT_in (cs_tables_1_3) 238 (by decide +kernel) rfl
theorem w_790 : Cond.instanceMethod yX7_asks ∈ tT := tT_in (cs_tables_1_3) 239 (by decide +kernel) rfl
theorem w_791 : Cond.selects RX7 yX7_asks yX7_asks ∈ tT := tT_in (cs_tables_1_4) 0 (by decide +kernel) rfl
theorem w_792 : Cond.code yX7_asks cX7_asks 4 (some .int) ∈ tT := tT_in (cs_tables_1_4) 1 (by decide +kernel) rfl
theorem w_1256 : Cond.methodLink RL 86 yX8_asks ∈ tT := tT_in (cs_tables_1_5) 225 (by decide +kernel) rfl
theorem w_1257 : Cond.instanceMethod yX8_asks ∈ tT := tT_in (cs_tables_1_5) 226 (by decide +kernel) rfl
theorem w_1258 : Cond.selects RX8 yX8_asks yX8_asks ∈ tT := tT_in (cs_tables_1_5) 227 (by decide +kernel) rfl
theorem w_1259 : Cond.code yX8_asks cX8_asks 5 (some .int) ∈ tT := tT_in (cs_tables_1_5) 228 (by decide +kernel) rfl
theorem w_810 : Cond.methodLink RL 87 yX7_cancel ∈ tT := tT_in (cs_tables_1_4) 19 (by decide +kernel) rfl
theorem w_811 : Cond.instanceMethod yX7_cancel ∈ tT := tT_in (cs_tables_1_4) 20 (by decide +kernel) rfl
theorem w_812 : Cond.selects RX7 yX7_cancel yX7_cancel ∈ tT := tT_in (cs_tables_1_4) 21 (by decide +kernel) rfl
theorem w_813 : Cond.code yX7_cancel cX7_cancel 2 (some .boolean) ∈ tT := tT_in (cs_tables_1_4) 22 (by decide +kernel) rfl
theorem w_1264 : Cond.methodLink RL 90 yX8_cancel ∈ tT := tT_in (cs_tables_1_5) 233 (by decide +kernel) rfl
theorem w_1265 : Cond.instanceMethod yX8_cancel ∈ tT := tT_in (cs_tables_1_5) 234 (by decide +kernel) rfl
theorem w_1266 : Cond.selects RX8 yX8_cancel yX8_cancel ∈ tT := tT_in (cs_tables_1_5) 235 (by decide +kernel) rfl
theorem w_1267 : Cond.code yX8_cancel cX8_cancel 2 (some .boolean) ∈ tT := tT_in (cs_tables_1_5) 236 (by decide +kernel) rfl
theorem w_815 : Cond.methodLink RL 91 yX7_put ∈ tT := tT_in (cs_tables_1_4) 24 (by decide +kernel) rfl
theorem w_816 : Cond.instanceMethod yX7_put ∈ tT := tT_in (cs_tables_1_4) 25 (by decide +kernel) rfl
theorem w_817 : Cond.selects RX7 yX7_put yX7_put ∈ tT := tT_in (cs_tables_1_4) 26 (by decide +kernel) rfl
theorem w_818 : Cond.code yX7_put cX7_put 6 (some .int) ∈ tT := tT_in (cs_tables_1_4) 27 (by decide +kernel) rfl
theorem w_1268 : Cond.methodLink RL 94 yX8_put ∈ tT := tT_in (cs_tables_1_5) 237 (by decide +kernel) rfl
theorem w_1269 : Cond.instanceMethod yX8_put ∈ tT := tT_in (cs_tables_1_5) 238 (by decide +kernel) rfl
theorem w_1270 : Cond.selects RX8 yX8_put yX8_put ∈ tT := tT_in (cs_tables_1_5) 239 (by decide +kernel) rfl
theorem w_1271 : Cond.code yX8_put cX8_put 5 (some .int) ∈ tT := tT_in (cs_tables_1_6) 0 (by decide +kernel) rfl
theorem w_820 : Cond.methodLink RL 95 yX7_load ∈ tT := tT_in (cs_tables_1_4) 29 (by decide +kernel) rfl
theorem w_821 : Cond.instanceMethod yX7_load ∈ tT := tT_in (cs_tables_1_4) 30 (by decide +kernel) rfl
theorem w_822 : Cond.selects RX7 yX7_load yX7_load ∈ tT := tT_in (cs_tables_1_4) 31 (by decide +kernel) rfl
theorem w_823 : Cond.code yX7_load cX7_load 3 (some .int) ∈ tT := tT_in (cs_tables_1_4) 32 (by decide +kernel) rfl
theorem w_1276 : Cond.methodLink RL 98 yX8_load ∈ tT := tT_in (cs_tables_1_6) 5 (by decide +kernel) rfl
theorem w_1277 : Cond.instanceMethod yX8_load ∈ tT := tT_in (cs_tables_1_6) 6 (by decide +kernel) rfl
theorem w_1278 : Cond.selects RX8 yX8_load yX8_load ∈ tT := tT_in (cs_tables_1_6) 7 (by decide +kernel) rfl
theorem w_1279 : Cond.code yX8_load cX8_load 2 (some .int) ∈ tT := tT_in (cs_tables_1_6) 8 (by decide +kernel) rfl
theorem w_824 : Cond.methodLink RL 99 yX7_unload ∈ tT := tT_in (cs_tables_1_4) 33 (by decide +kernel) rfl
theorem w_825 : Cond.instanceMethod yX7_unload ∈ tT := tT_in (cs_tables_1_4) 34 (by decide +kernel) rfl
theorem w_826 : Cond.selects RX7 yX7_unload yX7_unload ∈ tT := tT_in (cs_tables_1_4) 35 (by decide +kernel) rfl
theorem w_827 : Cond.code yX7_unload cX7_unload 4 (some .int) ∈ tT := tT_in (cs_tables_1_4) 36 (by decide +kernel) rfl
theorem w_1280 : Cond.methodLink RL 102 yX8_unload ∈ tT := tT_in (cs_tables_1_6) 9 (by decide +kernel) rfl
theorem w_1281 : Cond.instanceMethod yX8_unload ∈ tT := tT_in (cs_tables_1_6) 10 (by decide +kernel) rfl
theorem w_1282 : Cond.selects RX8 yX8_unload yX8_unload ∈ tT := tT_in (cs_tables_1_6) 11 (by decide +kernel) rfl
theorem w_1283 : Cond.code yX8_unload cX8_unload 5 (some .int) ∈ tT := tT_in (cs_tables_1_6) 12 (by decide +kernel) rfl
theorem w_837 : Cond.methodLink RL 103 yX7_empty ∈ tT := tT_in (cs_tables_1_4) 46 (by decide +kernel) rfl
theorem w_838 : Cond.instanceMethod yX7_empty ∈ tT := tT_in (cs_tables_1_4) 47 (by decide +kernel) rfl
theorem w_839 : Cond.selects RX7 yX7_empty yX7_empty ∈ tT := tT_in (cs_tables_1_4) 48 (by decide +kernel) rfl
theorem w_840 : Cond.code yX7_empty cX7_empty 3 (some .int) ∈ tT := tT_in (cs_tables_1_4) 49 (by decide +kernel) rfl
theorem w_1288 : Cond.methodLink RL 106 yX8_empty ∈ tT := tT_in (cs_tables_1_6) 17 (by decide +kernel) rfl
theorem w_1289 : Cond.instanceMethod yX8_empty ∈ tT := tT_in (cs_tables_1_6) 18 (by decide +kernel) rfl
theorem w_1290 : Cond.selects RX8 yX8_empty yX8_empty ∈ tT := tT_in (cs_tables_1_6) 19 (by decide +kernel) rfl
theorem w_1291 : Cond.code yX8_empty cX8_empty 4 (some .int) ∈ tT := tT_in (cs_tables_1_6) 20 (by decide +kernel) rfl
theorem w_842 : Cond.methodLink RL 107 yX7_wash ∈ tT := tT_in (cs_tables_1_4) 51 (by decide +kernel) rfl
theorem w_843 : Cond.instanceMethod yX7_wash ∈ tT := tT_in (cs_tables_1_4) 52 (by decide +kernel) rfl
theorem w_844 : Cond.selects RX7 yX7_wash yX7_wash ∈ tT := tT_in (cs_tables_1_4) 53 (by decide +kernel) rfl
theorem w_845 : Cond.code yX7_wash cX7_wash 2 (some .boolean) ∈ tT := tT_in (cs_tables_1_4) 54 (by decide +kernel) rfl
theorem w_1292 : Cond.methodLink RL 110 yX8_wash ∈ tT := tT_in (cs_tables_1_6) 21 (by decide +kernel) rfl
theorem w_1293 : Cond.instanceMethod yX8_wash ∈ tT := tT_in (cs_tables_1_6) 22 (by decide +kernel) rfl
theorem w_1294 : Cond.selects RX8 yX8_wash yX8_wash ∈ tT := tT_in (cs_tables_1_6) 23 (by decide +kernel) rfl
theorem w_1295 : Cond.code yX8_wash cX8_wash 2 (some .boolean) ∈ tT := tT_in (cs_tables_1_6) 24 (by decide +kernel) rfl
theorem w_846 : Cond.methodLink RL 111 yX7_undo ∈ tT := tT_in (cs_tables_1_4) 55 (by decide +kernel) rfl
theorem w_847 : Cond.instanceMethod yX7_undo ∈ tT := tT_in (cs_tables_1_4) 56 (by decide +kernel) rfl
theorem w_848 : Cond.selects RX7 yX7_undo yX7_undo ∈ tT := tT_in (cs_tables_1_4) 57 (by decide +kernel) rfl
theorem w_849 : Cond.code yX7_undo cX7_undo 1 (some .int) ∈ tT := tT_in (cs_tables_1_4) 58 (by decide +kernel) rfl
theorem w_1296 : Cond.methodLink RL 114 yX8_undo ∈ tT := tT_in (cs_tables_1_6) 25 (by decide +kernel) rfl
theorem w_1297 : Cond.instanceMethod yX8_undo ∈ tT := tT_in (cs_tables_1_6) 26 (by decide +kernel) rfl
theorem w_1298 : Cond.selects RX8 yX8_undo yX8_undo ∈ tT := tT_in (cs_tables_1_6) 27 (by decide +kernel) rfl
theorem w_1299 : Cond.code yX8_undo cX8_undo 2 (some .int) ∈ tT := tT_in (cs_tables_1_6) 28 (by decide +kernel) rfl
def k_lawP (md : Bool) : List Ent := [eNew md 0 7 [.null, .int 0, .int 0, .null, .null, .null, .null, .null, .null, .null, .null],
  ePure 3 (fDup 3),
  eCallI 4 0 68,
  ePure 7 (fStoA 7 1 1 7),
  eNew md 8 8 [.int 0, .null, .int 0, .int 0, .int 0, .int 0, .int 0, .int 0, .int 0, .int 0, .long 0, .null, .null, .null, .int 0, .int 0, .null, .null, .null, .null, .null, .int 0, .null, .null, .null, .null, .int 0, .int 0],
  ePure 11 (fDup 11),
  eCallI 12 0 108,
  ePure 15 (fStoA 15 1 2 7),
  ePure 16 (fPush 16 1 (.int 1)),
  eNewJ md 17,
  ePure 19 (fStoA 19 1 3 7),
  ePure 20 (fPush 20 1 (.int 0)),
  ePure 21 (fStoI 21 2 4 7)]
set_option maxRecDepth 100000 in
set_option maxHeartbeats 4000000 in
theorem ko_lawP {l : Launch} {D : va_G} {cA : Nat → ClassId} {B : BB} {G : State → Prop} {md : Bool} {d : Nat} {call : Call} (hok : COk l D cA B G md d mI call) : ∀ e ∈ k_lawP md, EOk l RL cL_law 7 (some .boolean) false D cA B G md d call e := by
  unfold k_lawP
  refine al_cons (ok_new cl_X7 gX7 tyX7_ok w_93 w_94 w_72 dfX7 (by decide) rfl dL_law_0) ?_
  refine al_cons (eok_pure (pr_dup dL_law_3)) ?_
  refine al_cons (ok_callI hok mi_68 w_95 w_96 w_72 w_97 rfl na_68 (by decide) dL_law_4) ?_
  refine al_cons (eok_pure (pr_astore_n dL_law_7 rfl)) ?_
  refine al_cons (ok_new cl_X8 gX8 tyX8_ok w_936 w_930 w_82 dfX8 (by decide) rfl dL_law_8) ?_
  refine al_cons (eok_pure (pr_dup dL_law_11)) ?_
  refine al_cons (ok_callI hok mi_108 w_937 w_938 w_82 w_939 rfl na_108 (by decide) dL_law_12) ?_
  refine al_cons (eok_pure (pr_astore_n dL_law_15 rfl)) ?_
  refine al_cons (eok_pure (pr_iconst dL_law_16 (by decide))) ?_
  refine al_cons (ok_newj w_1300 dL_law_17) ?_
  refine al_cons (eok_pure (pr_astore_n dL_law_19 rfl)) ?_
  refine al_cons (eok_pure (pr_iconst dL_law_20 (by decide))) ?_
  refine al_cons (eok_pure (pr_istore dL_law_21)) ?_
  exact al_nil
def k_lawQ (md : Bool) (L : Nat) (xs : Nat → Int32) : List Ent := [ePure 23 (fLoadI 23 2 4),
  ePure 25 (fLoadA 25 1 0),
  eSlen 26 L,
  ePure 27 (fPush 27 2 (.int 6)),
  ePure 29 (fBin 29 o_isub),
  ePure 30 (fIf2 30 775 b2_gt),
  ePure 33 (fLoadA 33 1 0),
  ePure 34 (fLoadI 34 2 4),
  eSld 36 L xs,
  ePure 37 (fPush 37 2 (.int 31)),
  ePure 39 (fBin 39 o_iand),
  ePure 40 (fSw 0 [144, 217, 242, 255, 268, 293, 330, 370, 407, 456, 469, 494, 519, 544, 557, 594, 619, 656, 669, 706, 731, 756] 769),
  ePure 144 (fLoadA 144 1 1),
  ePure 145 (fLoadA 145 1 0),
  ePure 146 (fLoadI 146 2 4),
  ePure 148 (fPush 148 1 (.int 1)),
  ePure 149 (fBin 149 o_iadd),
  eSld 150 L xs,
  ePure 151 (fLoadA 151 1 0),
  ePure 152 (fLoadI 152 2 4),
  ePure 154 (fPush 154 1 (.int 2)),
  ePure 155 (fBin 155 o_iadd),
  eSld 156 L xs,
  ePure 157 (fLoadA 157 1 0),
  ePure 158 (fLoadI 158 2 4),
  ePure 160 (fPush 160 1 (.int 3)),
  ePure 161 (fBin 161 o_iadd),
  eSld 162 L xs,
  ePure 163 (fLoadA 163 1 0),
  ePure 164 (fLoadI 164 2 4),
  ePure 166 (fPush 166 1 (.int 4)),
  ePure 167 (fBin 167 o_iadd),
  eSld 168 L xs,
  ePure 169 (fLoadA 169 1 0),
  ePure 170 (fLoadI 170 2 4),
  ePure 172 (fPush 172 1 (.int 5)),
  ePure 173 (fBin 173 o_iadd),
  eSld 174 L xs,
  eCallV 175 5 69 7,
  ePure 178 (fPop 178),
  ePure 179 (fLoadA 179 1 2),
  ePure 180 (fLoadA 180 1 0),
  ePure 181 (fLoadI 181 2 4),
  ePure 183 (fPush 183 1 (.int 1)),
  ePure 184 (fBin 184 o_iadd),
  eSld 185 L xs,
  ePure 186 (fLoadA 186 1 0),
  ePure 187 (fLoadI 187 2 4),
  ePure 189 (fPush 189 1 (.int 2)),
  ePure 190 (fBin 190 o_iadd),
  eSld 191 L xs,
  ePure 192 (fLoadA 192 1 0),
  ePure 193 (fLoadI 193 2 4),
  ePure 195 (fPush 195 1 (.int 3)),
  ePure 196 (fBin 196 o_iadd),
  eSld 197 L xs,
  ePure 198 (fLoadA 198 1 0),
  ePure 199 (fLoadI 199 2 4),
  ePure 201 (fPush 201 1 (.int 4)),
  ePure 202 (fBin 202 o_iadd),
  eSld 203 L xs,
  ePure 204 (fLoadA 204 1 0),
  ePure 205 (fLoadI 205 2 4),
  ePure 207 (fPush 207 1 (.int 5)),
  ePure 208 (fBin 208 o_iadd),
  eSld 209 L xs,
  eCallV 210 5 97 8,
  ePure 213 (fPop 213),
  ePure 214 (fGoto 769),
  ePure 217 (fLoadA 217 1 1),
  ePure 218 (fLoadA 218 1 0),
  ePure 219 (fLoadI 219 2 4),
  ePure 221 (fPush 221 1 (.int 1)),
  ePure 222 (fBin 222 o_iadd),
  eSld 223 L xs,
  eCallV 224 1 70 7,
  ePure 227 (fPop 227),
  ePure 228 (fLoadA 228 1 2),
  ePure 229 (fLoadA 229 1 0),
  ePure 230 (fLoadI 230 2 4),
  ePure 232 (fPush 232 1 (.int 1)),
  ePure 233 (fBin 233 o_iadd),
  eSld 234 L xs,
  eCallV 235 1 98 8,
  ePure 238 (fPop 238),
  ePure 239 (fGoto 769),
  ePure 242 (fLoadA 242 1 1),
  eCallV 243 0 71 7,
  ePure 246 (fPop 246),
  ePure 247 (fLoadA 247 1 2),
  eCallV 248 0 119 8,
  ePure 251 (fPop 251),
  ePure 252 (fGoto 769),
  ePure 255 (fLoadA 255 1 1),
  eCallV 256 0 72 7,
  ePure 259 (fPop 259),
  ePure 260 (fLoadA 260 1 2),
  eCallV 261 0 120 8,
  ePure 264 (fPop 264),
  ePure 265 (fGoto 769),
  ePure 268 (fLoadA 268 1 1),
  ePure 269 (fLoadA 269 1 0),
  ePure 270 (fLoadI 270 2 4),
  ePure 272 (fPush 272 1 (.int 1)),
  ePure 273 (fBin 273 o_iadd),
  eSld 274 L xs,
  eCallV 275 1 73 7,
  ePure 278 (fPop 278),
  ePure 279 (fLoadA 279 1 2),
  ePure 280 (fLoadA 280 1 0),
  ePure 281 (fLoadI 281 2 4),
  ePure 283 (fPush 283 1 (.int 1)),
  ePure 284 (fBin 284 o_iadd),
  eSld 285 L xs,
  eCallV 286 1 139 8,
  ePure 289 (fPop 289),
  ePure 290 (fGoto 769),
  ePure 293 (fLoadA 293 1 1),
  ePure 294 (fLoadA 294 1 0),
  ePure 295 (fLoadI 295 2 4),
  ePure 297 (fPush 297 1 (.int 1)),
  ePure 298 (fBin 298 o_iadd),
  eSld 299 L xs,
  ePure 300 (fLoadA 300 1 0),
  ePure 301 (fLoadI 301 2 4),
  ePure 303 (fPush 303 1 (.int 2)),
  ePure 304 (fBin 304 o_iadd),
  eSld 305 L xs,
  eCallV 306 2 74 7,
  ePure 309 (fPop 309),
  ePure 310 (fLoadA 310 1 2),
  ePure 311 (fLoadA 311 1 0),
  ePure 312 (fLoadI 312 2 4),
  ePure 314 (fPush 314 1 (.int 1)),
  ePure 315 (fBin 315 o_iadd),
  eSld 316 L xs,
  ePure 317 (fLoadA 317 1 0),
  ePure 318 (fLoadI 318 2 4),
  ePure 320 (fPush 320 1 (.int 2)),
  ePure 321 (fBin 321 o_iadd),
  eSld 322 L xs,
  eCallV 323 2 141 8,
  ePure 326 (fPop 326),
  ePure 327 (fGoto 769),
  ePure 330 (fLoadA 330 1 1),
  ePure 331 (fLoadA 331 1 0),
  ePure 332 (fLoadI 332 2 4),
  ePure 334 (fPush 334 1 (.int 1)),
  ePure 335 (fBin 335 o_iadd),
  eSld 336 L xs,
  ePure 337 (fLoadA 337 1 0),
  ePure 338 (fLoadI 338 2 4),
  ePure 340 (fPush 340 1 (.int 2)),
  ePure 341 (fBin 341 o_iadd),
  eSld 342 L xs,
  ePure 343 (fLoadA 343 1 3),
  ePure 347 (fStoI 347 2 5 7),
  ePure 349 (fLoadA 349 1 2),
  ePure 350 (fLoadA 350 1 0),
  ePure 351 (fLoadI 351 2 4),
  ePure 353 (fPush 353 1 (.int 1)),
  ePure 354 (fBin 354 o_iadd),
  eSld 355 L xs,
  ePure 356 (fLoadA 356 1 0),
  ePure 357 (fLoadI 357 2 4),
  ePure 359 (fPush 359 1 (.int 2)),
  ePure 360 (fBin 360 o_iadd),
  eSld 361 L xs,
  eCallV 362 2 142 8,
  ePure 365 (fStoI 365 2 6 7),
  ePure 367 (fGoto 769),
  ePure 370 (fLoadA 370 1 1),
  ePure 371 (fLoadA 371 1 0),
  ePure 372 (fLoadI 372 2 4),
  ePure 374 (fPush 374 1 (.int 1)),
  ePure 375 (fBin 375 o_iadd),
  eSld 376 L xs,
  ePure 377 (fLoadA 377 1 0),
  ePure 378 (fLoadI 378 2 4),
  ePure 380 (fPush 380 1 (.int 2)),
  ePure 381 (fBin 381 o_iadd),
  eSld 382 L xs,
  eCallV 383 2 76 7,
  ePure 386 (fPop 386),
  ePure 387 (fLoadA 387 1 2),
  ePure 388 (fLoadA 388 1 0),
  ePure 389 (fLoadI 389 2 4),
  ePure 391 (fPush 391 1 (.int 1)),
  ePure 392 (fBin 392 o_iadd),
  eSld 393 L xs,
  ePure 394 (fLoadA 394 1 0),
  ePure 395 (fLoadI 395 2 4),
  ePure 397 (fPush 397 1 (.int 2)),
  ePure 398 (fBin 398 o_iadd),
  eSld 399 L xs,
  eCallV 400 2 143 8,
  ePure 403 (fPop 403),
  ePure 404 (fGoto 769),
  ePure 407 (fLoadA 407 1 1),
  ePure 408 (fLoadA 408 1 0),
  ePure 409 (fLoadI 409 2 4),
  ePure 411 (fPush 411 1 (.int 1)),
  ePure 412 (fBin 412 o_iadd),
  eSld 413 L xs,
  ePure 414 (fLoadA 414 1 0),
  ePure 415 (fLoadI 415 2 4),
  ePure 417 (fPush 417 1 (.int 2)),
  ePure 418 (fBin 418 o_iadd),
  eSld 419 L xs,
  ePure 420 (fLoadA 420 1 0),
  ePure 421 (fLoadI 421 2 4),
  ePure 423 (fPush 423 1 (.int 3)),
  ePure 424 (fBin 424 o_iadd),
  eSld 425 L xs,
  eCallV 426 3 77 7,
  ePure 429 (fPop 429),
  ePure 430 (fLoadA 430 1 2),
  ePure 431 (fLoadA 431 1 0),
  ePure 432 (fLoadI 432 2 4),
  ePure 434 (fPush 434 1 (.int 1)),
  ePure 435 (fBin 435 o_iadd),
  eSld 436 L xs,
  ePure 437 (fLoadA 437 1 0),
  ePure 438 (fLoadI 438 2 4),
  ePure 440 (fPush 440 1 (.int 2)),
  ePure 441 (fBin 441 o_iadd),
  eSld 442 L xs,
  ePure 443 (fLoadA 443 1 0),
  ePure 444 (fLoadI 444 2 4),
  ePure 446 (fPush 446 1 (.int 3)),
  ePure 447 (fBin 447 o_iadd),
  eSld 448 L xs,
  eCallV 449 3 144 8,
  ePure 452 (fPop 452),
  ePure 453 (fGoto 769),
  ePure 456 (fLoadA 456 1 1),
  eCallV 457 0 78 7,
  ePure 460 (fPop 460),
  ePure 461 (fLoadA 461 1 2),
  eCallV 462 0 145 8,
  ePure 465 (fPop 465),
  ePure 466 (fGoto 769),
  ePure 469 (fLoadA 469 1 1),
  ePure 470 (fLoadA 470 1 0),
  ePure 471 (fLoadI 471 2 4),
  ePure 473 (fPush 473 1 (.int 1)),
  ePure 474 (fBin 474 o_iadd),
  eSld 475 L xs,
  eCallV 476 1 79 7,
  ePure 479 (fPop 479),
  ePure 480 (fLoadA 480 1 2),
  ePure 481 (fLoadA 481 1 0),
  ePure 482 (fLoadI 482 2 4),
  ePure 484 (fPush 484 1 (.int 1)),
  ePure 485 (fBin 485 o_iadd),
  eSld 486 L xs,
  eCallV 487 1 146 8,
  ePure 490 (fPop 490),
  ePure 491 (fGoto 769),
  ePure 494 (fLoadA 494 1 1),
  ePure 495 (fLoadA 495 1 0),
  ePure 496 (fLoadI 496 2 4),
  ePure 498 (fPush 498 1 (.int 1)),
  ePure 499 (fBin 499 o_iadd),
  eSld 500 L xs,
  eCallV 501 1 80 7,
  ePure 504 (fPop 504),
  ePure 505 (fLoadA 505 1 2),
  ePure 506 (fLoadA 506 1 0),
  ePure 507 (fLoadI 507 2 4),
  ePure 509 (fPush 509 1 (.int 1)),
  ePure 510 (fBin 510 o_iadd),
  eSld 511 L xs,
  eCallV 512 1 147 8,
  ePure 515 (fPop 515),
  ePure 516 (fGoto 769),
  ePure 519 (fLoadA 519 1 1),
  ePure 520 (fLoadA 520 1 0),
  ePure 521 (fLoadI 521 2 4),
  ePure 523 (fPush 523 1 (.int 1)),
  ePure 524 (fBin 524 o_iadd),
  eSld 525 L xs,
  eCallV 526 1 81 7,
  ePure 529 (fPop 529),
  ePure 530 (fLoadA 530 1 2),
  ePure 531 (fLoadA 531 1 0),
  ePure 532 (fLoadI 532 2 4),
  ePure 534 (fPush 534 1 (.int 1)),
  ePure 535 (fBin 535 o_iadd),
  eSld 536 L xs,
  eCallV 537 1 152 8,
  ePure 540 (fPop 540),
  ePure 541 (fGoto 769),
  ePure 544 (fLoadA 544 1 1),
  eCallV 545 0 82 7,
  ePure 548 (fPop 548),
  ePure 549 (fLoadA 549 1 2),
  eCallV 550 0 153 8,
  ePure 553 (fPop 553),
  ePure 554 (fGoto 769),
  ePure 557 (fLoadA 557 1 1),
  ePure 558 (fLoadA 558 1 0),
  ePure 559 (fLoadI 559 2 4),
  ePure 561 (fPush 561 1 (.int 1)),
  ePure 562 (fBin 562 o_iadd),
  eSld 563 L xs,
  ePure 564 (fLoadA 564 1 0),
  ePure 565 (fLoadI 565 2 4),
  ePure 567 (fPush 567 1 (.int 2)),
  ePure 568 (fBin 568 o_iadd),
  eSld 569 L xs,
  eCallV 570 2 83 7,
  ePure 573 (fPop 573),
  ePure 574 (fLoadA 574 1 2),
  ePure 575 (fLoadA 575 1 0),
  ePure 576 (fLoadI 576 2 4),
  ePure 578 (fPush 578 1 (.int 1)),
  ePure 579 (fBin 579 o_iadd),
  eSld 580 L xs,
  ePure 581 (fLoadA 581 1 0),
  ePure 582 (fLoadI 582 2 4),
  ePure 584 (fPush 584 1 (.int 2)),
  ePure 585 (fBin 585 o_iadd),
  eSld 586 L xs,
  eCallV 587 2 155 8,
  ePure 590 (fPop 590),
  ePure 591 (fGoto 769),
  ePure 594 (fLoadA 594 1 1),
  ePure 595 (fLoadA 595 1 0),
  ePure 596 (fLoadI 596 2 4),
  ePure 598 (fPush 598 1 (.int 1)),
  ePure 599 (fBin 599 o_iadd),
  eSld 600 L xs,
  eCallV 601 1 84 7,
  ePure 604 (fPop 604),
  ePure 605 (fLoadA 605 1 2),
  ePure 606 (fLoadA 606 1 0),
  ePure 607 (fLoadI 607 2 4),
  ePure 609 (fPush 609 1 (.int 1)),
  ePure 610 (fBin 610 o_iadd),
  eSld 611 L xs,
  eCallV 612 1 156 8,
  ePure 615 (fPop 615),
  ePure 616 (fGoto 769),
  ePure 619 (fLoadA 619 1 1),
  ePure 620 (fLoadA 620 1 0),
  ePure 621 (fLoadI 621 2 4),
  ePure 623 (fPush 623 1 (.int 1)),
  ePure 624 (fBin 624 o_iadd),
  eSld 625 L xs,
  ePure 626 (fLoadA 626 1 0),
  ePure 627 (fLoadI 627 2 4),
  ePure 629 (fPush 629 1 (.int 2)),
  ePure 630 (fBin 630 o_iadd),
  eSld 631 L xs,
  eCallV 632 2 85 7,
  ePure 635 (fPop 635),
  ePure 636 (fLoadA 636 1 2),
  ePure 637 (fLoadA 637 1 0),
  ePure 638 (fLoadI 638 2 4),
  ePure 640 (fPush 640 1 (.int 1)),
  ePure 641 (fBin 641 o_iadd),
  eSld 642 L xs,
  ePure 643 (fLoadA 643 1 0),
  ePure 644 (fLoadI 644 2 4),
  ePure 646 (fPush 646 1 (.int 2)),
  ePure 647 (fBin 647 o_iadd),
  eSld 648 L xs,
  eCallV 649 2 158 8,
  ePure 652 (fPop 652),
  ePure 653 (fGoto 769),
  ePure 656 (fLoadA 656 1 1),
  eCallV 657 0 86 7,
  ePure 660 (fPop 660),
  ePure 661 (fLoadA 661 1 2),
  eCallV 662 0 159 8,
  ePure 665 (fPop 665),
  ePure 666 (fGoto 769),
  ePure 669 (fLoadA 669 1 1),
  ePure 670 (fLoadA 670 1 0),
  ePure 671 (fLoadI 671 2 4),
  ePure 673 (fPush 673 1 (.int 1)),
  ePure 674 (fBin 674 o_iadd),
  eSld 675 L xs,
  ePure 676 (fLoadA 676 1 0),
  ePure 677 (fLoadI 677 2 4),
  ePure 679 (fPush 679 1 (.int 2)),
  ePure 680 (fBin 680 o_iadd),
  eSld 681 L xs,
  eCallV 682 2 87 7,
  ePure 685 (fPop 685),
  ePure 686 (fLoadA 686 1 2),
  ePure 687 (fLoadA 687 1 0),
  ePure 688 (fLoadI 688 2 4),
  ePure 690 (fPush 690 1 (.int 1)),
  ePure 691 (fBin 691 o_iadd),
  eSld 692 L xs,
  ePure 693 (fLoadA 693 1 0),
  ePure 694 (fLoadI 694 2 4),
  ePure 696 (fPush 696 1 (.int 2)),
  ePure 697 (fBin 697 o_iadd),
  eSld 698 L xs,
  eCallV 699 2 161 8,
  ePure 702 (fPop 702),
  ePure 703 (fGoto 769),
  ePure 706 (fLoadA 706 1 1),
  ePure 707 (fLoadA 707 1 0),
  ePure 708 (fLoadI 708 2 4),
  ePure 710 (fPush 710 1 (.int 1)),
  ePure 711 (fBin 711 o_iadd),
  eSld 712 L xs,
  eCallV 713 1 88 7,
  ePure 716 (fPop 716),
  ePure 717 (fLoadA 717 1 2),
  ePure 718 (fLoadA 718 1 0),
  ePure 719 (fLoadI 719 2 4),
  ePure 721 (fPush 721 1 (.int 1)),
  ePure 722 (fBin 722 o_iadd),
  eSld 723 L xs,
  eCallV 724 1 162 8,
  ePure 727 (fPop 727),
  ePure 728 (fGoto 769),
  ePure 731 (fLoadA 731 1 1),
  ePure 732 (fLoadA 732 1 0),
  ePure 733 (fLoadI 733 2 4),
  ePure 735 (fPush 735 1 (.int 1)),
  ePure 736 (fBin 736 o_iadd),
  eSld 737 L xs,
  eCallV 738 1 89 7,
  ePure 741 (fPop 741),
  ePure 742 (fLoadA 742 1 2),
  ePure 743 (fLoadA 743 1 0),
  ePure 744 (fLoadI 744 2 4),
  ePure 746 (fPush 746 1 (.int 1)),
  ePure 747 (fBin 747 o_iadd),
  eSld 748 L xs,
  eCallV 749 1 163 8,
  ePure 752 (fPop 752),
  ePure 753 (fGoto 769),
  ePure 756 (fLoadA 756 1 1),
  eCallV 757 0 90 7,
  ePure 760 (fLoadA 760 1 2),
  eCallV 761 0 164 8,
  ePure 764 (fIf2 764 769 b2_eq),
  ePure 767 (fPush 767 1 (.int 0)),
  eRetZ 768,
  ePure 769 (fInc 769 4 7 6),
  ePure 772 (fGoto 23),
  ePure 775 (fPush 775 1 (.int 1)),
  eRetZ 776]
set_option maxRecDepth 100000 in
set_option maxHeartbeats 4000000 in
theorem ko_lawQ {l : Launch} {D : va_G} {cA : Nat → ClassId} {B : BB} {G : State → Prop} {md : Bool} {d : Nat} {call : Call} (hok : COk l D cA B G md d mI call) {L : Nat} {xs : Nat → Int32} (hG : ∀ s, G s → va_X B.2.1 L xs s s.heap) (hB : B.2.1 < B.1) : ∀ e ∈ k_lawQ md L xs, EOk l RL cL_law 7 (some .boolean) false D cA B G md d call e := by
  unfold k_lawQ
  refine al_cons (eok_pure (pr_iload dL_law_23)) ?_
  refine al_cons (eok_pure (pr_aload_n dL_law_25 rfl)) ?_
  refine al_cons (ok_slen hG hB dL_law_26) ?_
  refine al_cons (eok_pure (pr_bipush dL_law_27 (by decide))) ?_
  refine al_cons (eok_pure (pr_isub dL_law_29)) ?_
  refine al_cons (eok_pure (pr_icmp_gt dL_law_30 (by decide))) ?_
  refine al_cons (eok_pure (pr_aload_n dL_law_33 rfl)) ?_
  refine al_cons (eok_pure (pr_iload dL_law_34)) ?_
  refine al_cons (ok_sld hG hB dL_law_36) ?_
  refine al_cons (eok_pure (pr_bipush dL_law_37 (by decide))) ?_
  refine al_cons (eok_pure (pr_iand dL_law_39)) ?_
  refine al_cons (eok_pure (pr_tsw dL_law_40 (by decide) (by decide) (by decide))) ?_
  refine al_cons (eok_pure (pr_aload_n dL_law_144 rfl)) ?_
  refine al_cons (eok_pure (pr_aload_n dL_law_145 rfl)) ?_
  refine al_cons (eok_pure (pr_iload dL_law_146)) ?_
  refine al_cons (eok_pure (pr_iconst dL_law_148 (by decide))) ?_
  refine al_cons (eok_pure (pr_iadd dL_law_149)) ?_
  refine al_cons (ok_sld hG hB dL_law_150) ?_
  refine al_cons (eok_pure (pr_aload_n dL_law_151 rfl)) ?_
  refine al_cons (eok_pure (pr_iload dL_law_152)) ?_
  refine al_cons (eok_pure (pr_iconst dL_law_154 (by decide))) ?_
  refine al_cons (eok_pure (pr_iadd dL_law_155)) ?_
  refine al_cons (ok_sld hG hB dL_law_156) ?_
  refine al_cons (eok_pure (pr_aload_n dL_law_157 rfl)) ?_
  refine al_cons (eok_pure (pr_iload dL_law_158)) ?_
  refine al_cons (eok_pure (pr_iconst dL_law_160 (by decide))) ?_
  refine al_cons (eok_pure (pr_iadd dL_law_161)) ?_
  refine al_cons (ok_sld hG hB dL_law_162) ?_
  refine al_cons (eok_pure (pr_aload_n dL_law_163 rfl)) ?_
  refine al_cons (eok_pure (pr_iload dL_law_164)) ?_
  refine al_cons (eok_pure (pr_iconst dL_law_166 (by decide))) ?_
  refine al_cons (eok_pure (pr_iadd dL_law_167)) ?_
  refine al_cons (ok_sld hG hB dL_law_168) ?_
  refine al_cons (eok_pure (pr_aload_n dL_law_169 rfl)) ?_
  refine al_cons (eok_pure (pr_iload dL_law_170)) ?_
  refine al_cons (eok_pure (pr_iconst dL_law_172 (by decide))) ?_
  refine al_cons (eok_pure (pr_iadd dL_law_173)) ?_
  refine al_cons (ok_sld hG hB dL_law_174) ?_
  refine al_cons (ok_callV hok mi_69 cl_X7 w_442 w_443 w_444 w_72 w_445 na_69 (by decide) dL_law_175) ?_
  refine al_cons (eok_pure (pr_pop dL_law_178)) ?_
  refine al_cons (eok_pure (pr_aload_n dL_law_179 rfl)) ?_
  refine al_cons (eok_pure (pr_aload_n dL_law_180 rfl)) ?_
  refine al_cons (eok_pure (pr_iload dL_law_181)) ?_
  refine al_cons (eok_pure (pr_iconst dL_law_183 (by decide))) ?_
  refine al_cons (eok_pure (pr_iadd dL_law_184)) ?_
  refine al_cons (ok_sld hG hB dL_law_185) ?_
  refine al_cons (eok_pure (pr_aload_n dL_law_186 rfl)) ?_
  refine al_cons (eok_pure (pr_iload dL_law_187)) ?_
  refine al_cons (eok_pure (pr_iconst dL_law_189 (by decide))) ?_
  refine al_cons (eok_pure (pr_iadd dL_law_190)) ?_
  refine al_cons (ok_sld hG hB dL_law_191) ?_
  refine al_cons (eok_pure (pr_aload_n dL_law_192 rfl)) ?_
  refine al_cons (eok_pure (pr_iload dL_law_193)) ?_
  refine al_cons (eok_pure (pr_iconst dL_law_195 (by decide))) ?_
  refine al_cons (eok_pure (pr_iadd dL_law_196)) ?_
  refine al_cons (ok_sld hG hB dL_law_197) ?_
  refine al_cons (eok_pure (pr_aload_n dL_law_198 rfl)) ?_
  refine al_cons (eok_pure (pr_iload dL_law_199)) ?_
  refine al_cons (eok_pure (pr_iconst dL_law_201 (by decide))) ?_
  refine al_cons (eok_pure (pr_iadd dL_law_202)) ?_
  refine al_cons (ok_sld hG hB dL_law_203) ?_
  refine al_cons (eok_pure (pr_aload_n dL_law_204 rfl)) ?_
  refine al_cons (eok_pure (pr_iload dL_law_205)) ?_
  refine al_cons (eok_pure (pr_iconst dL_law_207 (by decide))) ?_
  refine al_cons (eok_pure (pr_iadd dL_law_208)) ?_
  refine al_cons (ok_sld hG hB dL_law_209) ?_
  refine al_cons (ok_callV hok mi_97 cl_X8 w_923 w_924 w_925 w_82 w_926 na_97 (by decide) dL_law_210) ?_
  refine al_cons (eok_pure (pr_pop dL_law_213)) ?_
  refine al_cons (eok_pure (pr_goto dL_law_214 (by decide))) ?_
  refine al_cons (eok_pure (pr_aload_n dL_law_217 rfl)) ?_
  refine al_cons (eok_pure (pr_aload_n dL_law_218 rfl)) ?_
  refine al_cons (eok_pure (pr_iload dL_law_219)) ?_
  refine al_cons (eok_pure (pr_iconst dL_law_221 (by decide))) ?_
  refine al_cons (eok_pure (pr_iadd dL_law_222)) ?_
  refine al_cons (ok_sld hG hB dL_law_223) ?_
  refine al_cons (ok_callV hok mi_70 cl_X7 w_450 w_451 w_452 w_72 w_453 na_70 (by decide) dL_law_224) ?_
  refine al_cons (eok_pure (pr_pop dL_law_227)) ?_
  refine al_cons (eok_pure (pr_aload_n dL_law_228 rfl)) ?_
  refine al_cons (eok_pure (pr_aload_n dL_law_229 rfl)) ?_
  refine al_cons (eok_pure (pr_iload dL_law_230)) ?_
  refine al_cons (eok_pure (pr_iconst dL_law_232 (by decide))) ?_
  refine al_cons (eok_pure (pr_iadd dL_law_233)) ?_
  refine al_cons (ok_sld hG hB dL_law_234) ?_
  refine al_cons (ok_callV hok mi_98 cl_X8 w_932 w_933 w_934 w_82 w_935 na_98 (by decide) dL_law_235) ?_
  refine al_cons (eok_pure (pr_pop dL_law_238)) ?_
  refine al_cons (eok_pure (pr_goto dL_law_239 (by decide))) ?_
  refine al_cons (eok_pure (pr_aload_n dL_law_242 rfl)) ?_
  refine al_cons (ok_callV hok mi_71 cl_X7 w_454 w_455 w_456 w_72 w_457 na_71 (by decide) dL_law_243) ?_
  refine al_cons (eok_pure (pr_pop dL_law_246)) ?_
  refine al_cons (eok_pure (pr_aload_n dL_law_247 rfl)) ?_
  refine al_cons (ok_callV hok mi_119 cl_X8 w_1026 w_1027 w_1028 w_82 w_1029 na_119 (by decide) dL_law_248) ?_
  refine al_cons (eok_pure (pr_pop dL_law_251)) ?_
  refine al_cons (eok_pure (pr_goto dL_law_252 (by decide))) ?_
  refine al_cons (eok_pure (pr_aload_n dL_law_255 rfl)) ?_
  refine al_cons (ok_callV hok mi_72 cl_X7 w_596 w_597 w_598 w_72 w_599 na_72 (by decide) dL_law_256) ?_
  refine al_cons (eok_pure (pr_pop dL_law_259)) ?_
  refine al_cons (eok_pure (pr_aload_n dL_law_260 rfl)) ?_
  refine al_cons (ok_callV hok mi_120 cl_X8 w_1112 w_1113 w_1114 w_82 w_1115 na_120 (by decide) dL_law_261) ?_
  refine al_cons (eok_pure (pr_pop dL_law_264)) ?_
  refine al_cons (eok_pure (pr_goto dL_law_265 (by decide))) ?_
  refine al_cons (eok_pure (pr_aload_n dL_law_268 rfl)) ?_
  refine al_cons (eok_pure (pr_aload_n dL_law_269 rfl)) ?_
  refine al_cons (eok_pure (pr_iload dL_law_270)) ?_
  refine al_cons (eok_pure (pr_iconst dL_law_272 (by decide))) ?_
  refine al_cons (eok_pure (pr_iadd dL_law_273)) ?_
  refine al_cons (ok_sld hG hB dL_law_274) ?_
  refine al_cons (ok_callV hok mi_73 cl_X7 w_600 w_601 w_602 w_72 w_603 na_73 (by decide) dL_law_275) ?_
  refine al_cons (eok_pure (pr_pop dL_law_278)) ?_
  refine al_cons (eok_pure (pr_aload_n dL_law_279 rfl)) ?_
  refine al_cons (eok_pure (pr_aload_n dL_law_280 rfl)) ?_
  refine al_cons (eok_pure (pr_iload dL_law_281)) ?_
  refine al_cons (eok_pure (pr_iconst dL_law_283 (by decide))) ?_
  refine al_cons (eok_pure (pr_iadd dL_law_284)) ?_
  refine al_cons (ok_sld hG hB dL_law_285) ?_
  refine al_cons (ok_callV hok mi_139 cl_X8 w_1116 w_1117 w_1118 w_82 w_1119 na_139 (by decide) dL_law_286) ?_
  refine al_cons (eok_pure (pr_pop dL_law_289)) ?_
  refine al_cons (eok_pure (pr_goto dL_law_290 (by decide))) ?_
  refine al_cons (eok_pure (pr_aload_n dL_law_293 rfl)) ?_
  refine al_cons (eok_pure (pr_aload_n dL_law_294 rfl)) ?_
  refine al_cons (eok_pure (pr_iload dL_law_295)) ?_
  refine al_cons (eok_pure (pr_iconst dL_law_297 (by decide))) ?_
  refine al_cons (eok_pure (pr_iadd dL_law_298)) ?_
  refine al_cons (ok_sld hG hB dL_law_299) ?_
  refine al_cons (eok_pure (pr_aload_n dL_law_300 rfl)) ?_
  refine al_cons (eok_pure (pr_iload dL_law_301)) ?_
  refine al_cons (eok_pure (pr_iconst dL_law_303 (by decide))) ?_
  refine al_cons (eok_pure (pr_iadd dL_law_304)) ?_
  refine al_cons (ok_sld hG hB dL_law_305) ?_
  refine al_cons (ok_callV hok mi_74 cl_X7 w_632 w_633 w_634 w_72 w_635 na_74 (by decide) dL_law_306) ?_
  refine al_cons (eok_pure (pr_pop dL_law_309)) ?_
  refine al_cons (eok_pure (pr_aload_n dL_law_310 rfl)) ?_
  refine al_cons (eok_pure (pr_aload_n dL_law_311 rfl)) ?_
  refine al_cons (eok_pure (pr_iload dL_law_312)) ?_
  refine al_cons (eok_pure (pr_iconst dL_law_314 (by decide))) ?_
  refine al_cons (eok_pure (pr_iadd dL_law_315)) ?_
  refine al_cons (ok_sld hG hB dL_law_316) ?_
  refine al_cons (eok_pure (pr_aload_n dL_law_317 rfl)) ?_
  refine al_cons (eok_pure (pr_iload dL_law_318)) ?_
  refine al_cons (eok_pure (pr_iconst dL_law_320 (by decide))) ?_
  refine al_cons (eok_pure (pr_iadd dL_law_321)) ?_
  refine al_cons (ok_sld hG hB dL_law_322) ?_
  refine al_cons (ok_callV hok mi_141 cl_X8 w_1156 w_1157 w_1158 w_82 w_1159 na_141 (by decide) dL_law_323) ?_
  refine al_cons (eok_pure (pr_pop dL_law_326)) ?_
  refine al_cons (eok_pure (pr_goto dL_law_327 (by decide))) ?_
  refine al_cons (eok_pure (pr_aload_n dL_law_330 rfl)) ?_
  refine al_cons (eok_pure (pr_aload_n dL_law_331 rfl)) ?_
  refine al_cons (eok_pure (pr_iload dL_law_332)) ?_
  refine al_cons (eok_pure (pr_iconst dL_law_334 (by decide))) ?_
  refine al_cons (eok_pure (pr_iadd dL_law_335)) ?_
  refine al_cons (ok_sld hG hB dL_law_336) ?_
  refine al_cons (eok_pure (pr_aload_n dL_law_337 rfl)) ?_
  refine al_cons (eok_pure (pr_iload dL_law_338)) ?_
  refine al_cons (eok_pure (pr_iconst dL_law_340 (by decide))) ?_
  refine al_cons (eok_pure (pr_iadd dL_law_341)) ?_
  refine al_cons (ok_sld hG hB dL_law_342) ?_
  refine al_cons (eok_pure (pr_aload_n dL_law_343 rfl)) ?_
  refine al_cons (eok_pure (pr_istore dL_law_347)) ?_
  refine al_cons (eok_pure (pr_aload_n dL_law_349 rfl)) ?_
  refine al_cons (eok_pure (pr_aload_n dL_law_350 rfl)) ?_
  refine al_cons (eok_pure (pr_iload dL_law_351)) ?_
  refine al_cons (eok_pure (pr_iconst dL_law_353 (by decide))) ?_
  refine al_cons (eok_pure (pr_iadd dL_law_354)) ?_
  refine al_cons (ok_sld hG hB dL_law_355) ?_
  refine al_cons (eok_pure (pr_aload_n dL_law_356 rfl)) ?_
  refine al_cons (eok_pure (pr_iload dL_law_357)) ?_
  refine al_cons (eok_pure (pr_iconst dL_law_359 (by decide))) ?_
  refine al_cons (eok_pure (pr_iadd dL_law_360)) ?_
  refine al_cons (ok_sld hG hB dL_law_361) ?_
  refine al_cons (ok_callV hok mi_142 cl_X8 w_1172 w_1173 w_1174 w_82 w_1175 na_142 (by decide) dL_law_362) ?_
  refine al_cons (eok_pure (pr_istore dL_law_365)) ?_
  refine al_cons (eok_pure (pr_goto dL_law_367 (by decide))) ?_
  refine al_cons (eok_pure (pr_aload_n dL_law_370 rfl)) ?_
  refine al_cons (eok_pure (pr_aload_n dL_law_371 rfl)) ?_
  refine al_cons (eok_pure (pr_iload dL_law_372)) ?_
  refine al_cons (eok_pure (pr_iconst dL_law_374 (by decide))) ?_
  refine al_cons (eok_pure (pr_iadd dL_law_375)) ?_
  refine al_cons (ok_sld hG hB dL_law_376) ?_
  refine al_cons (eok_pure (pr_aload_n dL_law_377 rfl)) ?_
  refine al_cons (eok_pure (pr_iload dL_law_378)) ?_
  refine al_cons (eok_pure (pr_iconst dL_law_380 (by decide))) ?_
  refine al_cons (eok_pure (pr_iadd dL_law_381)) ?_
  refine al_cons (ok_sld hG hB dL_law_382) ?_
  refine al_cons (ok_callV hok mi_76 cl_X7 w_644 w_645 w_646 w_72 w_647 na_76 (by decide) dL_law_383) ?_
  refine al_cons (eok_pure (pr_pop dL_law_386)) ?_
  refine al_cons (eok_pure (pr_aload_n dL_law_387 rfl)) ?_
  refine al_cons (eok_pure (pr_aload_n dL_law_388 rfl)) ?_
  refine al_cons (eok_pure (pr_iload dL_law_389)) ?_
  refine al_cons (eok_pure (pr_iconst dL_law_391 (by decide))) ?_
  refine al_cons (eok_pure (pr_iadd dL_law_392)) ?_
  refine al_cons (ok_sld hG hB dL_law_393) ?_
  refine al_cons (eok_pure (pr_aload_n dL_law_394 rfl)) ?_
  refine al_cons (eok_pure (pr_iload dL_law_395)) ?_
  refine al_cons (eok_pure (pr_iconst dL_law_397 (by decide))) ?_
  refine al_cons (eok_pure (pr_iadd dL_law_398)) ?_
  refine al_cons (ok_sld hG hB dL_law_399) ?_
  refine al_cons (ok_callV hok mi_143 cl_X8 w_1188 w_1189 w_1190 w_82 w_1191 na_143 (by decide) dL_law_400) ?_
  refine al_cons (eok_pure (pr_pop dL_law_403)) ?_
  refine al_cons (eok_pure (pr_goto dL_law_404 (by decide))) ?_
  refine al_cons (eok_pure (pr_aload_n dL_law_407 rfl)) ?_
  refine al_cons (eok_pure (pr_aload_n dL_law_408 rfl)) ?_
  refine al_cons (eok_pure (pr_iload dL_law_409)) ?_
  refine al_cons (eok_pure (pr_iconst dL_law_411 (by decide))) ?_
  refine al_cons (eok_pure (pr_iadd dL_law_412)) ?_
  refine al_cons (ok_sld hG hB dL_law_413) ?_
  refine al_cons (eok_pure (pr_aload_n dL_law_414 rfl)) ?_
  refine al_cons (eok_pure (pr_iload dL_law_415)) ?_
  refine al_cons (eok_pure (pr_iconst dL_law_417 (by decide))) ?_
  refine al_cons (eok_pure (pr_iadd dL_law_418)) ?_
  refine al_cons (ok_sld hG hB dL_law_419) ?_
  refine al_cons (eok_pure (pr_aload_n dL_law_420 rfl)) ?_
  refine al_cons (eok_pure (pr_iload dL_law_421)) ?_
  refine al_cons (eok_pure (pr_iconst dL_law_423 (by decide))) ?_
  refine al_cons (eok_pure (pr_iadd dL_law_424)) ?_
  refine al_cons (ok_sld hG hB dL_law_425) ?_
  refine al_cons (ok_callV hok mi_77 cl_X7 w_656 w_657 w_658 w_72 w_659 na_77 (by decide) dL_law_426) ?_
  refine al_cons (eok_pure (pr_pop dL_law_429)) ?_
  refine al_cons (eok_pure (pr_aload_n dL_law_430 rfl)) ?_
  refine al_cons (eok_pure (pr_aload_n dL_law_431 rfl)) ?_
  refine al_cons (eok_pure (pr_iload dL_law_432)) ?_
  refine al_cons (eok_pure (pr_iconst dL_law_434 (by decide))) ?_
  refine al_cons (eok_pure (pr_iadd dL_law_435)) ?_
  refine al_cons (ok_sld hG hB dL_law_436) ?_
  refine al_cons (eok_pure (pr_aload_n dL_law_437 rfl)) ?_
  refine al_cons (eok_pure (pr_iload dL_law_438)) ?_
  refine al_cons (eok_pure (pr_iconst dL_law_440 (by decide))) ?_
  refine al_cons (eok_pure (pr_iadd dL_law_441)) ?_
  refine al_cons (ok_sld hG hB dL_law_442) ?_
  refine al_cons (eok_pure (pr_aload_n dL_law_443 rfl)) ?_
  refine al_cons (eok_pure (pr_iload dL_law_444)) ?_
  refine al_cons (eok_pure (pr_iconst dL_law_446 (by decide))) ?_
  refine al_cons (eok_pure (pr_iadd dL_law_447)) ?_
  refine al_cons (ok_sld hG hB dL_law_448) ?_
  refine al_cons (ok_callV hok mi_144 cl_X8 w_1200 w_1201 w_1202 w_82 w_1203 na_144 (by decide) dL_law_449) ?_
  refine al_cons (eok_pure (pr_pop dL_law_452)) ?_
  refine al_cons (eok_pure (pr_goto dL_law_453 (by decide))) ?_
  refine al_cons (eok_pure (pr_aload_n dL_law_456 rfl)) ?_
  refine al_cons (ok_callV hok mi_78 cl_X7 w_668 w_669 w_670 w_72 w_671 na_78 (by decide) dL_law_457) ?_
  refine al_cons (eok_pure (pr_pop dL_law_460)) ?_
  refine al_cons (eok_pure (pr_aload_n dL_law_461 rfl)) ?_
  refine al_cons (ok_callV hok mi_145 cl_X8 w_1204 w_1205 w_1206 w_82 w_1207 na_145 (by decide) dL_law_462) ?_
  refine al_cons (eok_pure (pr_pop dL_law_465)) ?_
  refine al_cons (eok_pure (pr_goto dL_law_466 (by decide))) ?_
  refine al_cons (eok_pure (pr_aload_n dL_law_469 rfl)) ?_
  refine al_cons (eok_pure (pr_aload_n dL_law_470 rfl)) ?_
  refine al_cons (eok_pure (pr_iload dL_law_471)) ?_
  refine al_cons (eok_pure (pr_iconst dL_law_473 (by decide))) ?_
  refine al_cons (eok_pure (pr_iadd dL_law_474)) ?_
  refine al_cons (ok_sld hG hB dL_law_475) ?_
  refine al_cons (ok_callV hok mi_79 cl_X7 w_697 w_698 w_699 w_72 w_700 na_79 (by decide) dL_law_476) ?_
  refine al_cons (eok_pure (pr_pop dL_law_479)) ?_
  refine al_cons (eok_pure (pr_aload_n dL_law_480 rfl)) ?_
  refine al_cons (eok_pure (pr_aload_n dL_law_481 rfl)) ?_
  refine al_cons (eok_pure (pr_iload dL_law_482)) ?_
  refine al_cons (eok_pure (pr_iconst dL_law_484 (by decide))) ?_
  refine al_cons (eok_pure (pr_iadd dL_law_485)) ?_
  refine al_cons (ok_sld hG hB dL_law_486) ?_
  refine al_cons (ok_callV hok mi_146 cl_X8 w_1220 w_1221 w_1222 w_82 w_1223 na_146 (by decide) dL_law_487) ?_
  refine al_cons (eok_pure (pr_pop dL_law_490)) ?_
  refine al_cons (eok_pure (pr_goto dL_law_491 (by decide))) ?_
  refine al_cons (eok_pure (pr_aload_n dL_law_494 rfl)) ?_
  refine al_cons (eok_pure (pr_aload_n dL_law_495 rfl)) ?_
  refine al_cons (eok_pure (pr_iload dL_law_496)) ?_
  refine al_cons (eok_pure (pr_iconst dL_law_498 (by decide))) ?_
  refine al_cons (eok_pure (pr_iadd dL_law_499)) ?_
  refine al_cons (ok_sld hG hB dL_law_500) ?_
  refine al_cons (ok_callV hok mi_80 cl_X7 w_709 w_710 w_711 w_72 w_712 na_80 (by decide) dL_law_501) ?_
  refine al_cons (eok_pure (pr_pop dL_law_504)) ?_
  refine al_cons (eok_pure (pr_aload_n dL_law_505 rfl)) ?_
  refine al_cons (eok_pure (pr_aload_n dL_law_506 rfl)) ?_
  refine al_cons (eok_pure (pr_iload dL_law_507)) ?_
  refine al_cons (eok_pure (pr_iconst dL_law_509 (by decide))) ?_
  refine al_cons (eok_pure (pr_iadd dL_law_510)) ?_
  refine al_cons (ok_sld hG hB dL_law_511) ?_
  refine al_cons (ok_callV hok mi_147 cl_X8 w_1224 w_1225 w_1226 w_82 w_1227 na_147 (by decide) dL_law_512) ?_
  refine al_cons (eok_pure (pr_pop dL_law_515)) ?_
  refine al_cons (eok_pure (pr_goto dL_law_516 (by decide))) ?_
  refine al_cons (eok_pure (pr_aload_n dL_law_519 rfl)) ?_
  refine al_cons (eok_pure (pr_aload_n dL_law_520 rfl)) ?_
  refine al_cons (eok_pure (pr_iload dL_law_521)) ?_
  refine al_cons (eok_pure (pr_iconst dL_law_523 (by decide))) ?_
  refine al_cons (eok_pure (pr_iadd dL_law_524)) ?_
  refine al_cons (ok_sld hG hB dL_law_525) ?_
  refine al_cons (ok_callV hok mi_81 cl_X7 w_727 w_728 w_729 w_72 w_730 na_81 (by decide) dL_law_526) ?_
  refine al_cons (eok_pure (pr_pop dL_law_529)) ?_
  refine al_cons (eok_pure (pr_aload_n dL_law_530 rfl)) ?_
  refine al_cons (eok_pure (pr_aload_n dL_law_531 rfl)) ?_
  refine al_cons (eok_pure (pr_iload dL_law_532)) ?_
  refine al_cons (eok_pure (pr_iconst dL_law_534 (by decide))) ?_
  refine al_cons (eok_pure (pr_iadd dL_law_535)) ?_
  refine al_cons (ok_sld hG hB dL_law_536) ?_
  refine al_cons (ok_callV hok mi_152 cl_X8 w_1228 w_1229 w_1230 w_82 w_1231 na_152 (by decide) dL_law_537) ?_
  refine al_cons (eok_pure (pr_pop dL_law_540)) ?_
  refine al_cons (eok_pure (pr_goto dL_law_541 (by decide))) ?_
  refine al_cons (eok_pure (pr_aload_n dL_law_544 rfl)) ?_
  refine al_cons (ok_callV hok mi_82 cl_X7 w_781 w_782 w_783 w_72 w_784 na_82 (by decide) dL_law_545) ?_
  refine al_cons (eok_pure (pr_pop dL_law_548)) ?_
  refine al_cons (eok_pure (pr_aload_n dL_law_549 rfl)) ?_
  refine al_cons (ok_callV hok mi_153 cl_X8 w_1248 w_1249 w_1250 w_82 w_1251 na_153 (by decide) dL_law_550) ?_
  refine al_cons (eok_pure (pr_pop dL_law_553)) ?_
  refine al_cons (eok_pure (pr_goto dL_law_554 (by decide))) ?_
  refine al_cons (eok_pure (pr_aload_n dL_law_557 rfl)) ?_
  refine al_cons (eok_pure (pr_aload_n dL_law_558 rfl)) ?_
  refine al_cons (eok_pure (pr_iload dL_law_559)) ?_
  refine al_cons (eok_pure (pr_iconst dL_law_561 (by decide))) ?_
  refine al_cons (eok_pure (pr_iadd dL_law_562)) ?_
  refine al_cons (ok_sld hG hB dL_law_563) ?_
  refine al_cons (eok_pure (pr_aload_n dL_law_564 rfl)) ?_
  refine al_cons (eok_pure (pr_iload dL_law_565)) ?_
  refine al_cons (eok_pure (pr_iconst dL_law_567 (by decide))) ?_
  refine al_cons (eok_pure (pr_iadd dL_law_568)) ?_
  refine al_cons (ok_sld hG hB dL_law_569) ?_
  refine al_cons (ok_callV hok mi_83 cl_X7 w_789 w_790 w_791 w_72 w_792 na_83 (by decide) dL_law_570) ?_
  refine al_cons (eok_pure (pr_pop dL_law_573)) ?_
  refine al_cons (eok_pure (pr_aload_n dL_law_574 rfl)) ?_
  refine al_cons (eok_pure (pr_aload_n dL_law_575 rfl)) ?_
  refine al_cons (eok_pure (pr_iload dL_law_576)) ?_
  refine al_cons (eok_pure (pr_iconst dL_law_578 (by decide))) ?_
  refine al_cons (eok_pure (pr_iadd dL_law_579)) ?_
  refine al_cons (ok_sld hG hB dL_law_580) ?_
  refine al_cons (eok_pure (pr_aload_n dL_law_581 rfl)) ?_
  refine al_cons (eok_pure (pr_iload dL_law_582)) ?_
  refine al_cons (eok_pure (pr_iconst dL_law_584 (by decide))) ?_
  refine al_cons (eok_pure (pr_iadd dL_law_585)) ?_
  refine al_cons (ok_sld hG hB dL_law_586) ?_
  refine al_cons (ok_callV hok mi_155 cl_X8 w_1256 w_1257 w_1258 w_82 w_1259 na_155 (by decide) dL_law_587) ?_
  refine al_cons (eok_pure (pr_pop dL_law_590)) ?_
  refine al_cons (eok_pure (pr_goto dL_law_591 (by decide))) ?_
  refine al_cons (eok_pure (pr_aload_n dL_law_594 rfl)) ?_
  refine al_cons (eok_pure (pr_aload_n dL_law_595 rfl)) ?_
  refine al_cons (eok_pure (pr_iload dL_law_596)) ?_
  refine al_cons (eok_pure (pr_iconst dL_law_598 (by decide))) ?_
  refine al_cons (eok_pure (pr_iadd dL_law_599)) ?_
  refine al_cons (ok_sld hG hB dL_law_600) ?_
  refine al_cons (ok_callV hok mi_84 cl_X7 w_810 w_811 w_812 w_72 w_813 na_84 (by decide) dL_law_601) ?_
  refine al_cons (eok_pure (pr_pop dL_law_604)) ?_
  refine al_cons (eok_pure (pr_aload_n dL_law_605 rfl)) ?_
  refine al_cons (eok_pure (pr_aload_n dL_law_606 rfl)) ?_
  refine al_cons (eok_pure (pr_iload dL_law_607)) ?_
  refine al_cons (eok_pure (pr_iconst dL_law_609 (by decide))) ?_
  refine al_cons (eok_pure (pr_iadd dL_law_610)) ?_
  refine al_cons (ok_sld hG hB dL_law_611) ?_
  refine al_cons (ok_callV hok mi_156 cl_X8 w_1264 w_1265 w_1266 w_82 w_1267 na_156 (by decide) dL_law_612) ?_
  refine al_cons (eok_pure (pr_pop dL_law_615)) ?_
  refine al_cons (eok_pure (pr_goto dL_law_616 (by decide))) ?_
  refine al_cons (eok_pure (pr_aload_n dL_law_619 rfl)) ?_
  refine al_cons (eok_pure (pr_aload_n dL_law_620 rfl)) ?_
  refine al_cons (eok_pure (pr_iload dL_law_621)) ?_
  refine al_cons (eok_pure (pr_iconst dL_law_623 (by decide))) ?_
  refine al_cons (eok_pure (pr_iadd dL_law_624)) ?_
  refine al_cons (ok_sld hG hB dL_law_625) ?_
  refine al_cons (eok_pure (pr_aload_n dL_law_626 rfl)) ?_
  refine al_cons (eok_pure (pr_iload dL_law_627)) ?_
  refine al_cons (eok_pure (pr_iconst dL_law_629 (by decide))) ?_
  refine al_cons (eok_pure (pr_iadd dL_law_630)) ?_
  refine al_cons (ok_sld hG hB dL_law_631) ?_
  refine al_cons (ok_callV hok mi_85 cl_X7 w_815 w_816 w_817 w_72 w_818 na_85 (by decide) dL_law_632) ?_
  refine al_cons (eok_pure (pr_pop dL_law_635)) ?_
  refine al_cons (eok_pure (pr_aload_n dL_law_636 rfl)) ?_
  refine al_cons (eok_pure (pr_aload_n dL_law_637 rfl)) ?_
  refine al_cons (eok_pure (pr_iload dL_law_638)) ?_
  refine al_cons (eok_pure (pr_iconst dL_law_640 (by decide))) ?_
  refine al_cons (eok_pure (pr_iadd dL_law_641)) ?_
  refine al_cons (ok_sld hG hB dL_law_642) ?_
  refine al_cons (eok_pure (pr_aload_n dL_law_643 rfl)) ?_
  refine al_cons (eok_pure (pr_iload dL_law_644)) ?_
  refine al_cons (eok_pure (pr_iconst dL_law_646 (by decide))) ?_
  refine al_cons (eok_pure (pr_iadd dL_law_647)) ?_
  refine al_cons (ok_sld hG hB dL_law_648) ?_
  refine al_cons (ok_callV hok mi_158 cl_X8 w_1268 w_1269 w_1270 w_82 w_1271 na_158 (by decide) dL_law_649) ?_
  refine al_cons (eok_pure (pr_pop dL_law_652)) ?_
  refine al_cons (eok_pure (pr_goto dL_law_653 (by decide))) ?_
  refine al_cons (eok_pure (pr_aload_n dL_law_656 rfl)) ?_
  refine al_cons (ok_callV hok mi_86 cl_X7 w_820 w_821 w_822 w_72 w_823 na_86 (by decide) dL_law_657) ?_
  refine al_cons (eok_pure (pr_pop dL_law_660)) ?_
  refine al_cons (eok_pure (pr_aload_n dL_law_661 rfl)) ?_
  refine al_cons (ok_callV hok mi_159 cl_X8 w_1276 w_1277 w_1278 w_82 w_1279 na_159 (by decide) dL_law_662) ?_
  refine al_cons (eok_pure (pr_pop dL_law_665)) ?_
  refine al_cons (eok_pure (pr_goto dL_law_666 (by decide))) ?_
  refine al_cons (eok_pure (pr_aload_n dL_law_669 rfl)) ?_
  refine al_cons (eok_pure (pr_aload_n dL_law_670 rfl)) ?_
  refine al_cons (eok_pure (pr_iload dL_law_671)) ?_
  refine al_cons (eok_pure (pr_iconst dL_law_673 (by decide))) ?_
  refine al_cons (eok_pure (pr_iadd dL_law_674)) ?_
  refine al_cons (ok_sld hG hB dL_law_675) ?_
  refine al_cons (eok_pure (pr_aload_n dL_law_676 rfl)) ?_
  refine al_cons (eok_pure (pr_iload dL_law_677)) ?_
  refine al_cons (eok_pure (pr_iconst dL_law_679 (by decide))) ?_
  refine al_cons (eok_pure (pr_iadd dL_law_680)) ?_
  refine al_cons (ok_sld hG hB dL_law_681) ?_
  refine al_cons (ok_callV hok mi_87 cl_X7 w_824 w_825 w_826 w_72 w_827 na_87 (by decide) dL_law_682) ?_
  refine al_cons (eok_pure (pr_pop dL_law_685)) ?_
  refine al_cons (eok_pure (pr_aload_n dL_law_686 rfl)) ?_
  refine al_cons (eok_pure (pr_aload_n dL_law_687 rfl)) ?_
  refine al_cons (eok_pure (pr_iload dL_law_688)) ?_
  refine al_cons (eok_pure (pr_iconst dL_law_690 (by decide))) ?_
  refine al_cons (eok_pure (pr_iadd dL_law_691)) ?_
  refine al_cons (ok_sld hG hB dL_law_692) ?_
  refine al_cons (eok_pure (pr_aload_n dL_law_693 rfl)) ?_
  refine al_cons (eok_pure (pr_iload dL_law_694)) ?_
  refine al_cons (eok_pure (pr_iconst dL_law_696 (by decide))) ?_
  refine al_cons (eok_pure (pr_iadd dL_law_697)) ?_
  refine al_cons (ok_sld hG hB dL_law_698) ?_
  refine al_cons (ok_callV hok mi_161 cl_X8 w_1280 w_1281 w_1282 w_82 w_1283 na_161 (by decide) dL_law_699) ?_
  refine al_cons (eok_pure (pr_pop dL_law_702)) ?_
  refine al_cons (eok_pure (pr_goto dL_law_703 (by decide))) ?_
  refine al_cons (eok_pure (pr_aload_n dL_law_706 rfl)) ?_
  refine al_cons (eok_pure (pr_aload_n dL_law_707 rfl)) ?_
  refine al_cons (eok_pure (pr_iload dL_law_708)) ?_
  refine al_cons (eok_pure (pr_iconst dL_law_710 (by decide))) ?_
  refine al_cons (eok_pure (pr_iadd dL_law_711)) ?_
  refine al_cons (ok_sld hG hB dL_law_712) ?_
  refine al_cons (ok_callV hok mi_88 cl_X7 w_837 w_838 w_839 w_72 w_840 na_88 (by decide) dL_law_713) ?_
  refine al_cons (eok_pure (pr_pop dL_law_716)) ?_
  refine al_cons (eok_pure (pr_aload_n dL_law_717 rfl)) ?_
  refine al_cons (eok_pure (pr_aload_n dL_law_718 rfl)) ?_
  refine al_cons (eok_pure (pr_iload dL_law_719)) ?_
  refine al_cons (eok_pure (pr_iconst dL_law_721 (by decide))) ?_
  refine al_cons (eok_pure (pr_iadd dL_law_722)) ?_
  refine al_cons (ok_sld hG hB dL_law_723) ?_
  refine al_cons (ok_callV hok mi_162 cl_X8 w_1288 w_1289 w_1290 w_82 w_1291 na_162 (by decide) dL_law_724) ?_
  refine al_cons (eok_pure (pr_pop dL_law_727)) ?_
  refine al_cons (eok_pure (pr_goto dL_law_728 (by decide))) ?_
  refine al_cons (eok_pure (pr_aload_n dL_law_731 rfl)) ?_
  refine al_cons (eok_pure (pr_aload_n dL_law_732 rfl)) ?_
  refine al_cons (eok_pure (pr_iload dL_law_733)) ?_
  refine al_cons (eok_pure (pr_iconst dL_law_735 (by decide))) ?_
  refine al_cons (eok_pure (pr_iadd dL_law_736)) ?_
  refine al_cons (ok_sld hG hB dL_law_737) ?_
  refine al_cons (ok_callV hok mi_89 cl_X7 w_842 w_843 w_844 w_72 w_845 na_89 (by decide) dL_law_738) ?_
  refine al_cons (eok_pure (pr_pop dL_law_741)) ?_
  refine al_cons (eok_pure (pr_aload_n dL_law_742 rfl)) ?_
  refine al_cons (eok_pure (pr_aload_n dL_law_743 rfl)) ?_
  refine al_cons (eok_pure (pr_iload dL_law_744)) ?_
  refine al_cons (eok_pure (pr_iconst dL_law_746 (by decide))) ?_
  refine al_cons (eok_pure (pr_iadd dL_law_747)) ?_
  refine al_cons (ok_sld hG hB dL_law_748) ?_
  refine al_cons (ok_callV hok mi_163 cl_X8 w_1292 w_1293 w_1294 w_82 w_1295 na_163 (by decide) dL_law_749) ?_
  refine al_cons (eok_pure (pr_pop dL_law_752)) ?_
  refine al_cons (eok_pure (pr_goto dL_law_753 (by decide))) ?_
  refine al_cons (eok_pure (pr_aload_n dL_law_756 rfl)) ?_
  refine al_cons (ok_callV hok mi_90 cl_X7 w_846 w_847 w_848 w_72 w_849 na_90 (by decide) dL_law_757) ?_
  refine al_cons (eok_pure (pr_aload_n dL_law_760 rfl)) ?_
  refine al_cons (ok_callV hok mi_164 cl_X8 w_1296 w_1297 w_1298 w_82 w_1299 na_164 (by decide) dL_law_761) ?_
  refine al_cons (eok_pure (pr_icmp_eq dL_law_764 (by decide))) ?_
  refine al_cons (eok_pure (pr_iconst dL_law_767 (by decide))) ?_
  refine al_cons (ok_retZ rfl dL_law_768) ?_
  refine al_cons (eok_pure (pr_iinc dL_law_769 (by decide))) ?_
  refine al_cons (eok_pure (pr_goto dL_law_772 (by decide))) ?_
  refine al_cons (eok_pure (pr_iconst dL_law_775 (by decide))) ?_
  refine al_cons (ok_retZ rfl dL_law_776) ?_
  exact al_nil
