/-- the words of the tables that go along with any call -/
def AW : List Cond := lw_tbl.filter goodWord
theorem AW_good {w : Cond} (h : w ∈ AW) : goodWord w = true := (List.mem_filter.mp h).2
theorem aw_in {i : Nat} {w : Cond} (h : lw_tbl[i]? = some w) (g : goodWord w = true) : w ∈ AW := List.mem_filter.mpr ⟨List.mem_of_getElem? h, g⟩
def isNest : Cond → Bool
  | .fieldLinkNest .. => true
  | .methodLinkNest .. => true
  | .castable .. => true
  | .declares .. => true
  | _ => false
def NWL : List Cond := lw_tbl.filter isNest
theorem nw_in {i : Nat} {w : Cond} (h : lw_tbl[i]? = some w) (g : isNest w = true) : w ∈ NWL := List.mem_filter.mpr ⟨List.mem_of_getElem? h, g⟩
theorem qs_yX3_takeBack : Cond.selects (yX3_takeBack : MethodName).cls yX3_takeBack yX3_takeBack ∈ AW := aw_in (i := 1) (by decide +kernel) rfl
theorem qs_yX3_newest : Cond.selects (yX3_newest : MethodName).cls yX3_newest yX3_newest ∈ AW := aw_in (i := 2) (by decide +kernel) rfl
theorem qs_yX6_copyFrom : Cond.selects (yX6_copyFrom : MethodName).cls yX6_copyFrom yX6_copyFrom ∈ AW := aw_in (i := 3) (by decide +kernel) rfl
theorem qs_yX6_at : Cond.selects (yX6_at : MethodName).cls yX6_at yX6_at ∈ AW := aw_in (i := 4) (by decide +kernel) rfl
theorem qs_yX11_requireDay : Cond.selects (yX11_requireDay : MethodName).cls yX11_requireDay yX11_requireDay ∈ AW := aw_in (i := 5) (by decide +kernel) rfl
theorem qs_yX6_hasDay : Cond.selects (yX6_hasDay : MethodName).cls yX6_hasDay yX6_hasDay ∈ AW := aw_in (i := 6) (by decide +kernel) rfl
theorem qs_yX11_requireStop : Cond.selects (yX11_requireStop : MethodName).cls yX11_requireStop yX11_requireStop ∈ AW := aw_in (i := 7) (by decide +kernel) rfl
theorem qs_yX3_save : Cond.selects (yX3_save : MethodName).cls yX3_save yX3_save ∈ AW := aw_in (i := 8) (by decide +kernel) rfl
theorem qs_yX6_add : Cond.selects (yX6_add : MethodName).cls yX6_add yX6_add ∈ AW := aw_in (i := 9) (by decide +kernel) rfl
theorem qs_yX6_put : Cond.selects (yX6_put : MethodName).cls yX6_put yX6_put ∈ AW := aw_in (i := 10) (by decide +kernel) rfl
theorem qs_yX6_drop : Cond.selects (yX6_drop : MethodName).cls yX6_drop yX6_drop ∈ AW := aw_in (i := 11) (by decide +kernel) rfl
theorem qs_yX2_byRow : Cond.selects (yX2_byRow : MethodName).cls yX2_byRow yX2_byRow ∈ AW := aw_in (i := 12) (by decide +kernel) rfl
theorem qs_yX2_enter : Cond.selects (yX2_enter : MethodName).cls yX2_enter yX2_enter ∈ AW := aw_in (i := 13) (by decide +kernel) rfl
theorem qs_yX2_candidate : Cond.selects (yX2_candidate : MethodName).cls yX2_candidate yX2_candidate ∈ AW := aw_in (i := 14) (by decide +kernel) rfl
theorem qs_yX2_leave : Cond.selects (yX2_leave : MethodName).cls yX2_leave yX2_leave ∈ AW := aw_in (i := 15) (by decide +kernel) rfl
theorem qs_yX9_runTo : Cond.selects (yX9_runTo : MethodName).cls yX9_runTo yX9_runTo ∈ AW := aw_in (i := 16) (by decide +kernel) rfl
theorem qs_yX9_start : Cond.selects (yX9_start : MethodName).cls yX9_start yX9_start ∈ AW := aw_in (i := 17) (by decide +kernel) rfl
theorem qs_yX9_pass : Cond.selects (yX9_pass : MethodName).cls yX9_pass yX9_pass ∈ AW := aw_in (i := 18) (by decide +kernel) rfl
theorem qs_yX9_valueAt : Cond.selects (yX9_valueAt : MethodName).cls yX9_valueAt yX9_valueAt ∈ AW := aw_in (i := 19) (by decide +kernel) rfl
theorem qs_yX11_requirePrices : Cond.selects (yX11_requirePrices : MethodName).cls yX11_requirePrices yX11_requirePrices ∈ AW := aw_in (i := 20) (by decide +kernel) rfl
theorem qs_yX6_partOf : Cond.selects (yX6_partOf : MethodName).cls yX6_partOf yX6_partOf ∈ AW := aw_in (i := 21) (by decide +kernel) rfl
theorem q0 : Cond.initialized "PriceIronsLaw" ∈ AW := aw_in (i := 22) (by decide +kernel) rfl
theorem q1 : Cond.initialized "PriceIrons" ∈ AW := aw_in (i := 23) (by decide +kernel) rfl
theorem q2 : Cond.initialized "PriceIrons$State" ∈ AW := aw_in (i := 24) (by decide +kernel) rfl
theorem q3 : Cond.initialized "PriceIrons$History" ∈ AW := aw_in (i := 25) (by decide +kernel) rfl
theorem q4 : Cond.initialized "PriceIrons$Text" ∈ AW := aw_in (i := 26) (by decide +kernel) rfl
theorem q5 : Cond.initialized "PriceIrons$Syntax" ∈ AW := aw_in (i := 27) (by decide +kernel) rfl
theorem q6 : Cond.initialized "PriceIrons$Works" ∈ AW := aw_in (i := 28) (by decide +kernel) rfl
theorem q7 : Cond.initialized "PriceIrons$Highs" ∈ AW := aw_in (i := 29) (by decide +kernel) rfl
theorem q8 : Cond.initialized "PriceIrons$Trade" ∈ AW := aw_in (i := 30) (by decide +kernel) rfl
theorem q9 : Cond.initialized "PriceIrons$Creases" ∈ AW := aw_in (i := 31) (by decide +kernel) rfl
theorem q10 : Cond.initialized "PriceIrons$Means" ∈ AW := aw_in (i := 32) (by decide +kernel) rfl
theorem q11 : Cond.initialized "java/lang/Math" ∈ AW := aw_in (i := 33) (by decide +kernel) rfl
theorem q12 : Cond.initialized "java/lang/Throwable" ∈ AW := aw_in (i := 34) (by decide +kernel) rfl
theorem q13 : Cond.initialized "java/lang/Exception" ∈ AW := aw_in (i := 35) (by decide +kernel) rfl
theorem q14 : Cond.initialized "java/lang/RuntimeException" ∈ AW := aw_in (i := 36) (by decide +kernel) rfl
theorem q15 : Cond.initialized "java/lang/IndexOutOfBoundsException" ∈ AW := aw_in (i := 37) (by decide +kernel) rfl
theorem q16 : Cond.initialized "java/lang/IllegalStateException" ∈ AW := aw_in (i := 38) (by decide +kernel) rfl
theorem q17 : Cond.initialized "java/lang/IllegalArgumentException" ∈ AW := aw_in (i := 39) (by decide +kernel) rfl
theorem q18 : Cond.initialized "java/lang/System" ∈ AW := aw_in (i := 40) (by decide +kernel) rfl
theorem q19 : Cond.initialized "PriceIrons$Forecasts" ∈ AW := aw_in (i := 41) (by decide +kernel) rfl
theorem q20 : Cond.initialized "PriceIrons$Seasons" ∈ AW := aw_in (i := 42) (by decide +kernel) rfl
theorem q21 : Cond.classLink RL 13 "PriceIrons" ∈ AW := aw_in (i := 43) (by decide +kernel) rfl
theorem q22 : Cond.instantiable RX11 9 ∈ AW := aw_in (i := 44) (by decide +kernel) rfl
theorem q23 : Cond.methodLink RL 137 yX11_init ∈ AW := aw_in (i := 45) (by decide +kernel) rfl
theorem qi_yX11_init : Cond.instanceMethod yX11_init ∈ AW := aw_in (i := 46) (by decide +kernel) rfl
theorem qc_yX11_init : Cond.code yX11_init prog_1_method_1_code 1 (Option.none : Option FieldType) ∈ AW := aw_in (i := 47) (by decide +kernel) rfl
theorem q26 : Cond.methodLink RX11 1 (⟨"java/lang/Object", "<init>", "()V"⟩ : MethodName) ∈ AW := aw_in (i := 48) (by decide +kernel) rfl
theorem q27 : Cond.instanceMethod (⟨"java/lang/Object", "<init>", "()V"⟩ : MethodName) ∈ AW := aw_in (i := 49) (by decide +kernel) rfl
theorem q28 : Cond.code (⟨"java/lang/Object", "<init>", "()V"⟩ : MethodName) object_method_1_code 1 (Option.none : Option FieldType) ∈ AW := aw_in (i := 50) (by decide +kernel) rfl
theorem q29 : Cond.classLink RX11 7 "PriceIrons$State" ∈ AW := aw_in (i := 51) (by decide +kernel) rfl
theorem q30 : Cond.instantiable RX6 10 ∈ AW := aw_in (i := 52) (by decide +kernel) rfl
theorem n31 : Cond.methodLinkNest RX11 9 yX6_init "PriceIrons" ∈ NWL := nw_in (i := 53) (by decide +kernel) rfl
theorem qi_yX6_init : Cond.instanceMethod yX6_init ∈ AW := aw_in (i := 54) (by decide +kernel) rfl
theorem qc_yX6_init : Cond.code yX6_init prog_8_method_1_code 1 (Option.none : Option FieldType) ∈ AW := aw_in (i := 55) (by decide +kernel) rfl
theorem q34 : Cond.methodLink RX6 3 (⟨"java/lang/Object", "<init>", "()V"⟩ : MethodName) ∈ AW := aw_in (i := 56) (by decide +kernel) rfl
theorem q35 : Cond.fieldLink RX6 9 "PriceIrons$State" "row" "[I" ∈ AW := aw_in (i := 57) (by decide +kernel) rfl
theorem q36 : Cond.fieldLink RX6 15 "PriceIrons$State" "length" "I" ∈ AW := aw_in (i := 58) (by decide +kernel) rfl
theorem n37 : Cond.fieldLinkNest RX11 65 "PriceIrons$State" "length" "I" "PriceIrons" ∈ NWL := nw_in (i := 59) (by decide +kernel) rfl
theorem n38 : Cond.fieldLinkNest RX1 47 "PriceIrons$State" "length" "I" "PriceIrons" ∈ NWL := nw_in (i := 60) (by decide +kernel) rfl
theorem n39 : Cond.fieldLinkNest RX0 37 "PriceIrons$State" "length" "I" "PriceIrons" ∈ NWL := nw_in (i := 61) (by decide +kernel) rfl
theorem n40 : Cond.fieldLinkNest RX9 39 "PriceIrons$State" "length" "I" "PriceIrons" ∈ NWL := nw_in (i := 62) (by decide +kernel) rfl
theorem n41 : Cond.fieldLinkNest RX2 53 "PriceIrons$State" "length" "I" "PriceIrons" ∈ NWL := nw_in (i := 63) (by decide +kernel) rfl
theorem q42 : Cond.fieldLink RX6 19 "PriceIrons$State" "shorter" "I" ∈ AW := aw_in (i := 64) (by decide +kernel) rfl
theorem n43 : Cond.fieldLinkNest RX0 7 "PriceIrons$State" "shorter" "I" "PriceIrons" ∈ NWL := nw_in (i := 65) (by decide +kernel) rfl
theorem n44 : Cond.fieldLinkNest RX1 37 "PriceIrons$State" "shorter" "I" "PriceIrons" ∈ NWL := nw_in (i := 66) (by decide +kernel) rfl
theorem n45 : Cond.fieldLinkNest RX9 25 "PriceIrons$State" "shorter" "I" "PriceIrons" ∈ NWL := nw_in (i := 67) (by decide +kernel) rfl
theorem n46 : Cond.fieldLinkNest RX11 124 "PriceIrons$State" "shorter" "I" "PriceIrons" ∈ NWL := nw_in (i := 68) (by decide +kernel) rfl
theorem q47 : Cond.fieldLink RX6 22 "PriceIrons$State" "longer" "I" ∈ AW := aw_in (i := 69) (by decide +kernel) rfl
theorem n48 : Cond.fieldLinkNest RX2 22 "PriceIrons$State" "longer" "I" "PriceIrons" ∈ NWL := nw_in (i := 70) (by decide +kernel) rfl
theorem n49 : Cond.fieldLinkNest RX1 41 "PriceIrons$State" "longer" "I" "PriceIrons" ∈ NWL := nw_in (i := 71) (by decide +kernel) rfl
theorem n50 : Cond.fieldLinkNest RX9 36 "PriceIrons$State" "longer" "I" "PriceIrons" ∈ NWL := nw_in (i := 72) (by decide +kernel) rfl
theorem n51 : Cond.fieldLinkNest RX11 121 "PriceIrons$State" "longer" "I" "PriceIrons" ∈ NWL := nw_in (i := 73) (by decide +kernel) rfl
theorem q52 : Cond.fieldLink RX6 25 "PriceIrons$State" "memory" "I" ∈ AW := aw_in (i := 74) (by decide +kernel) rfl
theorem n53 : Cond.fieldLinkNest RX4 35 "PriceIrons$State" "memory" "I" "PriceIrons" ∈ NWL := nw_in (i := 75) (by decide +kernel) rfl
theorem n54 : Cond.fieldLinkNest RX11 127 "PriceIrons$State" "memory" "I" "PriceIrons" ∈ NWL := nw_in (i := 76) (by decide +kernel) rfl
theorem q55 : Cond.fieldLink RX6 28 "PriceIrons$State" "limit" "I" ∈ AW := aw_in (i := 77) (by decide +kernel) rfl
theorem n56 : Cond.fieldLinkNest RX0 34 "PriceIrons$State" "limit" "I" "PriceIrons" ∈ NWL := nw_in (i := 78) (by decide +kernel) rfl
theorem n57 : Cond.fieldLinkNest RX11 130 "PriceIrons$State" "limit" "I" "PriceIrons" ∈ NWL := nw_in (i := 79) (by decide +kernel) rfl
theorem q58 : Cond.fieldLink RX6 31 "PriceIrons$State" "seasonDays" "I" ∈ AW := aw_in (i := 80) (by decide +kernel) rfl
theorem n59 : Cond.fieldLinkNest RX11 133 "PriceIrons$State" "seasonDays" "I" "PriceIrons" ∈ NWL := nw_in (i := 81) (by decide +kernel) rfl
theorem q60 : Cond.fieldLink RX6 34 "PriceIrons$State" "stopped" "Z" ∈ AW := aw_in (i := 82) (by decide +kernel) rfl
theorem n61 : Cond.fieldLinkNest RX11 157 "PriceIrons$State" "stopped" "Z" "PriceIrons" ∈ NWL := nw_in (i := 83) (by decide +kernel) rfl
theorem q62 : Cond.fieldLink RX6 38 "PriceIrons$State" "stopPart" "I" ∈ AW := aw_in (i := 84) (by decide +kernel) rfl
theorem n63 : Cond.fieldLinkNest RX11 163 "PriceIrons$State" "stopPart" "I" "PriceIrons" ∈ NWL := nw_in (i := 85) (by decide +kernel) rfl
theorem q64 : Cond.fieldLink RX6 41 "PriceIrons$State" "stopReason" "I" ∈ AW := aw_in (i := 86) (by decide +kernel) rfl
theorem n65 : Cond.fieldLinkNest RX11 166 "PriceIrons$State" "stopReason" "I" "PriceIrons" ∈ NWL := nw_in (i := 87) (by decide +kernel) rfl
theorem q87 : Cond.arrayClass FieldType.int ∈ AW := aw_in (i := 109) (by decide +kernel) rfl
theorem q88 : Cond.classLink RX11 26 "PriceIrons$History" ∈ AW := aw_in (i := 110) (by decide +kernel) rfl
theorem q89 : Cond.instantiable RX3 3 ∈ AW := aw_in (i := 111) (by decide +kernel) rfl
theorem n90 : Cond.methodLinkNest RX11 28 yX3_init "PriceIrons" ∈ NWL := nw_in (i := 112) (by decide +kernel) rfl
theorem qi_yX3_init : Cond.instanceMethod yX3_init ∈ AW := aw_in (i := 113) (by decide +kernel) rfl
theorem qc_yX3_init : Cond.code yX3_init prog_5_method_1_code 2 (Option.none : Option FieldType) ∈ AW := aw_in (i := 114) (by decide +kernel) rfl
theorem q93 : Cond.methodLink RX3 3 (⟨"java/lang/Object", "<init>", "()V"⟩ : MethodName) ∈ AW := aw_in (i := 115) (by decide +kernel) rfl
theorem q94 : Cond.classLink RX3 9 "PriceIrons$State" ∈ AW := aw_in (i := 116) (by decide +kernel) rfl
theorem n96 : Cond.methodLinkNest RX3 24 yX6_init "PriceIrons" ∈ NWL := nw_in (i := 118) (by decide +kernel) rfl
theorem q97 : Cond.fieldLink RX3 11 "PriceIrons$History" "ring" "[LPriceIrons$State;" ∈ AW := aw_in (i := 119) (by decide +kernel) rfl
theorem q98 : Cond.fieldLink RX3 17 "PriceIrons$History" "oldest" "I" ∈ AW := aw_in (i := 120) (by decide +kernel) rfl
theorem q99 : Cond.fieldLink RX3 21 "PriceIrons$History" "count" "I" ∈ AW := aw_in (i := 121) (by decide +kernel) rfl
theorem n100 : Cond.fieldLinkNest RX11 169 "PriceIrons$History" "count" "I" "PriceIrons" ∈ NWL := nw_in (i := 122) (by decide +kernel) rfl
theorem q108 : Cond.classLink RX11 33 "PriceIrons$Text" ∈ AW := aw_in (i := 130) (by decide +kernel) rfl
theorem q109 : Cond.instantiable RX8 3 ∈ AW := aw_in (i := 131) (by decide +kernel) rfl
theorem n110 : Cond.methodLinkNest RX11 35 yX8_init "PriceIrons" ∈ NWL := nw_in (i := 132) (by decide +kernel) rfl
theorem qi_yX8_init : Cond.instanceMethod yX8_init ∈ AW := aw_in (i := 133) (by decide +kernel) rfl
theorem qc_yX8_init : Cond.code yX8_init prog_10_method_1_code 1 (Option.none : Option FieldType) ∈ AW := aw_in (i := 134) (by decide +kernel) rfl
theorem q113 : Cond.methodLink RX8 3 (⟨"java/lang/Object", "<init>", "()V"⟩ : MethodName) ∈ AW := aw_in (i := 135) (by decide +kernel) rfl
theorem q114 : Cond.classLink RX8 19 "PriceIrons$Syntax" ∈ AW := aw_in (i := 136) (by decide +kernel) rfl
theorem q115 : Cond.instantiable RX7 4 ∈ AW := aw_in (i := 137) (by decide +kernel) rfl
theorem n116 : Cond.methodLinkNest RX8 21 yX7_init "PriceIrons" ∈ NWL := nw_in (i := 138) (by decide +kernel) rfl
theorem qi_yX7_init : Cond.instanceMethod yX7_init ∈ AW := aw_in (i := 139) (by decide +kernel) rfl
theorem qc_yX7_init : Cond.code yX7_init prog_9_method_1_code 1 (Option.none : Option FieldType) ∈ AW := aw_in (i := 140) (by decide +kernel) rfl
theorem q119 : Cond.methodLink RX7 3 (⟨"java/lang/Object", "<init>", "()V"⟩ : MethodName) ∈ AW := aw_in (i := 141) (by decide +kernel) rfl
theorem q120 : Cond.fieldLink RX7 9 "PriceIrons$Syntax" "letter" "I" ∈ AW := aw_in (i := 142) (by decide +kernel) rfl
theorem q121 : Cond.fieldLink RX7 15 "PriceIrons$Syntax" "field" "I" ∈ AW := aw_in (i := 143) (by decide +kernel) rfl
theorem q122 : Cond.fieldLink RX7 18 "PriceIrons$Syntax" "digits" "I" ∈ AW := aw_in (i := 144) (by decide +kernel) rfl
theorem q123 : Cond.fieldLink RX7 21 "PriceIrons$Syntax" "value" "I" ∈ AW := aw_in (i := 145) (by decide +kernel) rfl
theorem q133 : Cond.fieldLink RX8 9 "PriceIrons$Text" "codes" "[I" ∈ AW := aw_in (i := 155) (by decide +kernel) rfl
theorem q134 : Cond.fieldLink RX8 15 "PriceIrons$Text" "length" "I" ∈ AW := aw_in (i := 156) (by decide +kernel) rfl
theorem q135 : Cond.fieldLink RX8 22 "PriceIrons$Text" "syntax" "LPriceIrons$Syntax;" ∈ AW := aw_in (i := 157) (by decide +kernel) rfl
theorem q143 : Cond.classLink RX11 40 "PriceIrons$Works" ∈ AW := aw_in (i := 165) (by decide +kernel) rfl
theorem q144 : Cond.instantiable RX10 3 ∈ AW := aw_in (i := 166) (by decide +kernel) rfl
theorem n145 : Cond.methodLinkNest RX11 42 yX10_init "PriceIrons" ∈ NWL := nw_in (i := 167) (by decide +kernel) rfl
theorem qi_yX10_init : Cond.instanceMethod yX10_init ∈ AW := aw_in (i := 168) (by decide +kernel) rfl
theorem qc_yX10_init : Cond.code yX10_init prog_12_method_1_code 1 (Option.none : Option FieldType) ∈ AW := aw_in (i := 169) (by decide +kernel) rfl
theorem q148 : Cond.methodLink RX10 3 (⟨"java/lang/Object", "<init>", "()V"⟩ : MethodName) ∈ AW := aw_in (i := 170) (by decide +kernel) rfl
theorem q149 : Cond.fieldLink RX10 9 "PriceIrons$Works" "letter" "I" ∈ AW := aw_in (i := 171) (by decide +kernel) rfl
theorem q150 : Cond.fieldLink RX10 15 "PriceIrons$Works" "numbers" "[I" ∈ AW := aw_in (i := 172) (by decide +kernel) rfl
theorem q151 : Cond.fieldLink RX10 19 "PriceIrons$Works" "count" "I" ∈ AW := aw_in (i := 173) (by decide +kernel) rfl
theorem q159 : Cond.classLink RX11 47 "PriceIrons$Highs" ∈ AW := aw_in (i := 181) (by decide +kernel) rfl
theorem q160 : Cond.instantiable RX2 3 ∈ AW := aw_in (i := 182) (by decide +kernel) rfl
theorem n161 : Cond.methodLinkNest RX11 49 yX2_init "PriceIrons" ∈ NWL := nw_in (i := 183) (by decide +kernel) rfl
theorem qi_yX2_init : Cond.instanceMethod yX2_init ∈ AW := aw_in (i := 184) (by decide +kernel) rfl
theorem qc_yX2_init : Cond.code yX2_init prog_4_method_1_code 1 (Option.none : Option FieldType) ∈ AW := aw_in (i := 185) (by decide +kernel) rfl
theorem q164 : Cond.methodLink RX2 3 (⟨"java/lang/Object", "<init>", "()V"⟩ : MethodName) ∈ AW := aw_in (i := 186) (by decide +kernel) rfl
theorem q165 : Cond.fieldLink RX2 9 "PriceIrons$Highs" "candidates" "[I" ∈ AW := aw_in (i := 187) (by decide +kernel) rfl
theorem q166 : Cond.fieldLink RX2 15 "PriceIrons$Highs" "front" "I" ∈ AW := aw_in (i := 188) (by decide +kernel) rfl
theorem q167 : Cond.fieldLink RX2 19 "PriceIrons$Highs" "end" "I" ∈ AW := aw_in (i := 189) (by decide +kernel) rfl
theorem q175 : Cond.classLink RX11 54 "PriceIrons$Trade" ∈ AW := aw_in (i := 197) (by decide +kernel) rfl
theorem q176 : Cond.instantiable RX9 2 ∈ AW := aw_in (i := 198) (by decide +kernel) rfl
theorem n177 : Cond.methodLinkNest RX11 56 yX9_init "PriceIrons" ∈ NWL := nw_in (i := 199) (by decide +kernel) rfl
theorem qi_yX9_init : Cond.instanceMethod yX9_init ∈ AW := aw_in (i := 200) (by decide +kernel) rfl
theorem qc_yX9_init : Cond.code yX9_init prog_11_method_1_code 1 (Option.none : Option FieldType) ∈ AW := aw_in (i := 201) (by decide +kernel) rfl
theorem q180 : Cond.methodLink RX9 3 (⟨"java/lang/Object", "<init>", "()V"⟩ : MethodName) ∈ AW := aw_in (i := 202) (by decide +kernel) rfl
theorem q181 : Cond.constantLong RX9 9 (10000 : Int64) ∈ AW := aw_in (i := 203) (by decide +kernel) rfl
theorem q182 : Cond.fieldLink RX9 11 "PriceIrons$Trade" "coins" "J" ∈ AW := aw_in (i := 204) (by decide +kernel) rfl
theorem q183 : Cond.fieldLink RX9 17 "PriceIrons$Trade" "held" "I" ∈ AW := aw_in (i := 205) (by decide +kernel) rfl
theorem n184 : Cond.fieldLinkNest RX11 222 "PriceIrons$Trade" "held" "I" "PriceIrons" ∈ NWL := nw_in (i := 206) (by decide +kernel) rfl
theorem q190 : Cond.fieldLink RX11 10 "PriceIrons" "now" "LPriceIrons$State;" ∈ AW := aw_in (i := 212) (by decide +kernel) rfl
theorem q191 : Cond.fieldLink RX11 16 "PriceIrons" "trial" "LPriceIrons$State;" ∈ AW := aw_in (i := 213) (by decide +kernel) rfl
theorem q192 : Cond.fieldLink RX11 19 "PriceIrons" "snapshot" "LPriceIrons$State;" ∈ AW := aw_in (i := 214) (by decide +kernel) rfl
theorem q193 : Cond.fieldLink RX11 22 "PriceIrons" "snapshotTaken" "Z" ∈ AW := aw_in (i := 215) (by decide +kernel) rfl
theorem q194 : Cond.fieldLink RX11 29 "PriceIrons" "history" "LPriceIrons$History;" ∈ AW := aw_in (i := 216) (by decide +kernel) rfl
theorem q195 : Cond.fieldLink RX11 36 "PriceIrons" "text" "LPriceIrons$Text;" ∈ AW := aw_in (i := 217) (by decide +kernel) rfl
theorem q196 : Cond.fieldLink RX11 43 "PriceIrons" "works" "LPriceIrons$Works;" ∈ AW := aw_in (i := 218) (by decide +kernel) rfl
theorem q197 : Cond.fieldLink RX11 50 "PriceIrons" "highs" "LPriceIrons$Highs;" ∈ AW := aw_in (i := 219) (by decide +kernel) rfl
theorem q198 : Cond.fieldLink RX11 57 "PriceIrons" "trade" "LPriceIrons$Trade;" ∈ AW := aw_in (i := 220) (by decide +kernel) rfl
theorem q218 : Cond.methodLink RL 37 yX11_hasStopped ∈ AW := aw_in (i := 240) (by decide +kernel) rfl
theorem qi_yX11_hasStopped : Cond.instanceMethod yX11_hasStopped ∈ AW := aw_in (i := 241) (by decide +kernel) rfl
theorem qs_yX11_hasStopped : Cond.selects (yX11_hasStopped : MethodName).cls yX11_hasStopped yX11_hasStopped ∈ AW := aw_in (i := 242) (by decide +kernel) rfl
theorem qc_yX11_hasStopped : Cond.code yX11_hasStopped prog_1_method_15_code 1 (Option.some FieldType.boolean) ∈ AW := aw_in (i := 243) (by decide +kernel) rfl
theorem q222 : Cond.methodLink RL 153 yX11_undo ∈ AW := aw_in (i := 244) (by decide +kernel) rfl
theorem qi_yX11_undo : Cond.instanceMethod yX11_undo ∈ AW := aw_in (i := 245) (by decide +kernel) rfl
theorem qs_yX11_undo : Cond.selects (yX11_undo : MethodName).cls yX11_undo yX11_undo ∈ AW := aw_in (i := 246) (by decide +kernel) rfl
theorem qc_yX11_undo : Cond.code yX11_undo prog_1_method_18_code 1 (Option.some FieldType.int) ∈ AW := aw_in (i := 247) (by decide +kernel) rfl
theorem q226 : Cond.classLink RX11 69 "java/lang/IllegalStateException" ∈ AW := aw_in (i := 248) (by decide +kernel) rfl
theorem q227 : Cond.instantiable "java/lang/IllegalStateException" 6 ∈ AW := aw_in (i := 249) (by decide +kernel) rfl
theorem n228 : Cond.castable "java/lang/IllegalStateException" "java/lang/IllegalStateException" ∈ NWL := nw_in (i := 250) (by decide +kernel) rfl
theorem n229 : Cond.declares (⟨"java/lang/RuntimeException", "<init>", "()V"⟩ : MethodName) ∈ NWL := nw_in (i := 251) (by decide +kernel) rfl
theorem n230 : Cond.declares (⟨"java/lang/RuntimeException", "<init>", "(Ljava/lang/String;)V"⟩ : MethodName) ∈ NWL := nw_in (i := 252) (by decide +kernel) rfl
theorem n231 : Cond.declares (⟨"java/lang/Exception", "<init>", "()V"⟩ : MethodName) ∈ NWL := nw_in (i := 253) (by decide +kernel) rfl
theorem n232 : Cond.declares (⟨"java/lang/Exception", "<init>", "(Ljava/lang/String;)V"⟩ : MethodName) ∈ NWL := nw_in (i := 254) (by decide +kernel) rfl
theorem n233 : Cond.declares (⟨"java/lang/Throwable", "<init>", "()V"⟩ : MethodName) ∈ NWL := nw_in (i := 255) (by decide +kernel) rfl
theorem n234 : Cond.declares (⟨"java/lang/Throwable", "<init>", "(Ljava/lang/String;)V"⟩ : MethodName) ∈ NWL := nw_in (i := 256) (by decide +kernel) rfl
theorem q235 : Cond.selects "java/lang/IllegalStateException" (⟨"java/lang/Throwable", "fillInStackTrace", "(I)Ljava/lang/Throwable;"⟩ : MethodName) (⟨"java/lang/Throwable", "fillInStackTrace", "(I)Ljava/lang/Throwable;"⟩ : MethodName) ∈ AW := aw_in (i := 257) (by decide +kernel) rfl
theorem q236 : Cond.selects "java/lang/IllegalStateException" (⟨"java/lang/Throwable", "fillInStackTrace", "()Ljava/lang/Throwable;"⟩ : MethodName) (⟨"java/lang/Throwable", "fillInStackTrace", "()Ljava/lang/Throwable;"⟩ : MethodName) ∈ AW := aw_in (i := 258) (by decide +kernel) rfl
theorem q247 : Cond.fieldLink "java/lang/Throwable" 198 "java/lang/Throwable" "backtrace" "Ljava/lang/Object;" ∈ AW := aw_in (i := 269) (by decide +kernel) rfl
theorem q249 : Cond.instanceMethod (⟨"java/lang/Throwable", "<init>", "()V"⟩ : MethodName) ∈ AW := aw_in (i := 271) (by decide +kernel) rfl
theorem q250 : Cond.code (⟨"java/lang/Throwable", "<init>", "()V"⟩ : MethodName) prog_23_method_1_code 1 (Option.none : Option FieldType) ∈ AW := aw_in (i := 272) (by decide +kernel) rfl
theorem q251 : Cond.methodLink "java/lang/Throwable" 1 (⟨"java/lang/Object", "<init>", "()V"⟩ : MethodName) ∈ AW := aw_in (i := 273) (by decide +kernel) rfl
theorem q252 : Cond.fieldLink "java/lang/Throwable" 13 "java/lang/Throwable" "UNASSIGNED_STACK" "[Ljava/lang/StackTraceElement;" ∈ AW := aw_in (i := 274) (by decide +kernel) rfl
theorem q254 : Cond.fieldLink "java/lang/Throwable" 20 "java/lang/Throwable" "SUPPRESSED_SENTINEL" "Ljava/util/List;" ∈ AW := aw_in (i := 276) (by decide +kernel) rfl
theorem q256 : Cond.methodLink "java/lang/Throwable" 27 (⟨"java/lang/Throwable", "fillInStackTrace", "()Ljava/lang/Throwable;"⟩ : MethodName) ∈ AW := aw_in (i := 278) (by decide +kernel) rfl
theorem q257 : Cond.instanceMethod (⟨"java/lang/Throwable", "fillInStackTrace", "()Ljava/lang/Throwable;"⟩ : MethodName) ∈ AW := aw_in (i := 279) (by decide +kernel) rfl
theorem q259 : Cond.selects "java/lang/IllegalArgumentException" (⟨"java/lang/Throwable", "fillInStackTrace", "()Ljava/lang/Throwable;"⟩ : MethodName) (⟨"java/lang/Throwable", "fillInStackTrace", "()Ljava/lang/Throwable;"⟩ : MethodName) ∈ AW := aw_in (i := 281) (by decide +kernel) rfl
theorem q260 : Cond.selects "java/lang/IndexOutOfBoundsException" (⟨"java/lang/Throwable", "fillInStackTrace", "()Ljava/lang/Throwable;"⟩ : MethodName) (⟨"java/lang/Throwable", "fillInStackTrace", "()Ljava/lang/Throwable;"⟩ : MethodName) ∈ AW := aw_in (i := 282) (by decide +kernel) rfl
theorem q262 : Cond.methodLink "java/lang/Throwable" 202 (⟨"java/lang/Throwable", "fillInStackTrace", "(I)Ljava/lang/Throwable;"⟩ : MethodName) ∈ AW := aw_in (i := 284) (by decide +kernel) rfl
theorem q264 : Cond.instanceMethod (⟨"java/lang/Throwable", "fillInStackTrace", "(I)Ljava/lang/Throwable;"⟩ : MethodName) ∈ AW := aw_in (i := 286) (by decide +kernel) rfl
theorem q265 : Cond.instantiable "java/lang/Throwable" 6 ∈ AW := aw_in (i := 287) (by decide +kernel) rfl
theorem q266 : Cond.native (⟨"java/lang/Throwable", "fillInStackTrace", "(I)Ljava/lang/Throwable;"⟩ : MethodName) ∈ AW := aw_in (i := 288) (by decide +kernel) rfl
theorem q268 : Cond.methodLink RX11 73 (⟨"java/lang/IllegalStateException", "<init>", "(Ljava/lang/String;)V"⟩ : MethodName) ∈ AW := aw_in (i := 290) (by decide +kernel) rfl
theorem q269 : Cond.instanceMethod (⟨"java/lang/IllegalStateException", "<init>", "(Ljava/lang/String;)V"⟩ : MethodName) ∈ AW := aw_in (i := 291) (by decide +kernel) rfl
theorem q270 : Cond.code (⟨"java/lang/IllegalStateException", "<init>", "(Ljava/lang/String;)V"⟩ : MethodName) prog_17_method_2_code 2 (Option.none : Option FieldType) ∈ AW := aw_in (i := 292) (by decide +kernel) rfl
theorem q271 : Cond.methodLink "java/lang/IllegalStateException" 7 (⟨"java/lang/RuntimeException", "<init>", "(Ljava/lang/String;)V"⟩ : MethodName) ∈ AW := aw_in (i := 293) (by decide +kernel) rfl
theorem q272 : Cond.instanceMethod (⟨"java/lang/RuntimeException", "<init>", "(Ljava/lang/String;)V"⟩ : MethodName) ∈ AW := aw_in (i := 294) (by decide +kernel) rfl
theorem q273 : Cond.code (⟨"java/lang/RuntimeException", "<init>", "(Ljava/lang/String;)V"⟩ : MethodName) prog_20_method_2_code 2 (Option.none : Option FieldType) ∈ AW := aw_in (i := 295) (by decide +kernel) rfl
theorem q274 : Cond.methodLink "java/lang/RuntimeException" 7 (⟨"java/lang/Exception", "<init>", "(Ljava/lang/String;)V"⟩ : MethodName) ∈ AW := aw_in (i := 296) (by decide +kernel) rfl
theorem q275 : Cond.instanceMethod (⟨"java/lang/Exception", "<init>", "(Ljava/lang/String;)V"⟩ : MethodName) ∈ AW := aw_in (i := 297) (by decide +kernel) rfl
theorem q276 : Cond.code (⟨"java/lang/Exception", "<init>", "(Ljava/lang/String;)V"⟩ : MethodName) prog_15_method_2_code 2 (Option.none : Option FieldType) ∈ AW := aw_in (i := 298) (by decide +kernel) rfl
theorem q277 : Cond.methodLink "java/lang/Exception" 7 (⟨"java/lang/Throwable", "<init>", "(Ljava/lang/String;)V"⟩ : MethodName) ∈ AW := aw_in (i := 299) (by decide +kernel) rfl
theorem q278 : Cond.instanceMethod (⟨"java/lang/Throwable", "<init>", "(Ljava/lang/String;)V"⟩ : MethodName) ∈ AW := aw_in (i := 300) (by decide +kernel) rfl
theorem q279 : Cond.code (⟨"java/lang/Throwable", "<init>", "(Ljava/lang/String;)V"⟩ : MethodName) prog_23_method_2_code 2 (Option.none : Option FieldType) ∈ AW := aw_in (i := 301) (by decide +kernel) rfl
theorem q280 : Cond.fieldLink "java/lang/Throwable" 198 "java/lang/Throwable" "backtrace" "Ljava/lang/Object;" ∈ AW := aw_in (i := 302) (by decide +kernel) rfl
theorem q281 : Cond.fieldLink "java/lang/Throwable" 31 "java/lang/Throwable" "detailMessage" "Ljava/lang/String;" ∈ AW := aw_in (i := 303) (by decide +kernel) rfl
theorem q282 : Cond.fieldLink "java/lang/Throwable" 7 "java/lang/Throwable" "cause" "Ljava/lang/Throwable;" ∈ AW := aw_in (i := 304) (by decide +kernel) rfl
theorem q283 : Cond.fieldLink "java/lang/Throwable" 17 "java/lang/Throwable" "stackTrace" "[Ljava/lang/StackTraceElement;" ∈ AW := aw_in (i := 305) (by decide +kernel) rfl
theorem q284 : Cond.fieldLink "java/lang/Throwable" 24 "java/lang/Throwable" "suppressedExceptions" "Ljava/util/List;" ∈ AW := aw_in (i := 306) (by decide +kernel) rfl
theorem q293 : Cond.arrayClass FieldType.byte ∈ AW := aw_in (i := 315) (by decide +kernel) rfl
theorem n294 : Cond.methodLinkNest RX11 174 yX3_takeBack "PriceIrons" ∈ NWL := nw_in (i := 316) (by decide +kernel) rfl
theorem qi_yX3_takeBack : Cond.instanceMethod yX3_takeBack ∈ AW := aw_in (i := 318) (by decide +kernel) rfl
theorem qc_yX3_takeBack : Cond.code yX3_takeBack prog_5_method_3_code 3 (Option.none : Option FieldType) ∈ AW := aw_in (i := 319) (by decide +kernel) rfl
theorem q298 : Cond.methodLink RX3 25 yX3_newest ∈ AW := aw_in (i := 320) (by decide +kernel) rfl
theorem qi_yX3_newest : Cond.instanceMethod yX3_newest ∈ AW := aw_in (i := 322) (by decide +kernel) rfl
theorem qc_yX3_newest : Cond.code yX3_newest prog_5_method_4_code 2 (Option.some (FieldType.object "PriceIrons$State")) ∈ AW := aw_in (i := 323) (by decide +kernel) rfl
theorem n302 : Cond.methodLinkNest RX3 29 yX6_copyFrom "PriceIrons" ∈ NWL := nw_in (i := 324) (by decide +kernel) rfl
theorem qi_yX6_copyFrom : Cond.instanceMethod yX6_copyFrom ∈ AW := aw_in (i := 326) (by decide +kernel) rfl
theorem qc_yX6_copyFrom : Cond.code yX6_copyFrom prog_8_method_2_code 2 (Option.none : Option FieldType) ∈ AW := aw_in (i := 327) (by decide +kernel) rfl
theorem q306 : Cond.methodLink RX6 44 (⟨"java/lang/System", "arraycopy", "(Ljava/lang/Object;ILjava/lang/Object;II)V"⟩ : MethodName) ∈ AW := aw_in (i := 328) (by decide +kernel) rfl
theorem q307 : Cond.static (⟨"java/lang/System", "arraycopy", "(Ljava/lang/Object;ILjava/lang/Object;II)V"⟩ : MethodName) ∈ AW := aw_in (i := 329) (by decide +kernel) rfl
theorem q308 : Cond.native (⟨"java/lang/System", "arraycopy", "(Ljava/lang/Object;ILjava/lang/Object;II)V"⟩ : MethodName) ∈ AW := aw_in (i := 330) (by decide +kernel) rfl
theorem q309 : Cond.methodLink RL 138 yX11_savedStates ∈ AW := aw_in (i := 331) (by decide +kernel) rfl
theorem qi_yX11_savedStates : Cond.instanceMethod yX11_savedStates ∈ AW := aw_in (i := 332) (by decide +kernel) rfl
theorem qs_yX11_savedStates : Cond.selects (yX11_savedStates : MethodName).cls yX11_savedStates yX11_savedStates ∈ AW := aw_in (i := 333) (by decide +kernel) rfl
theorem qc_yX11_savedStates : Cond.code yX11_savedStates prog_1_method_21_code 1 (Option.some FieldType.int) ∈ AW := aw_in (i := 334) (by decide +kernel) rfl
theorem q313 : Cond.methodLink RL 12 yX11_days ∈ AW := aw_in (i := 335) (by decide +kernel) rfl
theorem qi_yX11_days : Cond.instanceMethod yX11_days ∈ AW := aw_in (i := 336) (by decide +kernel) rfl
theorem qs_yX11_days : Cond.selects (yX11_days : MethodName).cls yX11_days yX11_days ∈ AW := aw_in (i := 337) (by decide +kernel) rfl
theorem qc_yX11_days : Cond.code yX11_days prog_1_method_22_code 1 (Option.some FieldType.int) ∈ AW := aw_in (i := 338) (by decide +kernel) rfl
theorem q317 : Cond.methodLink RL 18 yX11_shortWindow ∈ AW := aw_in (i := 339) (by decide +kernel) rfl
theorem qi_yX11_shortWindow : Cond.instanceMethod yX11_shortWindow ∈ AW := aw_in (i := 340) (by decide +kernel) rfl
theorem qs_yX11_shortWindow : Cond.selects (yX11_shortWindow : MethodName).cls yX11_shortWindow yX11_shortWindow ∈ AW := aw_in (i := 341) (by decide +kernel) rfl
theorem qc_yX11_shortWindow : Cond.code yX11_shortWindow prog_1_method_24_code 1 (Option.some FieldType.int) ∈ AW := aw_in (i := 342) (by decide +kernel) rfl
theorem q321 : Cond.methodLink RL 21 yX11_longWindow ∈ AW := aw_in (i := 343) (by decide +kernel) rfl
theorem qi_yX11_longWindow : Cond.instanceMethod yX11_longWindow ∈ AW := aw_in (i := 344) (by decide +kernel) rfl
theorem qs_yX11_longWindow : Cond.selects (yX11_longWindow : MethodName).cls yX11_longWindow yX11_longWindow ∈ AW := aw_in (i := 345) (by decide +kernel) rfl
theorem qc_yX11_longWindow : Cond.code yX11_longWindow prog_1_method_25_code 1 (Option.some FieldType.int) ∈ AW := aw_in (i := 346) (by decide +kernel) rfl
theorem q325 : Cond.methodLink RL 27 yX11_creases ∈ AW := aw_in (i := 347) (by decide +kernel) rfl
theorem qi_yX11_creases : Cond.instanceMethod yX11_creases ∈ AW := aw_in (i := 348) (by decide +kernel) rfl
theorem qs_yX11_creases : Cond.selects (yX11_creases : MethodName).cls yX11_creases yX11_creases ∈ AW := aw_in (i := 349) (by decide +kernel) rfl
theorem qc_yX11_creases : Cond.code yX11_creases prog_1_method_33_code 1 (Option.some FieldType.int) ∈ AW := aw_in (i := 350) (by decide +kernel) rfl
theorem n329 : Cond.methodLinkNest RX11 204 yX0_number "PriceIrons" ∈ NWL := nw_in (i := 351) (by decide +kernel) rfl
theorem qt_yX0_number : Cond.static yX0_number ∈ AW := aw_in (i := 352) (by decide +kernel) rfl
theorem qc_yX0_number : Cond.code yX0_number prog_2_method_4_code 3 (Option.some FieldType.int) ∈ AW := aw_in (i := 353) (by decide +kernel) rfl
theorem q332 : Cond.methodLink RX0 40 yX0_standsOut ∈ AW := aw_in (i := 354) (by decide +kernel) rfl
theorem qt_yX0_standsOut : Cond.static yX0_standsOut ∈ AW := aw_in (i := 355) (by decide +kernel) rfl
theorem qc_yX0_standsOut : Cond.code yX0_standsOut prog_2_method_3_code 2 (Option.some FieldType.boolean) ∈ AW := aw_in (i := 356) (by decide +kernel) rfl
theorem n335 : Cond.methodLinkNest RX0 19 yX6_at "PriceIrons" ∈ NWL := nw_in (i := 357) (by decide +kernel) rfl
theorem qi_yX6_at : Cond.instanceMethod yX6_at ∈ AW := aw_in (i := 359) (by decide +kernel) rfl
theorem qc_yX6_at : Cond.code yX6_at prog_8_method_4_code 2 (Option.some FieldType.int) ∈ AW := aw_in (i := 360) (by decide +kernel) rfl
theorem q339 : Cond.methodLink RX0 23 yX0_middle ∈ AW := aw_in (i := 361) (by decide +kernel) rfl
theorem qt_yX0_middle : Cond.static yX0_middle ∈ AW := aw_in (i := 362) (by decide +kernel) rfl
theorem qc_yX0_middle : Cond.code yX0_middle prog_2_method_2_code 10 (Option.some FieldType.int) ∈ AW := aw_in (i := 363) (by decide +kernel) rfl
theorem n342 : Cond.methodLinkNest RX0 13 yX4_firstOf "PriceIrons" ∈ NWL := nw_in (i := 364) (by decide +kernel) rfl
theorem qt_yX4_firstOf : Cond.static yX4_firstOf ∈ AW := aw_in (i := 365) (by decide +kernel) rfl
theorem qc_yX4_firstOf : Cond.code yX4_firstOf prog_6_method_2_code 2 (Option.some FieldType.int) ∈ AW := aw_in (i := 366) (by decide +kernel) rfl
theorem q345 : Cond.methodLink RX0 29 yJ9_abs_0f7a4 ∈ AW := aw_in (i := 367) (by decide +kernel) rfl
theorem qt_yJ9_abs_0f7a4 : Cond.static yJ9_abs_0f7a4 ∈ AW := aw_in (i := 368) (by decide +kernel) rfl
theorem qc_yJ9_abs_0f7a4 : Cond.code yJ9_abs_0f7a4 prog_19_method_59_code 1 (Option.some FieldType.int) ∈ AW := aw_in (i := 369) (by decide +kernel) rfl
theorem q348 : Cond.methodLink RL 87 yX11_greatestFall ∈ AW := aw_in (i := 370) (by decide +kernel) rfl
theorem qi_yX11_greatestFall : Cond.instanceMethod yX11_greatestFall ∈ AW := aw_in (i := 371) (by decide +kernel) rfl
theorem qs_yX11_greatestFall : Cond.selects (yX11_greatestFall : MethodName).cls yX11_greatestFall yX11_greatestFall ∈ AW := aw_in (i := 372) (by decide +kernel) rfl
theorem qc_yX11_greatestFall : Cond.code yX11_greatestFall prog_1_method_40_code 1 (Option.some FieldType.int) ∈ AW := aw_in (i := 373) (by decide +kernel) rfl
theorem n352 : Cond.methodLinkNest RX11 229 yX2_fallInOneGo "PriceIrons" ∈ NWL := nw_in (i := 374) (by decide +kernel) rfl
theorem qt_yX2_fallInOneGo : Cond.static yX2_fallInOneGo ∈ AW := aw_in (i := 375) (by decide +kernel) rfl
theorem qc_yX2_fallInOneGo : Cond.code yX2_fallInOneGo prog_4_method_7_code 4 (Option.some FieldType.int) ∈ AW := aw_in (i := 376) (by decide +kernel) rfl
theorem n355 : Cond.methodLinkNest RX2 33 yX6_at "PriceIrons" ∈ NWL := nw_in (i := 377) (by decide +kernel) rfl
theorem q356 : Cond.methodLink RX2 37 yJ9_max_7cf53 ∈ AW := aw_in (i := 378) (by decide +kernel) rfl
theorem qt_yJ9_max_7cf53 : Cond.static yJ9_max_7cf53 ∈ AW := aw_in (i := 379) (by decide +kernel) rfl
theorem qc_yJ9_max_7cf53 : Cond.code yJ9_max_7cf53 prog_19_method_65_code 2 (Option.some FieldType.int) ∈ AW := aw_in (i := 380) (by decide +kernel) rfl
theorem q359 : Cond.methodLink RL 24 yX11_season ∈ AW := aw_in (i := 381) (by decide +kernel) rfl
theorem qi_yX11_season : Cond.instanceMethod yX11_season ∈ AW := aw_in (i := 382) (by decide +kernel) rfl
theorem qs_yX11_season : Cond.selects (yX11_season : MethodName).cls yX11_season yX11_season ∈ AW := aw_in (i := 383) (by decide +kernel) rfl
theorem qc_yX11_season : Cond.code yX11_season prog_1_method_43_code 1 (Option.some FieldType.int) ∈ AW := aw_in (i := 384) (by decide +kernel) rfl
theorem q363 : Cond.methodLink RL 96 yX11_smoothShare ∈ AW := aw_in (i := 385) (by decide +kernel) rfl
theorem qi_yX11_smoothShare : Cond.instanceMethod yX11_smoothShare ∈ AW := aw_in (i := 386) (by decide +kernel) rfl
theorem qs_yX11_smoothShare : Cond.selects (yX11_smoothShare : MethodName).cls yX11_smoothShare yX11_smoothShare ∈ AW := aw_in (i := 387) (by decide +kernel) rfl
theorem qc_yX11_smoothShare : Cond.code yX11_smoothShare prog_1_method_50_code 1 (Option.some FieldType.double) ∈ AW := aw_in (i := 388) (by decide +kernel) rfl
theorem q367 : Cond.methodLink RL 141 yL_cell ∈ AW := aw_in (i := 389) (by decide +kernel) rfl
theorem qt_yL_cell : Cond.static yL_cell ∈ AW := aw_in (i := 390) (by decide +kernel) rfl
theorem qc_yL_cell : Cond.code yL_cell method_2_code 2 (Option.some FieldType.int) ∈ AW := aw_in (i := 391) (by decide +kernel) rfl
theorem q370 : Cond.methodLink RL 145 yL_told ∈ AW := aw_in (i := 392) (by decide +kernel) rfl
theorem qt_yL_told : Cond.static yL_told ∈ AW := aw_in (i := 393) (by decide +kernel) rfl
theorem qc_yL_told : Cond.code yL_told method_4_code 4 (Option.some FieldType.long) ∈ AW := aw_in (i := 394) (by decide +kernel) rfl
theorem q373 : Cond.constantLong RL 8 (3 : Int64) ∈ AW := aw_in (i := 395) (by decide +kernel) rfl
theorem q374 : Cond.constantLong RL 10 (31 : Int64) ∈ AW := aw_in (i := 396) (by decide +kernel) rfl
theorem q375 : Cond.methodLink RL 30 yX11_priceOf ∈ AW := aw_in (i := 397) (by decide +kernel) rfl
theorem qi_yX11_priceOf : Cond.instanceMethod yX11_priceOf ∈ AW := aw_in (i := 398) (by decide +kernel) rfl
theorem qs_yX11_priceOf : Cond.selects (yX11_priceOf : MethodName).cls yX11_priceOf yX11_priceOf ∈ AW := aw_in (i := 399) (by decide +kernel) rfl
theorem qc_yX11_priceOf : Cond.code yX11_priceOf prog_1_method_23_code 2 (Option.some FieldType.int) ∈ AW := aw_in (i := 400) (by decide +kernel) rfl
theorem q379 : Cond.methodLink RX11 84 yX11_requireDay ∈ AW := aw_in (i := 401) (by decide +kernel) rfl
theorem qi_yX11_requireDay : Cond.instanceMethod yX11_requireDay ∈ AW := aw_in (i := 403) (by decide +kernel) rfl
theorem qc_yX11_requireDay : Cond.code yX11_requireDay prog_1_method_63_code 2 (Option.none : Option FieldType) ∈ AW := aw_in (i := 404) (by decide +kernel) rfl
theorem n383 : Cond.methodLinkNest RX11 328 yX6_hasDay "PriceIrons" ∈ NWL := nw_in (i := 405) (by decide +kernel) rfl
theorem qi_yX6_hasDay : Cond.instanceMethod yX6_hasDay ∈ AW := aw_in (i := 407) (by decide +kernel) rfl
theorem qc_yX6_hasDay : Cond.code yX6_hasDay prog_8_method_3_code 2 (Option.some FieldType.boolean) ∈ AW := aw_in (i := 408) (by decide +kernel) rfl
theorem q387 : Cond.classLink RX11 238 "java/lang/IndexOutOfBoundsException" ∈ AW := aw_in (i := 409) (by decide +kernel) rfl
theorem q388 : Cond.instantiable "java/lang/IndexOutOfBoundsException" 6 ∈ AW := aw_in (i := 410) (by decide +kernel) rfl
theorem n389 : Cond.castable "java/lang/IndexOutOfBoundsException" "java/lang/IndexOutOfBoundsException" ∈ NWL := nw_in (i := 411) (by decide +kernel) rfl
theorem q390 : Cond.selects "java/lang/IndexOutOfBoundsException" (⟨"java/lang/Throwable", "fillInStackTrace", "(I)Ljava/lang/Throwable;"⟩ : MethodName) (⟨"java/lang/Throwable", "fillInStackTrace", "(I)Ljava/lang/Throwable;"⟩ : MethodName) ∈ AW := aw_in (i := 412) (by decide +kernel) rfl
theorem q397 : Cond.methodLink RX11 242 (⟨"java/lang/IndexOutOfBoundsException", "<init>", "(Ljava/lang/String;)V"⟩ : MethodName) ∈ AW := aw_in (i := 419) (by decide +kernel) rfl
theorem q398 : Cond.instanceMethod (⟨"java/lang/IndexOutOfBoundsException", "<init>", "(Ljava/lang/String;)V"⟩ : MethodName) ∈ AW := aw_in (i := 420) (by decide +kernel) rfl
theorem q399 : Cond.code (⟨"java/lang/IndexOutOfBoundsException", "<init>", "(Ljava/lang/String;)V"⟩ : MethodName) prog_18_method_2_code 2 (Option.none : Option FieldType) ∈ AW := aw_in (i := 421) (by decide +kernel) rfl
theorem q400 : Cond.methodLink "java/lang/IndexOutOfBoundsException" 7 (⟨"java/lang/RuntimeException", "<init>", "(Ljava/lang/String;)V"⟩ : MethodName) ∈ AW := aw_in (i := 422) (by decide +kernel) rfl
theorem n403 : Cond.methodLinkNest RX11 87 yX6_at "PriceIrons" ∈ NWL := nw_in (i := 425) (by decide +kernel) rfl
theorem q404 : Cond.methodLink RL 34 yX11_smoothed ∈ AW := aw_in (i := 426) (by decide +kernel) rfl
theorem qi_yX11_smoothed : Cond.instanceMethod yX11_smoothed ∈ AW := aw_in (i := 427) (by decide +kernel) rfl
theorem qs_yX11_smoothed : Cond.selects (yX11_smoothed : MethodName).cls yX11_smoothed yX11_smoothed ∈ AW := aw_in (i := 428) (by decide +kernel) rfl
theorem qc_yX11_smoothed : Cond.code yX11_smoothed prog_1_method_29_code 2 (Option.some FieldType.int) ∈ AW := aw_in (i := 429) (by decide +kernel) rfl
theorem n408 : Cond.methodLinkNest RX11 195 yX4_smoothedForwards "PriceIrons" ∈ NWL := nw_in (i := 430) (by decide +kernel) rfl
theorem qt_yX4_smoothedForwards : Cond.static yX4_smoothedForwards ∈ AW := aw_in (i := 431) (by decide +kernel) rfl
theorem qc_yX4_smoothedForwards : Cond.code yX4_smoothedForwards prog_6_method_7_code 4 (Option.some FieldType.int) ∈ AW := aw_in (i := 432) (by decide +kernel) rfl
theorem n411 : Cond.methodLinkNest RX4 15 yX6_at "PriceIrons" ∈ NWL := nw_in (i := 433) (by decide +kernel) rfl
theorem q412 : Cond.methodLink RX4 38 yX4_nextSmooth ∈ AW := aw_in (i := 434) (by decide +kernel) rfl
theorem qt_yX4_nextSmooth : Cond.static yX4_nextSmooth ∈ AW := aw_in (i := 435) (by decide +kernel) rfl
theorem qc_yX4_nextSmooth : Cond.code yX4_nextSmooth prog_6_method_9_code 3 (Option.some FieldType.int) ∈ AW := aw_in (i := 436) (by decide +kernel) rfl
theorem q415 : Cond.methodLink RL 41 yX11_stoppedPart ∈ AW := aw_in (i := 437) (by decide +kernel) rfl
theorem qi_yX11_stoppedPart : Cond.instanceMethod yX11_stoppedPart ∈ AW := aw_in (i := 438) (by decide +kernel) rfl
theorem qs_yX11_stoppedPart : Cond.selects (yX11_stoppedPart : MethodName).cls yX11_stoppedPart yX11_stoppedPart ∈ AW := aw_in (i := 439) (by decide +kernel) rfl
theorem qc_yX11_stoppedPart : Cond.code yX11_stoppedPart prog_1_method_16_code 1 (Option.some FieldType.int) ∈ AW := aw_in (i := 440) (by decide +kernel) rfl
theorem q419 : Cond.methodLink RX11 160 yX11_requireStop ∈ AW := aw_in (i := 441) (by decide +kernel) rfl
theorem qi_yX11_requireStop : Cond.instanceMethod yX11_requireStop ∈ AW := aw_in (i := 443) (by decide +kernel) rfl
theorem qc_yX11_requireStop : Cond.code yX11_requireStop prog_1_method_65_code 1 (Option.none : Option FieldType) ∈ AW := aw_in (i := 444) (by decide +kernel) rfl
theorem q424 : Cond.methodLink RL 44 yX11_whyStopped ∈ AW := aw_in (i := 446) (by decide +kernel) rfl
theorem qi_yX11_whyStopped : Cond.instanceMethod yX11_whyStopped ∈ AW := aw_in (i := 447) (by decide +kernel) rfl
theorem qs_yX11_whyStopped : Cond.selects (yX11_whyStopped : MethodName).cls yX11_whyStopped yX11_whyStopped ∈ AW := aw_in (i := 448) (by decide +kernel) rfl
theorem qc_yX11_whyStopped : Cond.code yX11_whyStopped prog_1_method_17_code 1 (Option.some FieldType.int) ∈ AW := aw_in (i := 449) (by decide +kernel) rfl
theorem q428 : Cond.methodLink RL 149 yL_act ∈ AW := aw_in (i := 450) (by decide +kernel) rfl
theorem qt_yL_act : Cond.static yL_act ∈ AW := aw_in (i := 451) (by decide +kernel) rfl
theorem qc_yL_act : Cond.code yL_act method_6_code 6 (Option.some FieldType.boolean) ∈ AW := aw_in (i := 452) (by decide +kernel) rfl
theorem q431 : Cond.methodLink RL 47 yL_low ∈ AW := aw_in (i := 453) (by decide +kernel) rfl
theorem qt_yL_low : Cond.static yL_low ∈ AW := aw_in (i := 454) (by decide +kernel) rfl
theorem qc_yL_low : Cond.code yL_low method_3_code 2 (Option.some FieldType.int) ∈ AW := aw_in (i := 455) (by decide +kernel) rfl
theorem q434 : Cond.constant RL 7 (2147483647 : Int32) ∈ AW := aw_in (i := 456) (by decide +kernel) rfl
theorem q435 : Cond.methodLink RL 53 yL_price ∈ AW := aw_in (i := 457) (by decide +kernel) rfl
theorem qt_yL_price : Cond.static yL_price ∈ AW := aw_in (i := 458) (by decide +kernel) rfl
theorem qc_yL_price : Cond.code yL_price method_5_code 1 (Option.some FieldType.int) ∈ AW := aw_in (i := 459) (by decide +kernel) rfl
theorem q438 : Cond.methodLink RL 56 yX11_addPrice ∈ AW := aw_in (i := 460) (by decide +kernel) rfl
theorem qi_yX11_addPrice : Cond.instanceMethod yX11_addPrice ∈ AW := aw_in (i := 461) (by decide +kernel) rfl
theorem qs_yX11_addPrice : Cond.selects (yX11_addPrice : MethodName).cls yX11_addPrice yX11_addPrice ∈ AW := aw_in (i := 462) (by decide +kernel) rfl
theorem qc_yX11_addPrice : Cond.code yX11_addPrice prog_1_method_2_code 2 (Option.some FieldType.int) ∈ AW := aw_in (i := 463) (by decide +kernel) rfl
theorem q442 : Cond.methodLink RX11 61 yX11_requireRange ∈ AW := aw_in (i := 464) (by decide +kernel) rfl
theorem qt_yX11_requireRange : Cond.static yX11_requireRange ∈ AW := aw_in (i := 465) (by decide +kernel) rfl
theorem qc_yX11_requireRange : Cond.code yX11_requireRange prog_1_method_62_code 3 (Option.none : Option FieldType) ∈ AW := aw_in (i := 466) (by decide +kernel) rfl
theorem q445 : Cond.classLink RX11 116 "java/lang/IllegalArgumentException" ∈ AW := aw_in (i := 467) (by decide +kernel) rfl
theorem q446 : Cond.instantiable "java/lang/IllegalArgumentException" 6 ∈ AW := aw_in (i := 468) (by decide +kernel) rfl
theorem n447 : Cond.castable "java/lang/IllegalArgumentException" "java/lang/IllegalArgumentException" ∈ NWL := nw_in (i := 469) (by decide +kernel) rfl
theorem q448 : Cond.selects "java/lang/IllegalArgumentException" (⟨"java/lang/Throwable", "fillInStackTrace", "(I)Ljava/lang/Throwable;"⟩ : MethodName) (⟨"java/lang/Throwable", "fillInStackTrace", "(I)Ljava/lang/Throwable;"⟩ : MethodName) ∈ AW := aw_in (i := 470) (by decide +kernel) rfl
theorem q455 : Cond.methodLink RX11 120 (⟨"java/lang/IllegalArgumentException", "<init>", "(Ljava/lang/String;)V"⟩ : MethodName) ∈ AW := aw_in (i := 477) (by decide +kernel) rfl
theorem q456 : Cond.instanceMethod (⟨"java/lang/IllegalArgumentException", "<init>", "(Ljava/lang/String;)V"⟩ : MethodName) ∈ AW := aw_in (i := 478) (by decide +kernel) rfl
theorem q457 : Cond.code (⟨"java/lang/IllegalArgumentException", "<init>", "(Ljava/lang/String;)V"⟩ : MethodName) prog_16_method_2_code 2 (Option.none : Option FieldType) ∈ AW := aw_in (i := 479) (by decide +kernel) rfl
theorem q458 : Cond.methodLink "java/lang/IllegalArgumentException" 7 (⟨"java/lang/RuntimeException", "<init>", "(Ljava/lang/String;)V"⟩ : MethodName) ∈ AW := aw_in (i := 480) (by decide +kernel) rfl
theorem n462 : Cond.methodLinkNest RX11 76 yX3_save "PriceIrons" ∈ NWL := nw_in (i := 484) (by decide +kernel) rfl
theorem qi_yX3_save : Cond.instanceMethod yX3_save ∈ AW := aw_in (i := 486) (by decide +kernel) rfl
theorem qc_yX3_save : Cond.code yX3_save prog_5_method_2_code 3 (Option.none : Option FieldType) ∈ AW := aw_in (i := 487) (by decide +kernel) rfl
theorem n466 : Cond.methodLinkNest RX11 80 yX6_add "PriceIrons" ∈ NWL := nw_in (i := 488) (by decide +kernel) rfl
theorem qi_yX6_add : Cond.instanceMethod yX6_add ∈ AW := aw_in (i := 490) (by decide +kernel) rfl
theorem qc_yX6_add : Cond.code yX6_add prog_8_method_6_code 2 (Option.none : Option FieldType) ∈ AW := aw_in (i := 491) (by decide +kernel) rfl
theorem q470 : Cond.methodLink RL 59 yX11_setPrice ∈ AW := aw_in (i := 492) (by decide +kernel) rfl
theorem qi_yX11_setPrice : Cond.instanceMethod yX11_setPrice ∈ AW := aw_in (i := 493) (by decide +kernel) rfl
theorem qs_yX11_setPrice : Cond.selects (yX11_setPrice : MethodName).cls yX11_setPrice yX11_setPrice ∈ AW := aw_in (i := 494) (by decide +kernel) rfl
theorem qc_yX11_setPrice : Cond.code yX11_setPrice prog_1_method_3_code 4 (Option.some FieldType.int) ∈ AW := aw_in (i := 495) (by decide +kernel) rfl
theorem n474 : Cond.methodLinkNest RX11 91 yX6_put "PriceIrons" ∈ NWL := nw_in (i := 496) (by decide +kernel) rfl
theorem qi_yX6_put : Cond.instanceMethod yX6_put ∈ AW := aw_in (i := 498) (by decide +kernel) rfl
theorem qc_yX6_put : Cond.code yX6_put prog_8_method_5_code 3 (Option.none : Option FieldType) ∈ AW := aw_in (i := 499) (by decide +kernel) rfl
theorem q478 : Cond.methodLink RL 62 yX11_dropOldest ∈ AW := aw_in (i := 500) (by decide +kernel) rfl
theorem qi_yX11_dropOldest : Cond.instanceMethod yX11_dropOldest ∈ AW := aw_in (i := 501) (by decide +kernel) rfl
theorem qs_yX11_dropOldest : Cond.selects (yX11_dropOldest : MethodName).cls yX11_dropOldest yX11_dropOldest ∈ AW := aw_in (i := 502) (by decide +kernel) rfl
theorem qc_yX11_dropOldest : Cond.code yX11_dropOldest prog_1_method_4_code 2 (Option.some FieldType.int) ∈ AW := aw_in (i := 503) (by decide +kernel) rfl
theorem n483 : Cond.methodLinkNest RX11 97 yX6_drop "PriceIrons" ∈ NWL := nw_in (i := 505) (by decide +kernel) rfl
theorem qi_yX6_drop : Cond.instanceMethod yX6_drop ∈ AW := aw_in (i := 507) (by decide +kernel) rfl
theorem qc_yX6_drop : Cond.code yX6_drop prog_8_method_7_code 4 (Option.none : Option FieldType) ∈ AW := aw_in (i := 508) (by decide +kernel) rfl
theorem q487 : Cond.methodLink RX6 50 yX6_at ∈ AW := aw_in (i := 509) (by decide +kernel) rfl
theorem q488 : Cond.methodLink RX6 54 yX6_put ∈ AW := aw_in (i := 510) (by decide +kernel) rfl
theorem q489 : Cond.methodLink RL 65 yX11_isCrease ∈ AW := aw_in (i := 511) (by decide +kernel) rfl
theorem qi_yX11_isCrease : Cond.instanceMethod yX11_isCrease ∈ AW := aw_in (i := 512) (by decide +kernel) rfl
theorem qs_yX11_isCrease : Cond.selects (yX11_isCrease : MethodName).cls yX11_isCrease yX11_isCrease ∈ AW := aw_in (i := 513) (by decide +kernel) rfl
theorem qc_yX11_isCrease : Cond.code yX11_isCrease prog_1_method_32_code 2 (Option.some FieldType.boolean) ∈ AW := aw_in (i := 514) (by decide +kernel) rfl
theorem n493 : Cond.methodLinkNest RX11 100 yX0_standsOut "PriceIrons" ∈ NWL := nw_in (i := 515) (by decide +kernel) rfl
theorem q494 : Cond.methodLink RL 69 yX11_press ∈ AW := aw_in (i := 516) (by decide +kernel) rfl
theorem qi_yX11_press : Cond.instanceMethod yX11_press ∈ AW := aw_in (i := 517) (by decide +kernel) rfl
theorem qs_yX11_press : Cond.selects (yX11_press : MethodName).cls yX11_press yX11_press ∈ AW := aw_in (i := 518) (by decide +kernel) rfl
theorem qc_yX11_press : Cond.code yX11_press prog_1_method_5_code 2 (Option.some FieldType.int) ∈ AW := aw_in (i := 519) (by decide +kernel) rfl
theorem n499 : Cond.methodLinkNest RX11 108 yX0_flatten "PriceIrons" ∈ NWL := nw_in (i := 521) (by decide +kernel) rfl
theorem qt_yX0_flatten : Cond.static yX0_flatten ∈ AW := aw_in (i := 522) (by decide +kernel) rfl
theorem qc_yX0_flatten : Cond.code yX0_flatten prog_2_method_5_code 2 (Option.none : Option FieldType) ∈ AW := aw_in (i := 523) (by decide +kernel) rfl
theorem n502 : Cond.methodLinkNest RX0 44 yX6_put "PriceIrons" ∈ NWL := nw_in (i := 524) (by decide +kernel) rfl
theorem q503 : Cond.methodLink RL 72 yX11_pressAll ∈ AW := aw_in (i := 525) (by decide +kernel) rfl
theorem qi_yX11_pressAll : Cond.instanceMethod yX11_pressAll ∈ AW := aw_in (i := 526) (by decide +kernel) rfl
theorem qs_yX11_pressAll : Cond.selects (yX11_pressAll : MethodName).cls yX11_pressAll yX11_pressAll ∈ AW := aw_in (i := 527) (by decide +kernel) rfl
theorem qc_yX11_pressAll : Cond.code yX11_pressAll prog_1_method_6_code 1 (Option.some FieldType.int) ∈ AW := aw_in (i := 528) (by decide +kernel) rfl
theorem n507 : Cond.methodLinkNest RX11 112 yX0_flattenAll "PriceIrons" ∈ NWL := nw_in (i := 529) (by decide +kernel) rfl
theorem qt_yX0_flattenAll : Cond.static yX0_flattenAll ∈ AW := aw_in (i := 530) (by decide +kernel) rfl
theorem qc_yX0_flattenAll : Cond.code yX0_flattenAll prog_2_method_6_code 3 (Option.some FieldType.int) ∈ AW := aw_in (i := 531) (by decide +kernel) rfl
theorem q510 : Cond.methodLink RX0 48 yX0_flatten ∈ AW := aw_in (i := 532) (by decide +kernel) rfl
theorem q511 : Cond.methodLink RL 75 yX11_setWindows ∈ AW := aw_in (i := 533) (by decide +kernel) rfl
theorem qi_yX11_setWindows : Cond.instanceMethod yX11_setWindows ∈ AW := aw_in (i := 534) (by decide +kernel) rfl
theorem qs_yX11_setWindows : Cond.selects (yX11_setWindows : MethodName).cls yX11_setWindows yX11_setWindows ∈ AW := aw_in (i := 535) (by decide +kernel) rfl
theorem qc_yX11_setWindows : Cond.code yX11_setWindows prog_1_method_7_code 4 (Option.some FieldType.int) ∈ AW := aw_in (i := 536) (by decide +kernel) rfl
theorem q516 : Cond.methodLink RL 78 yX11_setMemory ∈ AW := aw_in (i := 538) (by decide +kernel) rfl
theorem qi_yX11_setMemory : Cond.instanceMethod yX11_setMemory ∈ AW := aw_in (i := 539) (by decide +kernel) rfl
theorem qs_yX11_setMemory : Cond.selects (yX11_setMemory : MethodName).cls yX11_setMemory yX11_setMemory ∈ AW := aw_in (i := 540) (by decide +kernel) rfl
theorem qc_yX11_setMemory : Cond.code yX11_setMemory prog_1_method_8_code 3 (Option.some FieldType.int) ∈ AW := aw_in (i := 541) (by decide +kernel) rfl
theorem q520 : Cond.methodLink RL 81 yX11_setLimit ∈ AW := aw_in (i := 542) (by decide +kernel) rfl
theorem qi_yX11_setLimit : Cond.instanceMethod yX11_setLimit ∈ AW := aw_in (i := 543) (by decide +kernel) rfl
theorem qs_yX11_setLimit : Cond.selects (yX11_setLimit : MethodName).cls yX11_setLimit yX11_setLimit ∈ AW := aw_in (i := 544) (by decide +kernel) rfl
theorem qc_yX11_setLimit : Cond.code yX11_setLimit prog_1_method_9_code 3 (Option.some FieldType.int) ∈ AW := aw_in (i := 545) (by decide +kernel) rfl
theorem q524 : Cond.methodLink RL 84 yX11_setSeason ∈ AW := aw_in (i := 546) (by decide +kernel) rfl
theorem qi_yX11_setSeason : Cond.instanceMethod yX11_setSeason ∈ AW := aw_in (i := 547) (by decide +kernel) rfl
theorem qs_yX11_setSeason : Cond.selects (yX11_setSeason : MethodName).cls yX11_setSeason yX11_setSeason ∈ AW := aw_in (i := 548) (by decide +kernel) rfl
theorem qc_yX11_setSeason : Cond.code yX11_setSeason prog_1_method_10_code 3 (Option.some FieldType.int) ∈ AW := aw_in (i := 549) (by decide +kernel) rfl
theorem q528 : Cond.methodLink RL 157 yL_holds ∈ AW := aw_in (i := 550) (by decide +kernel) rfl
theorem qt_yL_holds : Cond.static yL_holds ∈ AW := aw_in (i := 551) (by decide +kernel) rfl
theorem qc_yL_holds : Cond.code yL_holds method_7_code 11 (Option.some FieldType.boolean) ∈ AW := aw_in (i := 552) (by decide +kernel) rfl
theorem q531 : Cond.methodLink RL 90 yX11_greatestFallByPairs ∈ AW := aw_in (i := 553) (by decide +kernel) rfl
theorem qi_yX11_greatestFallByPairs : Cond.instanceMethod yX11_greatestFallByPairs ∈ AW := aw_in (i := 554) (by decide +kernel) rfl
theorem qs_yX11_greatestFallByPairs : Cond.selects (yX11_greatestFallByPairs : MethodName).cls yX11_greatestFallByPairs yX11_greatestFallByPairs ∈ AW := aw_in (i := 555) (by decide +kernel) rfl
theorem qc_yX11_greatestFallByPairs : Cond.code yX11_greatestFallByPairs prog_1_method_41_code 1 (Option.some FieldType.int) ∈ AW := aw_in (i := 556) (by decide +kernel) rfl
theorem n535 : Cond.methodLinkNest RX11 232 yX2_fallByPairs "PriceIrons" ∈ NWL := nw_in (i := 557) (by decide +kernel) rfl
theorem qt_yX2_fallByPairs : Cond.static yX2_fallByPairs ∈ AW := aw_in (i := 558) (by decide +kernel) rfl
theorem qc_yX2_fallByPairs : Cond.code yX2_fallByPairs prog_4_method_8_code 4 (Option.some FieldType.int) ∈ AW := aw_in (i := 559) (by decide +kernel) rfl
theorem q538 : Cond.methodLink RL 93 yX11_longestRise ∈ AW := aw_in (i := 560) (by decide +kernel) rfl
theorem qi_yX11_longestRise : Cond.instanceMethod yX11_longestRise ∈ AW := aw_in (i := 561) (by decide +kernel) rfl
theorem qs_yX11_longestRise : Cond.selects (yX11_longestRise : MethodName).cls yX11_longestRise yX11_longestRise ∈ AW := aw_in (i := 562) (by decide +kernel) rfl
theorem qc_yX11_longestRise : Cond.code yX11_longestRise prog_1_method_42_code 1 (Option.some FieldType.int) ∈ AW := aw_in (i := 563) (by decide +kernel) rfl
theorem n542 : Cond.methodLinkNest RX11 235 yX2_riseInARow "PriceIrons" ∈ NWL := nw_in (i := 564) (by decide +kernel) rfl
theorem qt_yX2_riseInARow : Cond.static yX2_riseInARow ∈ AW := aw_in (i := 565) (by decide +kernel) rfl
theorem qc_yX2_riseInARow : Cond.code yX2_riseInARow prog_4_method_9_code 4 (Option.some FieldType.int) ∈ AW := aw_in (i := 566) (by decide +kernel) rfl
theorem q545 : Cond.methodLink RL 100 yX11_crossing ∈ AW := aw_in (i := 567) (by decide +kernel) rfl
theorem qi_yX11_crossing : Cond.instanceMethod yX11_crossing ∈ AW := aw_in (i := 568) (by decide +kernel) rfl
theorem qs_yX11_crossing : Cond.selects (yX11_crossing : MethodName).cls yX11_crossing yX11_crossing ∈ AW := aw_in (i := 569) (by decide +kernel) rfl
theorem qc_yX11_crossing : Cond.code yX11_crossing prog_1_method_36_code 2 (Option.some FieldType.int) ∈ AW := aw_in (i := 570) (by decide +kernel) rfl
theorem n549 : Cond.methodLinkNest RX11 213 yX9_crossingAt "PriceIrons" ∈ NWL := nw_in (i := 571) (by decide +kernel) rfl
theorem qt_yX9_crossingAt : Cond.static yX9_crossingAt ∈ AW := aw_in (i := 572) (by decide +kernel) rfl
theorem qc_yX9_crossingAt : Cond.code yX9_crossingAt prog_11_method_2_code 3 (Option.some FieldType.int) ∈ AW := aw_in (i := 573) (by decide +kernel) rfl
theorem q552 : Cond.methodLink RX9 21 yX9_sideAt ∈ AW := aw_in (i := 574) (by decide +kernel) rfl
theorem qt_yX9_sideAt : Cond.static yX9_sideAt ∈ AW := aw_in (i := 575) (by decide +kernel) rfl
theorem qc_yX9_sideAt : Cond.code yX9_sideAt prog_11_method_3_code 4 (Option.some FieldType.int) ∈ AW := aw_in (i := 576) (by decide +kernel) rfl
theorem n555 : Cond.methodLinkNest RX9 30 yX4_byAdding "PriceIrons" ∈ NWL := nw_in (i := 577) (by decide +kernel) rfl
theorem qt_yX4_byAdding : Cond.static yX4_byAdding ∈ AW := aw_in (i := 578) (by decide +kernel) rfl
theorem qc_yX4_byAdding : Cond.code yX4_byAdding prog_6_method_3_code 7 (Option.some FieldType.int) ∈ AW := aw_in (i := 579) (by decide +kernel) rfl
theorem q558 : Cond.methodLink RX4 9 yX4_firstOf ∈ AW := aw_in (i := 580) (by decide +kernel) rfl
theorem q559 : Cond.constantLong RX4 21 (1000 : Int64) ∈ AW := aw_in (i := 581) (by decide +kernel) rfl
theorem n560 : Cond.methodLinkNest RX4 23 yX11_divided "PriceIrons" ∈ NWL := nw_in (i := 582) (by decide +kernel) rfl
theorem qt_yX11_divided : Cond.static yX11_divided ∈ AW := aw_in (i := 583) (by decide +kernel) rfl
theorem qc_yX11_divided : Cond.code yX11_divided prog_1_method_61_code 4 (Option.some FieldType.long) ∈ AW := aw_in (i := 584) (by decide +kernel) rfl
theorem q563 : Cond.methodLink RL 103 yX11_mean ∈ AW := aw_in (i := 585) (by decide +kernel) rfl
theorem qi_yX11_mean : Cond.instanceMethod yX11_mean ∈ AW := aw_in (i := 586) (by decide +kernel) rfl
theorem qs_yX11_mean : Cond.selects (yX11_mean : MethodName).cls yX11_mean yX11_mean ∈ AW := aw_in (i := 587) (by decide +kernel) rfl
theorem qc_yX11_mean : Cond.code yX11_mean prog_1_method_26_code 3 (Option.some FieldType.int) ∈ AW := aw_in (i := 588) (by decide +kernel) rfl
theorem n567 : Cond.methodLinkNest RX11 182 yX4_byAdding "PriceIrons" ∈ NWL := nw_in (i := 589) (by decide +kernel) rfl
theorem q568 : Cond.methodLink RL 106 yX11_meanBySums ∈ AW := aw_in (i := 590) (by decide +kernel) rfl
theorem qi_yX11_meanBySums : Cond.instanceMethod yX11_meanBySums ∈ AW := aw_in (i := 591) (by decide +kernel) rfl
theorem qs_yX11_meanBySums : Cond.selects (yX11_meanBySums : MethodName).cls yX11_meanBySums yX11_meanBySums ∈ AW := aw_in (i := 592) (by decide +kernel) rfl
theorem qc_yX11_meanBySums : Cond.code yX11_meanBySums prog_1_method_27_code 3 (Option.some FieldType.int) ∈ AW := aw_in (i := 593) (by decide +kernel) rfl
theorem n572 : Cond.methodLinkNest RX11 188 yX4_bySums "PriceIrons" ∈ NWL := nw_in (i := 594) (by decide +kernel) rfl
theorem qt_yX4_bySums : Cond.static yX4_bySums ∈ AW := aw_in (i := 595) (by decide +kernel) rfl
theorem qc_yX4_bySums : Cond.code yX4_bySums prog_6_method_4_code 6 (Option.some FieldType.int) ∈ AW := aw_in (i := 596) (by decide +kernel) rfl
theorem q575 : Cond.methodLink RX4 27 yX4_sumAhead ∈ AW := aw_in (i := 597) (by decide +kernel) rfl
theorem qt_yX4_sumAhead : Cond.static yX4_sumAhead ∈ AW := aw_in (i := 598) (by decide +kernel) rfl
theorem qc_yX4_sumAhead : Cond.code yX4_sumAhead prog_6_method_5_code 5 (Option.some FieldType.long) ∈ AW := aw_in (i := 599) (by decide +kernel) rfl
theorem q578 : Cond.methodLink RL 109 yX11_smoothedBack ∈ AW := aw_in (i := 600) (by decide +kernel) rfl
theorem qi_yX11_smoothedBack : Cond.instanceMethod yX11_smoothedBack ∈ AW := aw_in (i := 601) (by decide +kernel) rfl
theorem qs_yX11_smoothedBack : Cond.selects (yX11_smoothedBack : MethodName).cls yX11_smoothedBack yX11_smoothedBack ∈ AW := aw_in (i := 602) (by decide +kernel) rfl
theorem qc_yX11_smoothedBack : Cond.code yX11_smoothedBack prog_1_method_30_code 2 (Option.some FieldType.int) ∈ AW := aw_in (i := 603) (by decide +kernel) rfl
theorem n582 : Cond.methodLinkNest RX11 198 yX4_smoothedByRecursion "PriceIrons" ∈ NWL := nw_in (i := 604) (by decide +kernel) rfl
theorem qt_yX4_smoothedByRecursion : Cond.static yX4_smoothedByRecursion ∈ AW := aw_in (i := 605) (by decide +kernel) rfl
theorem qc_yX4_smoothedByRecursion : Cond.code yX4_smoothedByRecursion prog_6_method_8_code 4 (Option.some FieldType.int) ∈ AW := aw_in (i := 606) (by decide +kernel) rfl
theorem q585 : Cond.methodLink RX4 42 yX4_smoothedByRecursion ∈ AW := aw_in (i := 607) (by decide +kernel) rfl
theorem q586 : Cond.methodLink RL 112 yX11_high ∈ AW := aw_in (i := 608) (by decide +kernel) rfl
theorem qi_yX11_high : Cond.instanceMethod yX11_high ∈ AW := aw_in (i := 609) (by decide +kernel) rfl
theorem qs_yX11_high : Cond.selects (yX11_high : MethodName).cls yX11_high yX11_high ∈ AW := aw_in (i := 610) (by decide +kernel) rfl
theorem qc_yX11_high : Cond.code yX11_high prog_1_method_34_code 2 (Option.some FieldType.int) ∈ AW := aw_in (i := 611) (by decide +kernel) rfl
theorem n590 : Cond.methodLinkNest RX11 207 yX2_byLooking "PriceIrons" ∈ NWL := nw_in (i := 612) (by decide +kernel) rfl
theorem qt_yX2_byLooking : Cond.static yX2_byLooking ∈ AW := aw_in (i := 613) (by decide +kernel) rfl
theorem qc_yX2_byLooking : Cond.code yX2_byLooking prog_4_method_2_code 4 (Option.some FieldType.int) ∈ AW := aw_in (i := 614) (by decide +kernel) rfl
theorem n593 : Cond.methodLinkNest RX2 27 yX4_firstOf "PriceIrons" ∈ NWL := nw_in (i := 615) (by decide +kernel) rfl
theorem q594 : Cond.methodLink RL 115 yX11_highByCandidates ∈ AW := aw_in (i := 616) (by decide +kernel) rfl
theorem qi_yX11_highByCandidates : Cond.instanceMethod yX11_highByCandidates ∈ AW := aw_in (i := 617) (by decide +kernel) rfl
theorem qs_yX11_highByCandidates : Cond.selects (yX11_highByCandidates : MethodName).cls yX11_highByCandidates yX11_highByCandidates ∈ AW := aw_in (i := 618) (by decide +kernel) rfl
theorem qc_yX11_highByCandidates : Cond.code yX11_highByCandidates prog_1_method_35_code 2 (Option.some FieldType.int) ∈ AW := aw_in (i := 619) (by decide +kernel) rfl
theorem n598 : Cond.methodLinkNest RX11 210 yX2_byRow "PriceIrons" ∈ NWL := nw_in (i := 620) (by decide +kernel) rfl
theorem qi_yX2_byRow : Cond.instanceMethod yX2_byRow ∈ AW := aw_in (i := 622) (by decide +kernel) rfl
theorem qc_yX2_byRow : Cond.code yX2_byRow prog_4_method_3_code 4 (Option.some FieldType.int) ∈ AW := aw_in (i := 623) (by decide +kernel) rfl
theorem q602 : Cond.methodLink RX2 42 yX2_enter ∈ AW := aw_in (i := 624) (by decide +kernel) rfl
theorem qi_yX2_enter : Cond.instanceMethod yX2_enter ∈ AW := aw_in (i := 626) (by decide +kernel) rfl
theorem qc_yX2_enter : Cond.code yX2_enter prog_4_method_4_code 3 (Option.none : Option FieldType) ∈ AW := aw_in (i := 627) (by decide +kernel) rfl
theorem q606 : Cond.methodLink RX2 50 yX2_candidate ∈ AW := aw_in (i := 628) (by decide +kernel) rfl
theorem qi_yX2_candidate : Cond.instanceMethod yX2_candidate ∈ AW := aw_in (i := 630) (by decide +kernel) rfl
theorem qc_yX2_candidate : Cond.code yX2_candidate prog_4_method_6_code 2 (Option.some FieldType.int) ∈ AW := aw_in (i := 631) (by decide +kernel) rfl
theorem q610 : Cond.methodLink RX2 46 yX2_leave ∈ AW := aw_in (i := 632) (by decide +kernel) rfl
theorem qi_yX2_leave : Cond.instanceMethod yX2_leave ∈ AW := aw_in (i := 634) (by decide +kernel) rfl
theorem qc_yX2_leave : Cond.code yX2_leave prog_4_method_5_code 2 (Option.none : Option FieldType) ∈ AW := aw_in (i := 635) (by decide +kernel) rfl
theorem q614 : Cond.methodLink RL 118 yX11_pieces ∈ AW := aw_in (i := 636) (by decide +kernel) rfl
theorem qi_yX11_pieces : Cond.instanceMethod yX11_pieces ∈ AW := aw_in (i := 637) (by decide +kernel) rfl
theorem qs_yX11_pieces : Cond.selects (yX11_pieces : MethodName).cls yX11_pieces yX11_pieces ∈ AW := aw_in (i := 638) (by decide +kernel) rfl
theorem qc_yX11_pieces : Cond.code yX11_pieces prog_1_method_38_code 2 (Option.some FieldType.int) ∈ AW := aw_in (i := 639) (by decide +kernel) rfl
theorem n618 : Cond.methodLinkNest RX11 219 yX9_runTo "PriceIrons" ∈ NWL := nw_in (i := 640) (by decide +kernel) rfl
theorem qi_yX9_runTo : Cond.instanceMethod yX9_runTo ∈ AW := aw_in (i := 642) (by decide +kernel) rfl
theorem qc_yX9_runTo : Cond.code yX9_runTo prog_11_method_6_code 4 (Option.none : Option FieldType) ∈ AW := aw_in (i := 643) (by decide +kernel) rfl
theorem q622 : Cond.methodLink RX9 45 yX9_start ∈ AW := aw_in (i := 644) (by decide +kernel) rfl
theorem qi_yX9_start : Cond.instanceMethod yX9_start ∈ AW := aw_in (i := 646) (by decide +kernel) rfl
theorem qc_yX9_start : Cond.code yX9_start prog_11_method_5_code 1 (Option.none : Option FieldType) ∈ AW := aw_in (i := 647) (by decide +kernel) rfl
theorem q626 : Cond.methodLink RX9 48 yX9_pass ∈ AW := aw_in (i := 648) (by decide +kernel) rfl
theorem qi_yX9_pass : Cond.instanceMethod yX9_pass ∈ AW := aw_in (i := 650) (by decide +kernel) rfl
theorem qc_yX9_pass : Cond.code yX9_pass prog_11_method_7_code 8 (Option.none : Option FieldType) ∈ AW := aw_in (i := 651) (by decide +kernel) rfl
theorem q630 : Cond.methodLink RX9 42 yX9_crossingAt ∈ AW := aw_in (i := 652) (by decide +kernel) rfl
theorem n631 : Cond.methodLinkNest RX9 52 yX6_at "PriceIrons" ∈ NWL := nw_in (i := 653) (by decide +kernel) rfl
theorem n632 : Cond.methodLinkNest RX9 56 yX11_divided "PriceIrons" ∈ NWL := nw_in (i := 654) (by decide +kernel) rfl
theorem q633 : Cond.methodLink RX9 60 yJ9_min_f86c9 ∈ AW := aw_in (i := 655) (by decide +kernel) rfl
theorem qt_yJ9_min_f86c9 : Cond.static yJ9_min_f86c9 ∈ AW := aw_in (i := 656) (by decide +kernel) rfl
theorem qc_yJ9_min_f86c9 : Cond.code yJ9_min_f86c9 prog_19_method_70_code 4 (Option.some FieldType.long) ∈ AW := aw_in (i := 657) (by decide +kernel) rfl
theorem q636 : Cond.methodLink RL 121 yX11_worth ∈ AW := aw_in (i := 658) (by decide +kernel) rfl
theorem qi_yX11_worth : Cond.instanceMethod yX11_worth ∈ AW := aw_in (i := 659) (by decide +kernel) rfl
theorem qs_yX11_worth : Cond.selects (yX11_worth : MethodName).cls yX11_worth yX11_worth ∈ AW := aw_in (i := 660) (by decide +kernel) rfl
theorem qc_yX11_worth : Cond.code yX11_worth prog_1_method_39_code 2 (Option.some FieldType.long) ∈ AW := aw_in (i := 661) (by decide +kernel) rfl
theorem n640 : Cond.methodLinkNest RX11 225 yX9_valueAt "PriceIrons" ∈ NWL := nw_in (i := 662) (by decide +kernel) rfl
theorem qi_yX9_valueAt : Cond.instanceMethod yX9_valueAt ∈ AW := aw_in (i := 664) (by decide +kernel) rfl
theorem qc_yX9_valueAt : Cond.code yX9_valueAt prog_11_method_8_code 3 (Option.some FieldType.long) ∈ AW := aw_in (i := 665) (by decide +kernel) rfl
theorem q644 : Cond.methodLink RL 125 yX11_median ∈ AW := aw_in (i := 666) (by decide +kernel) rfl
theorem qi_yX11_median : Cond.instanceMethod yX11_median ∈ AW := aw_in (i := 667) (by decide +kernel) rfl
theorem qs_yX11_median : Cond.selects (yX11_median : MethodName).cls yX11_median yX11_median ∈ AW := aw_in (i := 668) (by decide +kernel) rfl
theorem qc_yX11_median : Cond.code yX11_median prog_1_method_31_code 2 (Option.some FieldType.int) ∈ AW := aw_in (i := 669) (by decide +kernel) rfl
theorem n648 : Cond.methodLinkNest RX11 201 yX0_middle "PriceIrons" ∈ NWL := nw_in (i := 670) (by decide +kernel) rfl
theorem q649 : Cond.methodLink RL 128 yX11_bestMethod ∈ AW := aw_in (i := 671) (by decide +kernel) rfl
theorem qi_yX11_bestMethod : Cond.instanceMethod yX11_bestMethod ∈ AW := aw_in (i := 672) (by decide +kernel) rfl
theorem qs_yX11_bestMethod : Cond.selects (yX11_bestMethod : MethodName).cls yX11_bestMethod yX11_bestMethod ∈ AW := aw_in (i := 673) (by decide +kernel) rfl
theorem qc_yX11_bestMethod : Cond.code yX11_bestMethod prog_1_method_48_code 1 (Option.some FieldType.int) ∈ AW := aw_in (i := 674) (by decide +kernel) rfl
theorem q653 : Cond.methodLink RX11 256 yX11_requirePrices ∈ AW := aw_in (i := 675) (by decide +kernel) rfl
theorem qi_yX11_requirePrices : Cond.instanceMethod yX11_requirePrices ∈ AW := aw_in (i := 677) (by decide +kernel) rfl
theorem qc_yX11_requirePrices : Cond.code yX11_requirePrices prog_1_method_64_code 2 (Option.none : Option FieldType) ∈ AW := aw_in (i := 678) (by decide +kernel) rfl
theorem n658 : Cond.methodLinkNest RX11 267 yX1_best "PriceIrons" ∈ NWL := nw_in (i := 680) (by decide +kernel) rfl
theorem qt_yX1_best : Cond.static yX1_best ∈ AW := aw_in (i := 681) (by decide +kernel) rfl
theorem qc_yX1_best : Cond.code yX1_best prog_3_method_4_code 5 (Option.some FieldType.int) ∈ AW := aw_in (i := 682) (by decide +kernel) rfl
theorem q661 : Cond.methodLink RX1 63 yX1_missOf ∈ AW := aw_in (i := 683) (by decide +kernel) rfl
theorem qt_yX1_missOf : Cond.static yX1_missOf ∈ AW := aw_in (i := 684) (by decide +kernel) rfl
theorem qc_yX1_missOf : Cond.code yX1_missOf prog_3_method_3_code 5 (Option.some FieldType.int) ∈ AW := aw_in (i := 685) (by decide +kernel) rfl
theorem q664 : Cond.methodLink RX1 50 yX1_behind ∈ AW := aw_in (i := 686) (by decide +kernel) rfl
theorem qt_yX1_behind : Cond.static yX1_behind ∈ AW := aw_in (i := 687) (by decide +kernel) rfl
theorem qc_yX1_behind : Cond.code yX1_behind prog_3_method_2_code 5 (Option.some FieldType.int) ∈ AW := aw_in (i := 688) (by decide +kernel) rfl
theorem n667 : Cond.methodLinkNest RX1 9 yX6_partOf "PriceIrons" ∈ NWL := nw_in (i := 689) (by decide +kernel) rfl
theorem qi_yX6_partOf : Cond.instanceMethod yX6_partOf ∈ AW := aw_in (i := 691) (by decide +kernel) rfl
theorem qc_yX6_partOf : Cond.code yX6_partOf prog_8_method_8_code 2 (Option.some FieldType.int) ∈ AW := aw_in (i := 692) (by decide +kernel) rfl
theorem n671 : Cond.methodLinkNest RX1 15 yX5_daysOf "PriceIrons" ∈ NWL := nw_in (i := 693) (by decide +kernel) rfl
theorem qt_yX5_daysOf : Cond.static yX5_daysOf ∈ AW := aw_in (i := 694) (by decide +kernel) rfl
theorem qc_yX5_daysOf : Cond.code yX5_daysOf prog_7_method_2_code 5 (Option.some FieldType.int) ∈ AW := aw_in (i := 695) (by decide +kernel) rfl
theorem n674 : Cond.methodLinkNest RX5 7 yX6_partOf "PriceIrons" ∈ NWL := nw_in (i := 696) (by decide +kernel) rfl
theorem q675 : Cond.constantLong RX1 21 (1000 : Int64) ∈ AW := aw_in (i := 697) (by decide +kernel) rfl
theorem n676 : Cond.methodLinkNest RX1 23 yX5_sumOf "PriceIrons" ∈ NWL := nw_in (i := 698) (by decide +kernel) rfl
theorem qt_yX5_sumOf : Cond.static yX5_sumOf ∈ AW := aw_in (i := 699) (by decide +kernel) rfl
theorem qc_yX5_sumOf : Cond.code yX5_sumOf prog_7_method_3_code 6 (Option.some FieldType.long) ∈ AW := aw_in (i := 700) (by decide +kernel) rfl
theorem n679 : Cond.methodLinkNest RX5 13 yX6_at "PriceIrons" ∈ NWL := nw_in (i := 701) (by decide +kernel) rfl
theorem n680 : Cond.methodLinkNest RX1 27 yX11_divided "PriceIrons" ∈ NWL := nw_in (i := 702) (by decide +kernel) rfl
theorem n681 : Cond.methodLinkNest RX1 31 yX4_smoothedForwards "PriceIrons" ∈ NWL := nw_in (i := 703) (by decide +kernel) rfl
theorem n682 : Cond.methodLinkNest RX1 44 yX4_byAdding "PriceIrons" ∈ NWL := nw_in (i := 704) (by decide +kernel) rfl
theorem n683 : Cond.methodLinkNest RX1 55 yX6_at "PriceIrons" ∈ NWL := nw_in (i := 705) (by decide +kernel) rfl
theorem q684 : Cond.methodLink RX1 58 yJ9_abs_0f7a4 ∈ AW := aw_in (i := 706) (by decide +kernel) rfl
theorem q685 : Cond.methodLink RL 131 yX11_error ∈ AW := aw_in (i := 707) (by decide +kernel) rfl
theorem qi_yX11_error : Cond.instanceMethod yX11_error ∈ AW := aw_in (i := 708) (by decide +kernel) rfl
theorem qs_yX11_error : Cond.selects (yX11_error : MethodName).cls yX11_error yX11_error ∈ AW := aw_in (i := 709) (by decide +kernel) rfl
theorem qc_yX11_error : Cond.code yX11_error prog_1_method_47_code 2 (Option.some FieldType.int) ∈ AW := aw_in (i := 710) (by decide +kernel) rfl
theorem n689 : Cond.methodLinkNest RX11 264 yX1_missOf "PriceIrons" ∈ NWL := nw_in (i := 711) (by decide +kernel) rfl
theorem q690 : Cond.methodLink RL 134 yX11_crossings ∈ AW := aw_in (i := 712) (by decide +kernel) rfl
theorem qi_yX11_crossings : Cond.instanceMethod yX11_crossings ∈ AW := aw_in (i := 713) (by decide +kernel) rfl
theorem qs_yX11_crossings : Cond.selects (yX11_crossings : MethodName).cls yX11_crossings yX11_crossings ∈ AW := aw_in (i := 714) (by decide +kernel) rfl
theorem qc_yX11_crossings : Cond.code yX11_crossings prog_1_method_37_code 1 (Option.some FieldType.int) ∈ AW := aw_in (i := 715) (by decide +kernel) rfl
theorem n694 : Cond.methodLinkNest RX11 216 yX9_numberOfCrossings "PriceIrons" ∈ NWL := nw_in (i := 716) (by decide +kernel) rfl
theorem qt_yX9_numberOfCrossings : Cond.static yX9_numberOfCrossings ∈ AW := aw_in (i := 717) (by decide +kernel) rfl
theorem qc_yX9_numberOfCrossings : Cond.code yX9_numberOfCrossings prog_11_method_4_code 3 (Option.some FieldType.int) ∈ AW := aw_in (i := 718) (by decide +kernel) rfl
theorem q697 : Cond.constant RL 156 (65535 : Int32) ∈ AW := aw_in (i := 719) (by decide +kernel) rfl
