/-- the words of the tables that go along with any call -/
def AW : List Cond := lw_tbl.filter goodWord
theorem AW_good {w : Cond} (h : w ∈ AW) : goodWord w = true := (List.mem_filter.mp h).2
theorem aw_in {i : Nat} {w : Cond} (h : lw_tbl[i]? = some w) (g : goodWord w = true) : w ∈ AW := List.mem_filter.mpr ⟨List.mem_of_getElem? h, g⟩
def isNest : Cond → Bool
  | .fieldLinkNest .. => true
  | .methodLinkNest .. => true
  | .castable .. => true
  | .declares .. => true
  | _ => false
def NWL : List Cond := lw_tbl.filter isNest
theorem nw_in {i : Nat} {w : Cond} (h : lw_tbl[i]? = some w) (g : isNest w = true) : w ∈ NWL := List.mem_filter.mpr ⟨List.mem_of_getElem? h, g⟩
theorem qs_yX3_save : Cond.selects (yX3_save : MethodName).cls yX3_save yX3_save ∈ AW := aw_in (i := 0) (by decide +kernel) rfl
theorem qs_yX3_newest : Cond.selects (yX3_newest : MethodName).cls yX3_newest yX3_newest ∈ AW := aw_in (i := 1) (by decide +kernel) rfl
theorem qs_yX6_copyFrom : Cond.selects (yX6_copyFrom : MethodName).cls yX6_copyFrom yX6_copyFrom ∈ AW := aw_in (i := 2) (by decide +kernel) rfl
theorem qs_yX6_at : Cond.selects (yX6_at : MethodName).cls yX6_at yX6_at ∈ AW := aw_in (i := 3) (by decide +kernel) rfl
theorem qs_yX6_put : Cond.selects (yX6_put : MethodName).cls yX6_put yX6_put ∈ AW := aw_in (i := 4) (by decide +kernel) rfl
theorem qs_yX8_empty : Cond.selects (yX8_empty : MethodName).cls yX8_empty yX8_empty ∈ AW := aw_in (i := 5) (by decide +kernel) rfl
theorem qs_yX8_firstRefused : Cond.selects (yX8_firstRefused : MethodName).cls yX8_firstRefused yX8_firstRefused ∈ AW := aw_in (i := 6) (by decide +kernel) rfl
theorem qs_yX7_start : Cond.selects (yX7_start : MethodName).cls yX7_start yX7_start ∈ AW := aw_in (i := 7) (by decide +kernel) rfl
theorem qs_yX7_startNumber : Cond.selects (yX7_startNumber : MethodName).cls yX7_startNumber yX7_startNumber ∈ AW := aw_in (i := 8) (by decide +kernel) rfl
theorem qs_yX8_codeAt : Cond.selects (yX8_codeAt : MethodName).cls yX8_codeAt yX8_codeAt ∈ AW := aw_in (i := 9) (by decide +kernel) rfl
theorem qs_yX7_takes : Cond.selects (yX7_takes : MethodName).cls yX7_takes yX7_takes ∈ AW := aw_in (i := 10) (by decide +kernel) rfl
theorem qs_yX7_takesLetter : Cond.selects (yX7_takesLetter : MethodName).cls yX7_takesLetter yX7_takesLetter ∈ AW := aw_in (i := 11) (by decide +kernel) rfl
theorem qs_yX7_takesDigit : Cond.selects (yX7_takesDigit : MethodName).cls yX7_takesDigit yX7_takesDigit ∈ AW := aw_in (i := 12) (by decide +kernel) rfl
theorem qs_yX7_canBecomeNumber : Cond.selects (yX7_canBecomeNumber : MethodName).cls yX7_canBecomeNumber yX7_canBecomeNumber ∈ AW := aw_in (i := 13) (by decide +kernel) rfl
theorem qs_yX7_least : Cond.selects (yX7_least : MethodName).cls yX7_least yX7_least ∈ AW := aw_in (i := 14) (by decide +kernel) rfl
theorem qs_yX7_most : Cond.selects (yX7_most : MethodName).cls yX7_most yX7_most ∈ AW := aw_in (i := 15) (by decide +kernel) rfl
theorem qs_yX7_numberStands : Cond.selects (yX7_numberStands : MethodName).cls yX7_numberStands yX7_numberStands ∈ AW := aw_in (i := 16) (by decide +kernel) rfl
theorem qs_yX7_wantsLonger : Cond.selects (yX7_wantsLonger : MethodName).cls yX7_wantsLonger yX7_wantsLonger ∈ AW := aw_in (i := 17) (by decide +kernel) rfl
theorem qs_yX11_hashOfTotals : Cond.selects (yX11_hashOfTotals : MethodName).cls yX11_hashOfTotals yX11_hashOfTotals ∈ AW := aw_in (i := 18) (by decide +kernel) rfl
theorem qs_yX11_hashOfDays : Cond.selects (yX11_hashOfDays : MethodName).cls yX11_hashOfDays yX11_hashOfDays ∈ AW := aw_in (i := 19) (by decide +kernel) rfl
theorem qs_yX9_start : Cond.selects (yX9_start : MethodName).cls yX9_start yX9_start ∈ AW := aw_in (i := 20) (by decide +kernel) rfl
theorem qs_yX11_hashOfMeans : Cond.selects (yX11_hashOfMeans : MethodName).cls yX11_hashOfMeans yX11_hashOfMeans ∈ AW := aw_in (i := 21) (by decide +kernel) rfl
theorem qs_yX2_byRow : Cond.selects (yX2_byRow : MethodName).cls yX2_byRow yX2_byRow ∈ AW := aw_in (i := 22) (by decide +kernel) rfl
theorem qs_yX2_enter : Cond.selects (yX2_enter : MethodName).cls yX2_enter yX2_enter ∈ AW := aw_in (i := 23) (by decide +kernel) rfl
theorem qs_yX2_candidate : Cond.selects (yX2_candidate : MethodName).cls yX2_candidate yX2_candidate ∈ AW := aw_in (i := 24) (by decide +kernel) rfl
theorem qs_yX2_leave : Cond.selects (yX2_leave : MethodName).cls yX2_leave yX2_leave ∈ AW := aw_in (i := 25) (by decide +kernel) rfl
theorem qs_yX9_pass : Cond.selects (yX9_pass : MethodName).cls yX9_pass yX9_pass ∈ AW := aw_in (i := 26) (by decide +kernel) rfl
theorem qs_yX9_valueAt : Cond.selects (yX9_valueAt : MethodName).cls yX9_valueAt yX9_valueAt ∈ AW := aw_in (i := 27) (by decide +kernel) rfl
theorem qs_yX6_partOf : Cond.selects (yX6_partOf : MethodName).cls yX6_partOf yX6_partOf ∈ AW := aw_in (i := 28) (by decide +kernel) rfl
theorem qs_yX11_hashOfSeason : Cond.selects (yX11_hashOfSeason : MethodName).cls yX11_hashOfSeason yX11_hashOfSeason ∈ AW := aw_in (i := 29) (by decide +kernel) rfl
theorem qs_yX11_hashOfForecasts : Cond.selects (yX11_hashOfForecasts : MethodName).cls yX11_hashOfForecasts yX11_hashOfForecasts ∈ AW := aw_in (i := 30) (by decide +kernel) rfl
theorem qs_yX11_hashOfStop : Cond.selects (yX11_hashOfStop : MethodName).cls yX11_hashOfStop yX11_hashOfStop ∈ AW := aw_in (i := 31) (by decide +kernel) rfl
theorem qs_yX11_hashOfText : Cond.selects (yX11_hashOfText : MethodName).cls yX11_hashOfText yX11_hashOfText ∈ AW := aw_in (i := 32) (by decide +kernel) rfl
theorem qs_yX6_add : Cond.selects (yX6_add : MethodName).cls yX6_add yX6_add ∈ AW := aw_in (i := 34) (by decide +kernel) rfl
theorem qs_yX11_requireDay : Cond.selects (yX11_requireDay : MethodName).cls yX11_requireDay yX11_requireDay ∈ AW := aw_in (i := 35) (by decide +kernel) rfl
theorem qs_yX6_hasDay : Cond.selects (yX6_hasDay : MethodName).cls yX6_hasDay yX6_hasDay ∈ AW := aw_in (i := 36) (by decide +kernel) rfl
theorem qs_yX6_drop : Cond.selects (yX6_drop : MethodName).cls yX6_drop yX6_drop ∈ AW := aw_in (i := 37) (by decide +kernel) rfl
theorem qs_yX8_add : Cond.selects (yX8_add : MethodName).cls yX8_add yX8_add ∈ AW := aw_in (i := 38) (by decide +kernel) rfl
theorem qs_yX8_isWhole : Cond.selects (yX8_isWhole : MethodName).cls yX8_isWhole yX8_isWhole ∈ AW := aw_in (i := 39) (by decide +kernel) rfl
theorem qs_yX7_mayEnd : Cond.selects (yX7_mayEnd : MethodName).cls yX7_mayEnd yX7_mayEnd ∈ AW := aw_in (i := 40) (by decide +kernel) rfl
theorem qs_yX10_run : Cond.selects (yX10_run : MethodName).cls yX10_run yX10_run ∈ AW := aw_in (i := 41) (by decide +kernel) rfl
theorem qs_yX10_readPart : Cond.selects (yX10_readPart : MethodName).cls yX10_readPart yX10_readPart ∈ AW := aw_in (i := 42) (by decide +kernel) rfl
theorem qs_yX10_startNumber : Cond.selects (yX10_startNumber : MethodName).cls yX10_startNumber yX10_startNumber ∈ AW := aw_in (i := 43) (by decide +kernel) rfl
theorem qs_yX10_growNumber : Cond.selects (yX10_growNumber : MethodName).cls yX10_growNumber yX10_growNumber ∈ AW := aw_in (i := 44) (by decide +kernel) rfl
theorem qs_yX10_doPart : Cond.selects (yX10_doPart : MethodName).cls yX10_doPart yX10_doPart ∈ AW := aw_in (i := 45) (by decide +kernel) rfl
theorem qs_yX10_addAll : Cond.selects (yX10_addAll : MethodName).cls yX10_addAll yX10_addAll ∈ AW := aw_in (i := 46) (by decide +kernel) rfl
theorem qs_yX10_number : Cond.selects (yX10_number : MethodName).cls yX10_number yX10_number ∈ AW := aw_in (i := 47) (by decide +kernel) rfl
theorem qs_yX10_changeWindows : Cond.selects (yX10_changeWindows : MethodName).cls yX10_changeWindows yX10_changeWindows ∈ AW := aw_in (i := 48) (by decide +kernel) rfl
theorem qs_yX10_flattenOne : Cond.selects (yX10_flattenOne : MethodName).cls yX10_flattenOne yX10_flattenOne ∈ AW := aw_in (i := 49) (by decide +kernel) rfl
theorem qs_yX11_requireStop : Cond.selects (yX11_requireStop : MethodName).cls yX11_requireStop yX11_requireStop ∈ AW := aw_in (i := 50) (by decide +kernel) rfl
theorem qs_yX3_takeBack : Cond.selects (yX3_takeBack : MethodName).cls yX3_takeBack yX3_takeBack ∈ AW := aw_in (i := 51) (by decide +kernel) rfl
theorem qs_yX9_runTo : Cond.selects (yX9_runTo : MethodName).cls yX9_runTo yX9_runTo ∈ AW := aw_in (i := 52) (by decide +kernel) rfl
theorem qs_yX11_requirePrices : Cond.selects (yX11_requirePrices : MethodName).cls yX11_requirePrices yX11_requirePrices ∈ AW := aw_in (i := 53) (by decide +kernel) rfl
theorem qs_yX12_fails : Cond.selects (yX12_fails : MethodName).cls yX12_fails yX12_fails ∈ AW := aw_in (i := 54) (by decide +kernel) rfl
theorem qs_yX12_records : Cond.selects (yX12_records : MethodName).cls yX12_records yX12_records ∈ AW := aw_in (i := 55) (by decide +kernel) rfl
theorem qs_yX12_adds : Cond.selects (yX12_adds : MethodName).cls yX12_adds yX12_adds ∈ AW := aw_in (i := 56) (by decide +kernel) rfl
theorem qs_yX12_isDay : Cond.selects (yX12_isDay : MethodName).cls yX12_isDay yX12_isDay ∈ AW := aw_in (i := 57) (by decide +kernel) rfl
theorem qs_yX12_sets : Cond.selects (yX12_sets : MethodName).cls yX12_sets yX12_sets ∈ AW := aw_in (i := 58) (by decide +kernel) rfl
theorem qs_yX12_of : Cond.selects (yX12_of : MethodName).cls yX12_of yX12_of ∈ AW := aw_in (i := 59) (by decide +kernel) rfl
theorem qs_yX12_creased : Cond.selects (yX12_creased : MethodName).cls yX12_creased yX12_creased ∈ AW := aw_in (i := 60) (by decide +kernel) rfl
theorem qs_yX12_middle : Cond.selects (yX12_middle : MethodName).cls yX12_middle yX12_middle ∈ AW := aw_in (i := 61) (by decide +kernel) rfl
theorem qs_yX12_presses : Cond.selects (yX12_presses : MethodName).cls yX12_presses yX12_presses ∈ AW := aw_in (i := 62) (by decide +kernel) rfl
theorem qs_yX12_pressesAll : Cond.selects (yX12_pressesAll : MethodName).cls yX12_pressesAll yX12_pressesAll ∈ AW := aw_in (i := 63) (by decide +kernel) rfl
theorem qs_yX12_readsWorks : Cond.selects (yX12_readsWorks : MethodName).cls yX12_readsWorks yX12_readsWorks ∈ AW := aw_in (i := 64) (by decide +kernel) rfl
theorem qs_yX12_readsPart : Cond.selects (yX12_readsPart : MethodName).cls yX12_readsPart yX12_readsPart ∈ AW := aw_in (i := 65) (by decide +kernel) rfl
theorem qs_yX12_sign : Cond.selects (yX12_sign : MethodName).cls yX12_sign yX12_sign ∈ AW := aw_in (i := 66) (by decide +kernel) rfl
theorem qs_yX12_readsPrices : Cond.selects (yX12_readsPrices : MethodName).cls yX12_readsPrices yX12_readsPrices ∈ AW := aw_in (i := 67) (by decide +kernel) rfl
theorem qs_yX12_number : Cond.selects (yX12_number : MethodName).cls yX12_number yX12_number ∈ AW := aw_in (i := 68) (by decide +kernel) rfl
theorem qs_yX12_takes : Cond.selects (yX12_takes : MethodName).cls yX12_takes yX12_takes ∈ AW := aw_in (i := 69) (by decide +kernel) rfl
theorem qs_yX12_longNumber : Cond.selects (yX12_longNumber : MethodName).cls yX12_longNumber yX12_longNumber ∈ AW := aw_in (i := 70) (by decide +kernel) rfl
theorem qs_yX12_does : Cond.selects (yX12_does : MethodName).cls yX12_does yX12_does ∈ AW := aw_in (i := 71) (by decide +kernel) rfl
theorem qs_yX12_tellsMean : Cond.selects (yX12_tellsMean : MethodName).cls yX12_tellsMean yX12_tellsMean ∈ AW := aw_in (i := 72) (by decide +kernel) rfl
theorem qs_yX12_meanOf : Cond.selects (yX12_meanOf : MethodName).cls yX12_meanOf yX12_meanOf ∈ AW := aw_in (i := 73) (by decide +kernel) rfl
theorem qs_yX12_weighted : Cond.selects (yX12_weighted : MethodName).cls yX12_weighted yX12_weighted ∈ AW := aw_in (i := 74) (by decide +kernel) rfl
theorem qs_yX12_tellsSmooth : Cond.selects (yX12_tellsSmooth : MethodName).cls yX12_tellsSmooth yX12_tellsSmooth ∈ AW := aw_in (i := 75) (by decide +kernel) rfl
theorem qs_yX12_smooth : Cond.selects (yX12_smooth : MethodName).cls yX12_smooth yX12_smooth ∈ AW := aw_in (i := 76) (by decide +kernel) rfl
theorem qs_yX12_creaseMany : Cond.selects (yX12_creaseMany : MethodName).cls yX12_creaseMany yX12_creaseMany ∈ AW := aw_in (i := 77) (by decide +kernel) rfl
theorem qs_yX12_tellsHigh : Cond.selects (yX12_tellsHigh : MethodName).cls yX12_tellsHigh yX12_tellsHigh ∈ AW := aw_in (i := 78) (by decide +kernel) rfl
theorem qs_yX12_greatest : Cond.selects (yX12_greatest : MethodName).cls yX12_greatest yX12_greatest ∈ AW := aw_in (i := 79) (by decide +kernel) rfl
theorem qs_yX12_crosses : Cond.selects (yX12_crosses : MethodName).cls yX12_crosses yX12_crosses ∈ AW := aw_in (i := 80) (by decide +kernel) rfl
theorem qs_yX12_side : Cond.selects (yX12_side : MethodName).cls yX12_side yX12_side ∈ AW := aw_in (i := 81) (by decide +kernel) rfl
theorem qs_yX12_crossMany : Cond.selects (yX12_crossMany : MethodName).cls yX12_crossMany yX12_crossMany ∈ AW := aw_in (i := 82) (by decide +kernel) rfl
theorem qs_yX12_piecesAt : Cond.selects (yX12_piecesAt : MethodName).cls yX12_piecesAt yX12_piecesAt ∈ AW := aw_in (i := 83) (by decide +kernel) rfl
theorem qs_yX12_trades : Cond.selects (yX12_trades : MethodName).cls yX12_trades yX12_trades ∈ AW := aw_in (i := 84) (by decide +kernel) rfl
theorem qs_yX12_worthAt : Cond.selects (yX12_worthAt : MethodName).cls yX12_worthAt yX12_worthAt ∈ AW := aw_in (i := 85) (by decide +kernel) rfl
theorem qs_yX12_fall : Cond.selects (yX12_fall : MethodName).cls yX12_fall yX12_fall ∈ AW := aw_in (i := 86) (by decide +kernel) rfl
theorem qs_yX12_rise : Cond.selects (yX12_rise : MethodName).cls yX12_rise yX12_rise ∈ AW := aw_in (i := 87) (by decide +kernel) rfl
theorem qs_yX12_index : Cond.selects (yX12_index : MethodName).cls yX12_index yX12_index ∈ AW := aw_in (i := 88) (by decide +kernel) rfl
theorem qs_yX12_partSum : Cond.selects (yX12_partSum : MethodName).cls yX12_partSum yX12_partSum ∈ AW := aw_in (i := 89) (by decide +kernel) rfl
theorem qs_yX12_partDays : Cond.selects (yX12_partDays : MethodName).cls yX12_partDays yX12_partDays ∈ AW := aw_in (i := 90) (by decide +kernel) rfl
theorem qs_yX12_allSum : Cond.selects (yX12_allSum : MethodName).cls yX12_allSum yX12_allSum ∈ AW := aw_in (i := 91) (by decide +kernel) rfl
theorem qs_yX12_bare : Cond.selects (yX12_bare : MethodName).cls yX12_bare yX12_bare ∈ AW := aw_in (i := 92) (by decide +kernel) rfl
theorem qs_yX12_told : Cond.selects (yX12_told : MethodName).cls yX12_told yX12_told ∈ AW := aw_in (i := 93) (by decide +kernel) rfl
theorem qs_yX12_errorOf : Cond.selects (yX12_errorOf : MethodName).cls yX12_errorOf yX12_errorOf ∈ AW := aw_in (i := 94) (by decide +kernel) rfl
theorem qs_yX12_best : Cond.selects (yX12_best : MethodName).cls yX12_best yX12_best ∈ AW := aw_in (i := 95) (by decide +kernel) rfl
theorem qs_yX12_share : Cond.selects (yX12_share : MethodName).cls yX12_share yX12_share ∈ AW := aw_in (i := 96) (by decide +kernel) rfl
theorem qs_yX12_digestDay : Cond.selects (yX12_digestDay : MethodName).cls yX12_digestDay yX12_digestDay ∈ AW := aw_in (i := 97) (by decide +kernel) rfl
theorem qs_yX12_digestForecasts : Cond.selects (yX12_digestForecasts : MethodName).cls yX12_digestForecasts yX12_digestForecasts ∈ AW := aw_in (i := 98) (by decide +kernel) rfl
theorem q0 : Cond.initialized "PriceIronsLaw" ∈ AW := aw_in (i := 99) (by decide +kernel) rfl
theorem q1 : Cond.initialized "PriceIrons" ∈ AW := aw_in (i := 100) (by decide +kernel) rfl
theorem q2 : Cond.initialized "PriceIrons$State" ∈ AW := aw_in (i := 101) (by decide +kernel) rfl
theorem q3 : Cond.initialized "PriceIrons$History" ∈ AW := aw_in (i := 102) (by decide +kernel) rfl
theorem q4 : Cond.initialized "PriceIrons$Text" ∈ AW := aw_in (i := 103) (by decide +kernel) rfl
theorem q5 : Cond.initialized "PriceIrons$Syntax" ∈ AW := aw_in (i := 104) (by decide +kernel) rfl
theorem q6 : Cond.initialized "PriceIrons$Works" ∈ AW := aw_in (i := 105) (by decide +kernel) rfl
theorem q7 : Cond.initialized "PriceIrons$Highs" ∈ AW := aw_in (i := 106) (by decide +kernel) rfl
theorem q8 : Cond.initialized "PriceIrons$Trade" ∈ AW := aw_in (i := 107) (by decide +kernel) rfl
theorem q9 : Cond.initialized "PriceIronsModel" ∈ AW := aw_in (i := 108) (by decide +kernel) rfl
theorem q10 : Cond.initialized "java/lang/Throwable" ∈ AW := aw_in (i := 109) (by decide +kernel) rfl
theorem q11 : Cond.initialized "java/lang/Exception" ∈ AW := aw_in (i := 110) (by decide +kernel) rfl
theorem q12 : Cond.initialized "java/lang/RuntimeException" ∈ AW := aw_in (i := 111) (by decide +kernel) rfl
theorem q13 : Cond.initialized "java/lang/IllegalArgumentException" ∈ AW := aw_in (i := 112) (by decide +kernel) rfl
theorem q14 : Cond.initialized "java/lang/IllegalStateException" ∈ AW := aw_in (i := 113) (by decide +kernel) rfl
theorem q15 : Cond.initialized "java/lang/System" ∈ AW := aw_in (i := 114) (by decide +kernel) rfl
theorem q16 : Cond.initialized "java/lang/IndexOutOfBoundsException" ∈ AW := aw_in (i := 115) (by decide +kernel) rfl
theorem q17 : Cond.initialized "PriceIrons$Creases" ∈ AW := aw_in (i := 116) (by decide +kernel) rfl
theorem q18 : Cond.initialized "PriceIrons$Means" ∈ AW := aw_in (i := 117) (by decide +kernel) rfl
theorem q19 : Cond.initialized "java/lang/Math" ∈ AW := aw_in (i := 118) (by decide +kernel) rfl
theorem q20 : Cond.initialized "PriceIrons$Seasons" ∈ AW := aw_in (i := 119) (by decide +kernel) rfl
theorem q21 : Cond.initialized "PriceIrons$Forecasts" ∈ AW := aw_in (i := 120) (by decide +kernel) rfl
theorem q22 : Cond.initialized "java/lang/Double" ∈ AW := aw_in (i := 121) (by decide +kernel) rfl
theorem q23 : Cond.classLink RL 8 "PriceIrons" ∈ AW := aw_in (i := 122) (by decide +kernel) rfl
theorem q24 : Cond.instantiable RX11 9 ∈ AW := aw_in (i := 123) (by decide +kernel) rfl
theorem q25 : Cond.methodLink RL 119 yX11_init ∈ AW := aw_in (i := 124) (by decide +kernel) rfl
theorem qi_yX11_init : Cond.instanceMethod yX11_init ∈ AW := aw_in (i := 125) (by decide +kernel) rfl
theorem qc_yX11_init : Cond.code yX11_init prog_1_method_1_code 1 (Option.none : Option FieldType) ∈ AW := aw_in (i := 126) (by decide +kernel) rfl
theorem q28 : Cond.methodLink RX11 1 (⟨"java/lang/Object", "<init>", "()V"⟩ : MethodName) ∈ AW := aw_in (i := 127) (by decide +kernel) rfl
theorem q29 : Cond.instanceMethod (⟨"java/lang/Object", "<init>", "()V"⟩ : MethodName) ∈ AW := aw_in (i := 128) (by decide +kernel) rfl
theorem q30 : Cond.code (⟨"java/lang/Object", "<init>", "()V"⟩ : MethodName) object_method_1_code 1 (Option.none : Option FieldType) ∈ AW := aw_in (i := 129) (by decide +kernel) rfl
theorem q31 : Cond.classLink RX11 7 "PriceIrons$State" ∈ AW := aw_in (i := 130) (by decide +kernel) rfl
theorem q32 : Cond.instantiable RX6 10 ∈ AW := aw_in (i := 131) (by decide +kernel) rfl
theorem n33 : Cond.methodLinkNest RX11 9 yX6_init "PriceIrons" ∈ NWL := nw_in (i := 132) (by decide +kernel) rfl
theorem qi_yX6_init : Cond.instanceMethod yX6_init ∈ AW := aw_in (i := 133) (by decide +kernel) rfl
theorem qc_yX6_init : Cond.code yX6_init prog_8_method_1_code 1 (Option.none : Option FieldType) ∈ AW := aw_in (i := 134) (by decide +kernel) rfl
theorem q36 : Cond.methodLink RX6 3 (⟨"java/lang/Object", "<init>", "()V"⟩ : MethodName) ∈ AW := aw_in (i := 135) (by decide +kernel) rfl
theorem q37 : Cond.fieldLink RX6 9 "PriceIrons$State" "row" "[I" ∈ AW := aw_in (i := 136) (by decide +kernel) rfl
theorem q38 : Cond.fieldLink RX6 15 "PriceIrons$State" "length" "I" ∈ AW := aw_in (i := 137) (by decide +kernel) rfl
theorem n39 : Cond.fieldLinkNest RX11 65 "PriceIrons$State" "length" "I" "PriceIrons" ∈ NWL := nw_in (i := 138) (by decide +kernel) rfl
theorem n40 : Cond.fieldLinkNest RX1 47 "PriceIrons$State" "length" "I" "PriceIrons" ∈ NWL := nw_in (i := 139) (by decide +kernel) rfl
theorem n41 : Cond.fieldLinkNest RX0 37 "PriceIrons$State" "length" "I" "PriceIrons" ∈ NWL := nw_in (i := 140) (by decide +kernel) rfl
theorem n42 : Cond.fieldLinkNest RX9 39 "PriceIrons$State" "length" "I" "PriceIrons" ∈ NWL := nw_in (i := 141) (by decide +kernel) rfl
theorem n43 : Cond.fieldLinkNest RX5 18 "PriceIrons$State" "length" "I" "PriceIrons" ∈ NWL := nw_in (i := 142) (by decide +kernel) rfl
theorem n44 : Cond.fieldLinkNest RX2 53 "PriceIrons$State" "length" "I" "PriceIrons" ∈ NWL := nw_in (i := 143) (by decide +kernel) rfl
theorem n45 : Cond.fieldLinkNest RX10 81 "PriceIrons$State" "length" "I" "PriceIrons" ∈ NWL := nw_in (i := 144) (by decide +kernel) rfl
theorem q46 : Cond.fieldLink RX6 19 "PriceIrons$State" "shorter" "I" ∈ AW := aw_in (i := 145) (by decide +kernel) rfl
theorem n47 : Cond.fieldLinkNest RX0 7 "PriceIrons$State" "shorter" "I" "PriceIrons" ∈ NWL := nw_in (i := 146) (by decide +kernel) rfl
theorem n48 : Cond.fieldLinkNest RX1 37 "PriceIrons$State" "shorter" "I" "PriceIrons" ∈ NWL := nw_in (i := 147) (by decide +kernel) rfl
theorem n49 : Cond.fieldLinkNest RX9 25 "PriceIrons$State" "shorter" "I" "PriceIrons" ∈ NWL := nw_in (i := 148) (by decide +kernel) rfl
theorem n50 : Cond.fieldLinkNest RX11 124 "PriceIrons$State" "shorter" "I" "PriceIrons" ∈ NWL := nw_in (i := 149) (by decide +kernel) rfl
theorem n51 : Cond.fieldLinkNest RX10 85 "PriceIrons$State" "shorter" "I" "PriceIrons" ∈ NWL := nw_in (i := 150) (by decide +kernel) rfl
theorem q52 : Cond.fieldLink RX6 22 "PriceIrons$State" "longer" "I" ∈ AW := aw_in (i := 151) (by decide +kernel) rfl
theorem n53 : Cond.fieldLinkNest RX2 22 "PriceIrons$State" "longer" "I" "PriceIrons" ∈ NWL := nw_in (i := 152) (by decide +kernel) rfl
theorem n54 : Cond.fieldLinkNest RX1 41 "PriceIrons$State" "longer" "I" "PriceIrons" ∈ NWL := nw_in (i := 153) (by decide +kernel) rfl
theorem n55 : Cond.fieldLinkNest RX9 36 "PriceIrons$State" "longer" "I" "PriceIrons" ∈ NWL := nw_in (i := 154) (by decide +kernel) rfl
theorem n56 : Cond.fieldLinkNest RX4 31 "PriceIrons$State" "longer" "I" "PriceIrons" ∈ NWL := nw_in (i := 155) (by decide +kernel) rfl
theorem n57 : Cond.fieldLinkNest RX11 121 "PriceIrons$State" "longer" "I" "PriceIrons" ∈ NWL := nw_in (i := 156) (by decide +kernel) rfl
theorem n58 : Cond.fieldLinkNest RX10 88 "PriceIrons$State" "longer" "I" "PriceIrons" ∈ NWL := nw_in (i := 157) (by decide +kernel) rfl
theorem q59 : Cond.fieldLink RX6 25 "PriceIrons$State" "memory" "I" ∈ AW := aw_in (i := 158) (by decide +kernel) rfl
theorem n60 : Cond.fieldLinkNest RX4 35 "PriceIrons$State" "memory" "I" "PriceIrons" ∈ NWL := nw_in (i := 159) (by decide +kernel) rfl
theorem n61 : Cond.fieldLinkNest RX10 67 "PriceIrons$State" "memory" "I" "PriceIrons" ∈ NWL := nw_in (i := 160) (by decide +kernel) rfl
theorem n62 : Cond.fieldLinkNest RX11 127 "PriceIrons$State" "memory" "I" "PriceIrons" ∈ NWL := nw_in (i := 161) (by decide +kernel) rfl
theorem q63 : Cond.fieldLink RX6 28 "PriceIrons$State" "limit" "I" ∈ AW := aw_in (i := 162) (by decide +kernel) rfl
theorem n64 : Cond.fieldLinkNest RX0 34 "PriceIrons$State" "limit" "I" "PriceIrons" ∈ NWL := nw_in (i := 163) (by decide +kernel) rfl
theorem n65 : Cond.fieldLinkNest RX10 70 "PriceIrons$State" "limit" "I" "PriceIrons" ∈ NWL := nw_in (i := 164) (by decide +kernel) rfl
theorem n66 : Cond.fieldLinkNest RX11 130 "PriceIrons$State" "limit" "I" "PriceIrons" ∈ NWL := nw_in (i := 165) (by decide +kernel) rfl
theorem q67 : Cond.fieldLink RX6 31 "PriceIrons$State" "seasonDays" "I" ∈ AW := aw_in (i := 166) (by decide +kernel) rfl
theorem n68 : Cond.fieldLinkNest RX11 133 "PriceIrons$State" "seasonDays" "I" "PriceIrons" ∈ NWL := nw_in (i := 167) (by decide +kernel) rfl
theorem q69 : Cond.fieldLink RX6 34 "PriceIrons$State" "stopped" "Z" ∈ AW := aw_in (i := 168) (by decide +kernel) rfl
theorem n70 : Cond.fieldLinkNest RX10 35 "PriceIrons$State" "stopped" "Z" "PriceIrons" ∈ NWL := nw_in (i := 169) (by decide +kernel) rfl
theorem n71 : Cond.fieldLinkNest RX11 157 "PriceIrons$State" "stopped" "Z" "PriceIrons" ∈ NWL := nw_in (i := 170) (by decide +kernel) rfl
theorem q72 : Cond.fieldLink RX6 38 "PriceIrons$State" "stopPart" "I" ∈ AW := aw_in (i := 171) (by decide +kernel) rfl
theorem n73 : Cond.fieldLinkNest RX10 41 "PriceIrons$State" "stopPart" "I" "PriceIrons" ∈ NWL := nw_in (i := 172) (by decide +kernel) rfl
theorem n74 : Cond.fieldLinkNest RX11 163 "PriceIrons$State" "stopPart" "I" "PriceIrons" ∈ NWL := nw_in (i := 173) (by decide +kernel) rfl
theorem q75 : Cond.fieldLink RX6 41 "PriceIrons$State" "stopReason" "I" ∈ AW := aw_in (i := 174) (by decide +kernel) rfl
theorem n76 : Cond.fieldLinkNest RX10 44 "PriceIrons$State" "stopReason" "I" "PriceIrons" ∈ NWL := nw_in (i := 175) (by decide +kernel) rfl
theorem n77 : Cond.fieldLinkNest RX11 166 "PriceIrons$State" "stopReason" "I" "PriceIrons" ∈ NWL := nw_in (i := 176) (by decide +kernel) rfl
theorem q99 : Cond.arrayClass FieldType.int ∈ AW := aw_in (i := 198) (by decide +kernel) rfl
theorem q100 : Cond.classLink RX11 26 "PriceIrons$History" ∈ AW := aw_in (i := 199) (by decide +kernel) rfl
theorem q101 : Cond.instantiable RX3 3 ∈ AW := aw_in (i := 200) (by decide +kernel) rfl
theorem n102 : Cond.methodLinkNest RX11 28 yX3_init "PriceIrons" ∈ NWL := nw_in (i := 201) (by decide +kernel) rfl
theorem qi_yX3_init : Cond.instanceMethod yX3_init ∈ AW := aw_in (i := 202) (by decide +kernel) rfl
theorem qc_yX3_init : Cond.code yX3_init prog_5_method_1_code 2 (Option.none : Option FieldType) ∈ AW := aw_in (i := 203) (by decide +kernel) rfl
theorem q105 : Cond.methodLink RX3 3 (⟨"java/lang/Object", "<init>", "()V"⟩ : MethodName) ∈ AW := aw_in (i := 204) (by decide +kernel) rfl
theorem q106 : Cond.classLink RX3 9 "PriceIrons$State" ∈ AW := aw_in (i := 205) (by decide +kernel) rfl
theorem n108 : Cond.methodLinkNest RX3 24 yX6_init "PriceIrons" ∈ NWL := nw_in (i := 207) (by decide +kernel) rfl
theorem q109 : Cond.fieldLink RX3 11 "PriceIrons$History" "ring" "[LPriceIrons$State;" ∈ AW := aw_in (i := 208) (by decide +kernel) rfl
theorem q110 : Cond.fieldLink RX3 17 "PriceIrons$History" "oldest" "I" ∈ AW := aw_in (i := 209) (by decide +kernel) rfl
theorem q111 : Cond.fieldLink RX3 21 "PriceIrons$History" "count" "I" ∈ AW := aw_in (i := 210) (by decide +kernel) rfl
theorem n112 : Cond.fieldLinkNest RX11 169 "PriceIrons$History" "count" "I" "PriceIrons" ∈ NWL := nw_in (i := 211) (by decide +kernel) rfl
theorem q120 : Cond.classLink RX11 33 "PriceIrons$Text" ∈ AW := aw_in (i := 219) (by decide +kernel) rfl
theorem q121 : Cond.instantiable RX8 3 ∈ AW := aw_in (i := 220) (by decide +kernel) rfl
theorem n122 : Cond.methodLinkNest RX11 35 yX8_init "PriceIrons" ∈ NWL := nw_in (i := 221) (by decide +kernel) rfl
theorem qi_yX8_init : Cond.instanceMethod yX8_init ∈ AW := aw_in (i := 222) (by decide +kernel) rfl
theorem qc_yX8_init : Cond.code yX8_init prog_10_method_1_code 1 (Option.none : Option FieldType) ∈ AW := aw_in (i := 223) (by decide +kernel) rfl
theorem q125 : Cond.methodLink RX8 3 (⟨"java/lang/Object", "<init>", "()V"⟩ : MethodName) ∈ AW := aw_in (i := 224) (by decide +kernel) rfl
theorem q126 : Cond.classLink RX8 19 "PriceIrons$Syntax" ∈ AW := aw_in (i := 225) (by decide +kernel) rfl
theorem q127 : Cond.instantiable RX7 4 ∈ AW := aw_in (i := 226) (by decide +kernel) rfl
theorem n128 : Cond.methodLinkNest RX8 21 yX7_init "PriceIrons" ∈ NWL := nw_in (i := 227) (by decide +kernel) rfl
theorem qi_yX7_init : Cond.instanceMethod yX7_init ∈ AW := aw_in (i := 228) (by decide +kernel) rfl
theorem qc_yX7_init : Cond.code yX7_init prog_9_method_1_code 1 (Option.none : Option FieldType) ∈ AW := aw_in (i := 229) (by decide +kernel) rfl
theorem q131 : Cond.methodLink RX7 3 (⟨"java/lang/Object", "<init>", "()V"⟩ : MethodName) ∈ AW := aw_in (i := 230) (by decide +kernel) rfl
theorem q132 : Cond.fieldLink RX7 9 "PriceIrons$Syntax" "letter" "I" ∈ AW := aw_in (i := 231) (by decide +kernel) rfl
theorem q133 : Cond.fieldLink RX7 15 "PriceIrons$Syntax" "field" "I" ∈ AW := aw_in (i := 232) (by decide +kernel) rfl
theorem q134 : Cond.fieldLink RX7 18 "PriceIrons$Syntax" "digits" "I" ∈ AW := aw_in (i := 233) (by decide +kernel) rfl
theorem q135 : Cond.fieldLink RX7 21 "PriceIrons$Syntax" "value" "I" ∈ AW := aw_in (i := 234) (by decide +kernel) rfl
theorem q145 : Cond.fieldLink RX8 9 "PriceIrons$Text" "codes" "[I" ∈ AW := aw_in (i := 244) (by decide +kernel) rfl
theorem q146 : Cond.fieldLink RX8 15 "PriceIrons$Text" "length" "I" ∈ AW := aw_in (i := 245) (by decide +kernel) rfl
theorem n147 : Cond.fieldLinkNest RX10 22 "PriceIrons$Text" "length" "I" "PriceIrons" ∈ NWL := nw_in (i := 246) (by decide +kernel) rfl
theorem n148 : Cond.fieldLinkNest RX11 136 "PriceIrons$Text" "length" "I" "PriceIrons" ∈ NWL := nw_in (i := 247) (by decide +kernel) rfl
theorem q149 : Cond.fieldLink RX8 22 "PriceIrons$Text" "syntax" "LPriceIrons$Syntax;" ∈ AW := aw_in (i := 248) (by decide +kernel) rfl
theorem q157 : Cond.classLink RX11 40 "PriceIrons$Works" ∈ AW := aw_in (i := 256) (by decide +kernel) rfl
theorem q158 : Cond.instantiable RX10 3 ∈ AW := aw_in (i := 257) (by decide +kernel) rfl
theorem n159 : Cond.methodLinkNest RX11 42 yX10_init "PriceIrons" ∈ NWL := nw_in (i := 258) (by decide +kernel) rfl
theorem qi_yX10_init : Cond.instanceMethod yX10_init ∈ AW := aw_in (i := 259) (by decide +kernel) rfl
theorem qc_yX10_init : Cond.code yX10_init prog_12_method_1_code 1 (Option.none : Option FieldType) ∈ AW := aw_in (i := 260) (by decide +kernel) rfl
theorem q162 : Cond.methodLink RX10 3 (⟨"java/lang/Object", "<init>", "()V"⟩ : MethodName) ∈ AW := aw_in (i := 261) (by decide +kernel) rfl
theorem q163 : Cond.fieldLink RX10 9 "PriceIrons$Works" "letter" "I" ∈ AW := aw_in (i := 262) (by decide +kernel) rfl
theorem q164 : Cond.fieldLink RX10 15 "PriceIrons$Works" "numbers" "[I" ∈ AW := aw_in (i := 263) (by decide +kernel) rfl
theorem q165 : Cond.fieldLink RX10 19 "PriceIrons$Works" "count" "I" ∈ AW := aw_in (i := 264) (by decide +kernel) rfl
theorem q173 : Cond.classLink RX11 47 "PriceIrons$Highs" ∈ AW := aw_in (i := 272) (by decide +kernel) rfl
theorem q174 : Cond.instantiable RX2 3 ∈ AW := aw_in (i := 273) (by decide +kernel) rfl
theorem n175 : Cond.methodLinkNest RX11 49 yX2_init "PriceIrons" ∈ NWL := nw_in (i := 274) (by decide +kernel) rfl
theorem qi_yX2_init : Cond.instanceMethod yX2_init ∈ AW := aw_in (i := 275) (by decide +kernel) rfl
theorem qc_yX2_init : Cond.code yX2_init prog_4_method_1_code 1 (Option.none : Option FieldType) ∈ AW := aw_in (i := 276) (by decide +kernel) rfl
theorem q178 : Cond.methodLink RX2 3 (⟨"java/lang/Object", "<init>", "()V"⟩ : MethodName) ∈ AW := aw_in (i := 277) (by decide +kernel) rfl
theorem q179 : Cond.fieldLink RX2 9 "PriceIrons$Highs" "candidates" "[I" ∈ AW := aw_in (i := 278) (by decide +kernel) rfl
theorem q180 : Cond.fieldLink RX2 15 "PriceIrons$Highs" "front" "I" ∈ AW := aw_in (i := 279) (by decide +kernel) rfl
theorem q181 : Cond.fieldLink RX2 19 "PriceIrons$Highs" "end" "I" ∈ AW := aw_in (i := 280) (by decide +kernel) rfl
theorem q189 : Cond.classLink RX11 54 "PriceIrons$Trade" ∈ AW := aw_in (i := 288) (by decide +kernel) rfl
theorem q190 : Cond.instantiable RX9 2 ∈ AW := aw_in (i := 289) (by decide +kernel) rfl
theorem n191 : Cond.methodLinkNest RX11 56 yX9_init "PriceIrons" ∈ NWL := nw_in (i := 290) (by decide +kernel) rfl
theorem qi_yX9_init : Cond.instanceMethod yX9_init ∈ AW := aw_in (i := 291) (by decide +kernel) rfl
theorem qc_yX9_init : Cond.code yX9_init prog_11_method_1_code 1 (Option.none : Option FieldType) ∈ AW := aw_in (i := 292) (by decide +kernel) rfl
theorem q194 : Cond.methodLink RX9 3 (⟨"java/lang/Object", "<init>", "()V"⟩ : MethodName) ∈ AW := aw_in (i := 293) (by decide +kernel) rfl
theorem q195 : Cond.constantLong RX9 9 (10000 : Int64) ∈ AW := aw_in (i := 294) (by decide +kernel) rfl
theorem q196 : Cond.fieldLink RX9 11 "PriceIrons$Trade" "coins" "J" ∈ AW := aw_in (i := 295) (by decide +kernel) rfl
theorem q197 : Cond.fieldLink RX9 17 "PriceIrons$Trade" "held" "I" ∈ AW := aw_in (i := 296) (by decide +kernel) rfl
theorem n198 : Cond.fieldLinkNest RX11 222 "PriceIrons$Trade" "held" "I" "PriceIrons" ∈ NWL := nw_in (i := 297) (by decide +kernel) rfl
theorem q204 : Cond.fieldLink RX11 10 "PriceIrons" "now" "LPriceIrons$State;" ∈ AW := aw_in (i := 303) (by decide +kernel) rfl
theorem q205 : Cond.fieldLink RX11 16 "PriceIrons" "trial" "LPriceIrons$State;" ∈ AW := aw_in (i := 304) (by decide +kernel) rfl
theorem q206 : Cond.fieldLink RX11 19 "PriceIrons" "snapshot" "LPriceIrons$State;" ∈ AW := aw_in (i := 305) (by decide +kernel) rfl
theorem q207 : Cond.fieldLink RX11 22 "PriceIrons" "snapshotTaken" "Z" ∈ AW := aw_in (i := 306) (by decide +kernel) rfl
theorem q208 : Cond.fieldLink RX11 29 "PriceIrons" "history" "LPriceIrons$History;" ∈ AW := aw_in (i := 307) (by decide +kernel) rfl
theorem q209 : Cond.fieldLink RX11 36 "PriceIrons" "text" "LPriceIrons$Text;" ∈ AW := aw_in (i := 308) (by decide +kernel) rfl
theorem q210 : Cond.fieldLink RX11 43 "PriceIrons" "works" "LPriceIrons$Works;" ∈ AW := aw_in (i := 309) (by decide +kernel) rfl
theorem q211 : Cond.fieldLink RX11 50 "PriceIrons" "highs" "LPriceIrons$Highs;" ∈ AW := aw_in (i := 310) (by decide +kernel) rfl
theorem q212 : Cond.fieldLink RX11 57 "PriceIrons" "trade" "LPriceIrons$Trade;" ∈ AW := aw_in (i := 311) (by decide +kernel) rfl
theorem q232 : Cond.methodLink RL 142 yX11_pressAll ∈ AW := aw_in (i := 331) (by decide +kernel) rfl
theorem qi_yX11_pressAll : Cond.instanceMethod yX11_pressAll ∈ AW := aw_in (i := 332) (by decide +kernel) rfl
theorem qs_yX11_pressAll : Cond.selects (yX11_pressAll : MethodName).cls yX11_pressAll yX11_pressAll ∈ AW := aw_in (i := 333) (by decide +kernel) rfl
theorem qc_yX11_pressAll : Cond.code yX11_pressAll prog_1_method_6_code 1 (Option.some FieldType.int) ∈ AW := aw_in (i := 334) (by decide +kernel) rfl
theorem n236 : Cond.methodLinkNest RX11 76 yX3_save "PriceIrons" ∈ NWL := nw_in (i := 335) (by decide +kernel) rfl
theorem qi_yX3_save : Cond.instanceMethod yX3_save ∈ AW := aw_in (i := 337) (by decide +kernel) rfl
theorem qc_yX3_save : Cond.code yX3_save prog_5_method_2_code 3 (Option.none : Option FieldType) ∈ AW := aw_in (i := 338) (by decide +kernel) rfl
theorem q240 : Cond.methodLink RX3 25 yX3_newest ∈ AW := aw_in (i := 339) (by decide +kernel) rfl
theorem qi_yX3_newest : Cond.instanceMethod yX3_newest ∈ AW := aw_in (i := 341) (by decide +kernel) rfl
theorem qc_yX3_newest : Cond.code yX3_newest prog_5_method_4_code 2 (Option.some (FieldType.object "PriceIrons$State")) ∈ AW := aw_in (i := 342) (by decide +kernel) rfl
theorem n244 : Cond.methodLinkNest RX3 29 yX6_copyFrom "PriceIrons" ∈ NWL := nw_in (i := 343) (by decide +kernel) rfl
theorem qi_yX6_copyFrom : Cond.instanceMethod yX6_copyFrom ∈ AW := aw_in (i := 345) (by decide +kernel) rfl
theorem qc_yX6_copyFrom : Cond.code yX6_copyFrom prog_8_method_2_code 2 (Option.none : Option FieldType) ∈ AW := aw_in (i := 346) (by decide +kernel) rfl
theorem q248 : Cond.methodLink RX6 44 (⟨"java/lang/System", "arraycopy", "(Ljava/lang/Object;ILjava/lang/Object;II)V"⟩ : MethodName) ∈ AW := aw_in (i := 347) (by decide +kernel) rfl
theorem q249 : Cond.static (⟨"java/lang/System", "arraycopy", "(Ljava/lang/Object;ILjava/lang/Object;II)V"⟩ : MethodName) ∈ AW := aw_in (i := 348) (by decide +kernel) rfl
theorem q250 : Cond.native (⟨"java/lang/System", "arraycopy", "(Ljava/lang/Object;ILjava/lang/Object;II)V"⟩ : MethodName) ∈ AW := aw_in (i := 349) (by decide +kernel) rfl
theorem n251 : Cond.methodLinkNest RX11 112 yX0_flattenAll "PriceIrons" ∈ NWL := nw_in (i := 350) (by decide +kernel) rfl
theorem qt_yX0_flattenAll : Cond.static yX0_flattenAll ∈ AW := aw_in (i := 351) (by decide +kernel) rfl
theorem qc_yX0_flattenAll : Cond.code yX0_flattenAll prog_2_method_6_code 3 (Option.some FieldType.int) ∈ AW := aw_in (i := 352) (by decide +kernel) rfl
theorem q254 : Cond.methodLink RX0 40 yX0_standsOut ∈ AW := aw_in (i := 353) (by decide +kernel) rfl
theorem qt_yX0_standsOut : Cond.static yX0_standsOut ∈ AW := aw_in (i := 354) (by decide +kernel) rfl
theorem qc_yX0_standsOut : Cond.code yX0_standsOut prog_2_method_3_code 2 (Option.some FieldType.boolean) ∈ AW := aw_in (i := 355) (by decide +kernel) rfl
theorem n257 : Cond.methodLinkNest RX0 19 yX6_at "PriceIrons" ∈ NWL := nw_in (i := 356) (by decide +kernel) rfl
theorem qi_yX6_at : Cond.instanceMethod yX6_at ∈ AW := aw_in (i := 358) (by decide +kernel) rfl
theorem qc_yX6_at : Cond.code yX6_at prog_8_method_4_code 2 (Option.some FieldType.int) ∈ AW := aw_in (i := 359) (by decide +kernel) rfl
theorem q261 : Cond.methodLink RX0 23 yX0_middle ∈ AW := aw_in (i := 360) (by decide +kernel) rfl
theorem qt_yX0_middle : Cond.static yX0_middle ∈ AW := aw_in (i := 361) (by decide +kernel) rfl
theorem qc_yX0_middle : Cond.code yX0_middle prog_2_method_2_code 10 (Option.some FieldType.int) ∈ AW := aw_in (i := 362) (by decide +kernel) rfl
theorem n264 : Cond.methodLinkNest RX0 13 yX4_firstOf "PriceIrons" ∈ NWL := nw_in (i := 363) (by decide +kernel) rfl
theorem qt_yX4_firstOf : Cond.static yX4_firstOf ∈ AW := aw_in (i := 364) (by decide +kernel) rfl
theorem qc_yX4_firstOf : Cond.code yX4_firstOf prog_6_method_2_code 2 (Option.some FieldType.int) ∈ AW := aw_in (i := 365) (by decide +kernel) rfl
theorem q267 : Cond.methodLink RX0 29 yJ9_abs_0f7a4 ∈ AW := aw_in (i := 366) (by decide +kernel) rfl
theorem qt_yJ9_abs_0f7a4 : Cond.static yJ9_abs_0f7a4 ∈ AW := aw_in (i := 367) (by decide +kernel) rfl
theorem qc_yJ9_abs_0f7a4 : Cond.code yJ9_abs_0f7a4 prog_20_method_59_code 1 (Option.some FieldType.int) ∈ AW := aw_in (i := 368) (by decide +kernel) rfl
theorem q270 : Cond.methodLink RX0 48 yX0_flatten ∈ AW := aw_in (i := 369) (by decide +kernel) rfl
theorem qt_yX0_flatten : Cond.static yX0_flatten ∈ AW := aw_in (i := 370) (by decide +kernel) rfl
theorem qc_yX0_flatten : Cond.code yX0_flatten prog_2_method_5_code 2 (Option.none : Option FieldType) ∈ AW := aw_in (i := 371) (by decide +kernel) rfl
theorem n273 : Cond.methodLinkNest RX0 44 yX6_put "PriceIrons" ∈ NWL := nw_in (i := 372) (by decide +kernel) rfl
theorem qi_yX6_put : Cond.instanceMethod yX6_put ∈ AW := aw_in (i := 374) (by decide +kernel) rfl
theorem qc_yX6_put : Cond.code yX6_put prog_8_method_5_code 3 (Option.none : Option FieldType) ∈ AW := aw_in (i := 375) (by decide +kernel) rfl
theorem q277 : Cond.methodLink RL 161 yX11_clearBuffer ∈ AW := aw_in (i := 376) (by decide +kernel) rfl
theorem qi_yX11_clearBuffer : Cond.instanceMethod yX11_clearBuffer ∈ AW := aw_in (i := 377) (by decide +kernel) rfl
theorem qs_yX11_clearBuffer : Cond.selects (yX11_clearBuffer : MethodName).cls yX11_clearBuffer yX11_clearBuffer ∈ AW := aw_in (i := 378) (by decide +kernel) rfl
theorem qc_yX11_clearBuffer : Cond.code yX11_clearBuffer prog_1_method_12_code 2 (Option.some FieldType.int) ∈ AW := aw_in (i := 379) (by decide +kernel) rfl
theorem n281 : Cond.methodLinkNest RX11 140 yX8_empty "PriceIrons" ∈ NWL := nw_in (i := 380) (by decide +kernel) rfl
theorem qi_yX8_empty : Cond.instanceMethod yX8_empty ∈ AW := aw_in (i := 382) (by decide +kernel) rfl
theorem qc_yX8_empty : Cond.code yX8_empty prog_10_method_3_code 1 (Option.none : Option FieldType) ∈ AW := aw_in (i := 383) (by decide +kernel) rfl
theorem q285 : Cond.methodLink RL 165 yX11_firstError ∈ AW := aw_in (i := 384) (by decide +kernel) rfl
theorem qi_yX11_firstError : Cond.instanceMethod yX11_firstError ∈ AW := aw_in (i := 385) (by decide +kernel) rfl
theorem qs_yX11_firstError : Cond.selects (yX11_firstError : MethodName).cls yX11_firstError yX11_firstError ∈ AW := aw_in (i := 386) (by decide +kernel) rfl
theorem qc_yX11_firstError : Cond.code yX11_firstError prog_1_method_13_code 1 (Option.some FieldType.int) ∈ AW := aw_in (i := 387) (by decide +kernel) rfl
theorem n289 : Cond.methodLinkNest RX11 143 yX8_firstRefused "PriceIrons" ∈ NWL := nw_in (i := 388) (by decide +kernel) rfl
theorem qi_yX8_firstRefused : Cond.instanceMethod yX8_firstRefused ∈ AW := aw_in (i := 390) (by decide +kernel) rfl
theorem qc_yX8_firstRefused : Cond.code yX8_firstRefused prog_10_method_5_code 2 (Option.some FieldType.int) ∈ AW := aw_in (i := 391) (by decide +kernel) rfl
theorem n293 : Cond.methodLinkNest RX8 26 yX7_start "PriceIrons" ∈ NWL := nw_in (i := 392) (by decide +kernel) rfl
theorem qi_yX7_start : Cond.instanceMethod yX7_start ∈ AW := aw_in (i := 394) (by decide +kernel) rfl
theorem qc_yX7_start : Cond.code yX7_start prog_9_method_2_code 1 (Option.none : Option FieldType) ∈ AW := aw_in (i := 395) (by decide +kernel) rfl
theorem q297 : Cond.methodLink RX7 24 yX7_startNumber ∈ AW := aw_in (i := 396) (by decide +kernel) rfl
theorem qi_yX7_startNumber : Cond.instanceMethod yX7_startNumber ∈ AW := aw_in (i := 398) (by decide +kernel) rfl
theorem qc_yX7_startNumber : Cond.code yX7_startNumber prog_9_method_3_code 2 (Option.none : Option FieldType) ∈ AW := aw_in (i := 399) (by decide +kernel) rfl
theorem q301 : Cond.methodLink RX8 29 yX8_codeAt ∈ AW := aw_in (i := 400) (by decide +kernel) rfl
theorem qi_yX8_codeAt : Cond.instanceMethod yX8_codeAt ∈ AW := aw_in (i := 402) (by decide +kernel) rfl
theorem qc_yX8_codeAt : Cond.code yX8_codeAt prog_10_method_4_code 2 (Option.some FieldType.int) ∈ AW := aw_in (i := 403) (by decide +kernel) rfl
theorem n305 : Cond.methodLinkNest RX8 33 yX7_takes "PriceIrons" ∈ NWL := nw_in (i := 404) (by decide +kernel) rfl
theorem qi_yX7_takes : Cond.instanceMethod yX7_takes ∈ AW := aw_in (i := 406) (by decide +kernel) rfl
theorem qc_yX7_takes : Cond.code yX7_takes prog_9_method_4_code 2 (Option.some FieldType.boolean) ∈ AW := aw_in (i := 407) (by decide +kernel) rfl
theorem q309 : Cond.methodLink RX7 28 yX7_takesLetter ∈ AW := aw_in (i := 408) (by decide +kernel) rfl
theorem qi_yX7_takesLetter : Cond.instanceMethod yX7_takesLetter ∈ AW := aw_in (i := 410) (by decide +kernel) rfl
theorem qc_yX7_takesLetter : Cond.code yX7_takesLetter prog_9_method_5_code 2 (Option.some FieldType.boolean) ∈ AW := aw_in (i := 411) (by decide +kernel) rfl
theorem q313 : Cond.methodLink RX7 32 yX7_takesDigit ∈ AW := aw_in (i := 412) (by decide +kernel) rfl
theorem qi_yX7_takesDigit : Cond.instanceMethod yX7_takesDigit ∈ AW := aw_in (i := 414) (by decide +kernel) rfl
theorem qc_yX7_takesDigit : Cond.code yX7_takesDigit prog_9_method_6_code 4 (Option.some FieldType.boolean) ∈ AW := aw_in (i := 415) (by decide +kernel) rfl
theorem q317 : Cond.methodLink RX7 45 yX7_canBecomeNumber ∈ AW := aw_in (i := 416) (by decide +kernel) rfl
theorem qi_yX7_canBecomeNumber : Cond.instanceMethod yX7_canBecomeNumber ∈ AW := aw_in (i := 418) (by decide +kernel) rfl
theorem qc_yX7_canBecomeNumber : Cond.code yX7_canBecomeNumber prog_9_method_7_code 2 (Option.some FieldType.boolean) ∈ AW := aw_in (i := 419) (by decide +kernel) rfl
theorem q321 : Cond.methodLink RX7 48 yX7_least ∈ AW := aw_in (i := 420) (by decide +kernel) rfl
theorem qi_yX7_least : Cond.instanceMethod yX7_least ∈ AW := aw_in (i := 422) (by decide +kernel) rfl
theorem qc_yX7_least : Cond.code yX7_least prog_9_method_11_code 1 (Option.some FieldType.int) ∈ AW := aw_in (i := 423) (by decide +kernel) rfl
theorem q325 : Cond.methodLink RX7 52 yX7_most ∈ AW := aw_in (i := 424) (by decide +kernel) rfl
theorem qi_yX7_most : Cond.instanceMethod yX7_most ∈ AW := aw_in (i := 426) (by decide +kernel) rfl
theorem qc_yX7_most : Cond.code yX7_most prog_9_method_12_code 1 (Option.some FieldType.int) ∈ AW := aw_in (i := 427) (by decide +kernel) rfl
theorem q329 : Cond.methodLink RX7 35 yX7_numberStands ∈ AW := aw_in (i := 428) (by decide +kernel) rfl
theorem qi_yX7_numberStands : Cond.instanceMethod yX7_numberStands ∈ AW := aw_in (i := 430) (by decide +kernel) rfl
theorem qc_yX7_numberStands : Cond.code yX7_numberStands prog_9_method_8_code 1 (Option.some FieldType.boolean) ∈ AW := aw_in (i := 431) (by decide +kernel) rfl
theorem q333 : Cond.methodLink RX7 39 yX7_wantsLonger ∈ AW := aw_in (i := 432) (by decide +kernel) rfl
theorem qi_yX7_wantsLonger : Cond.instanceMethod yX7_wantsLonger ∈ AW := aw_in (i := 434) (by decide +kernel) rfl
theorem qc_yX7_wantsLonger : Cond.code yX7_wantsLonger prog_9_method_9_code 1 (Option.some FieldType.boolean) ∈ AW := aw_in (i := 435) (by decide +kernel) rfl
theorem q337 : Cond.methodLink RX7 42 yX7_start ∈ AW := aw_in (i := 436) (by decide +kernel) rfl
theorem q338 : Cond.methodLink RL 173 yX11_hasStopped ∈ AW := aw_in (i := 437) (by decide +kernel) rfl
theorem qi_yX11_hasStopped : Cond.instanceMethod yX11_hasStopped ∈ AW := aw_in (i := 438) (by decide +kernel) rfl
theorem qs_yX11_hasStopped : Cond.selects (yX11_hasStopped : MethodName).cls yX11_hasStopped yX11_hasStopped ∈ AW := aw_in (i := 439) (by decide +kernel) rfl
theorem qc_yX11_hasStopped : Cond.code yX11_hasStopped prog_1_method_15_code 1 (Option.some FieldType.boolean) ∈ AW := aw_in (i := 440) (by decide +kernel) rfl
theorem q342 : Cond.methodLink RL 187 yX11_keep ∈ AW := aw_in (i := 441) (by decide +kernel) rfl
theorem qi_yX11_keep : Cond.instanceMethod yX11_keep ∈ AW := aw_in (i := 442) (by decide +kernel) rfl
theorem qs_yX11_keep : Cond.selects (yX11_keep : MethodName).cls yX11_keep yX11_keep ∈ AW := aw_in (i := 443) (by decide +kernel) rfl
theorem qc_yX11_keep : Cond.code yX11_keep prog_1_method_19_code 1 (Option.some FieldType.int) ∈ AW := aw_in (i := 444) (by decide +kernel) rfl
theorem n346 : Cond.methodLinkNest RX11 177 yX6_copyFrom "PriceIrons" ∈ NWL := nw_in (i := 445) (by decide +kernel) rfl
theorem q347 : Cond.methodLink RL 194 yX11_savedStates ∈ AW := aw_in (i := 446) (by decide +kernel) rfl
theorem qi_yX11_savedStates : Cond.instanceMethod yX11_savedStates ∈ AW := aw_in (i := 447) (by decide +kernel) rfl
theorem qs_yX11_savedStates : Cond.selects (yX11_savedStates : MethodName).cls yX11_savedStates yX11_savedStates ∈ AW := aw_in (i := 448) (by decide +kernel) rfl
theorem qc_yX11_savedStates : Cond.code yX11_savedStates prog_1_method_21_code 1 (Option.some FieldType.int) ∈ AW := aw_in (i := 449) (by decide +kernel) rfl
theorem q351 : Cond.methodLink RL 198 yX11_days ∈ AW := aw_in (i := 450) (by decide +kernel) rfl
theorem qi_yX11_days : Cond.instanceMethod yX11_days ∈ AW := aw_in (i := 451) (by decide +kernel) rfl
theorem qs_yX11_days : Cond.selects (yX11_days : MethodName).cls yX11_days yX11_days ∈ AW := aw_in (i := 452) (by decide +kernel) rfl
theorem qc_yX11_days : Cond.code yX11_days prog_1_method_22_code 1 (Option.some FieldType.int) ∈ AW := aw_in (i := 453) (by decide +kernel) rfl
theorem q355 : Cond.methodLink RL 205 yX11_shortWindow ∈ AW := aw_in (i := 454) (by decide +kernel) rfl
theorem qi_yX11_shortWindow : Cond.instanceMethod yX11_shortWindow ∈ AW := aw_in (i := 455) (by decide +kernel) rfl
theorem qs_yX11_shortWindow : Cond.selects (yX11_shortWindow : MethodName).cls yX11_shortWindow yX11_shortWindow ∈ AW := aw_in (i := 456) (by decide +kernel) rfl
theorem qc_yX11_shortWindow : Cond.code yX11_shortWindow prog_1_method_24_code 1 (Option.some FieldType.int) ∈ AW := aw_in (i := 457) (by decide +kernel) rfl
theorem q359 : Cond.methodLink RL 209 yX11_longWindow ∈ AW := aw_in (i := 458) (by decide +kernel) rfl
theorem qi_yX11_longWindow : Cond.instanceMethod yX11_longWindow ∈ AW := aw_in (i := 459) (by decide +kernel) rfl
theorem qs_yX11_longWindow : Cond.selects (yX11_longWindow : MethodName).cls yX11_longWindow yX11_longWindow ∈ AW := aw_in (i := 460) (by decide +kernel) rfl
theorem qc_yX11_longWindow : Cond.code yX11_longWindow prog_1_method_25_code 1 (Option.some FieldType.int) ∈ AW := aw_in (i := 461) (by decide +kernel) rfl
theorem q363 : Cond.methodLink RL 234 yX11_creases ∈ AW := aw_in (i := 462) (by decide +kernel) rfl
theorem qi_yX11_creases : Cond.instanceMethod yX11_creases ∈ AW := aw_in (i := 463) (by decide +kernel) rfl
theorem qs_yX11_creases : Cond.selects (yX11_creases : MethodName).cls yX11_creases yX11_creases ∈ AW := aw_in (i := 464) (by decide +kernel) rfl
theorem qc_yX11_creases : Cond.code yX11_creases prog_1_method_33_code 1 (Option.some FieldType.int) ∈ AW := aw_in (i := 465) (by decide +kernel) rfl
theorem n367 : Cond.methodLinkNest RX11 204 yX0_number "PriceIrons" ∈ NWL := nw_in (i := 466) (by decide +kernel) rfl
theorem qt_yX0_number : Cond.static yX0_number ∈ AW := aw_in (i := 467) (by decide +kernel) rfl
theorem qc_yX0_number : Cond.code yX0_number prog_2_method_4_code 3 (Option.some FieldType.int) ∈ AW := aw_in (i := 468) (by decide +kernel) rfl
theorem q370 : Cond.methodLink RL 247 yX11_crossings ∈ AW := aw_in (i := 469) (by decide +kernel) rfl
theorem qi_yX11_crossings : Cond.instanceMethod yX11_crossings ∈ AW := aw_in (i := 470) (by decide +kernel) rfl
theorem qs_yX11_crossings : Cond.selects (yX11_crossings : MethodName).cls yX11_crossings yX11_crossings ∈ AW := aw_in (i := 471) (by decide +kernel) rfl
theorem qc_yX11_crossings : Cond.code yX11_crossings prog_1_method_37_code 1 (Option.some FieldType.int) ∈ AW := aw_in (i := 472) (by decide +kernel) rfl
theorem n374 : Cond.methodLinkNest RX11 216 yX9_numberOfCrossings "PriceIrons" ∈ NWL := nw_in (i := 473) (by decide +kernel) rfl
theorem qt_yX9_numberOfCrossings : Cond.static yX9_numberOfCrossings ∈ AW := aw_in (i := 474) (by decide +kernel) rfl
theorem qc_yX9_numberOfCrossings : Cond.code yX9_numberOfCrossings prog_11_method_4_code 3 (Option.some FieldType.int) ∈ AW := aw_in (i := 475) (by decide +kernel) rfl
theorem q377 : Cond.methodLink RX9 42 yX9_crossingAt ∈ AW := aw_in (i := 476) (by decide +kernel) rfl
theorem qt_yX9_crossingAt : Cond.static yX9_crossingAt ∈ AW := aw_in (i := 477) (by decide +kernel) rfl
theorem qc_yX9_crossingAt : Cond.code yX9_crossingAt prog_11_method_2_code 3 (Option.some FieldType.int) ∈ AW := aw_in (i := 478) (by decide +kernel) rfl
theorem q380 : Cond.methodLink RX9 21 yX9_sideAt ∈ AW := aw_in (i := 479) (by decide +kernel) rfl
theorem qt_yX9_sideAt : Cond.static yX9_sideAt ∈ AW := aw_in (i := 480) (by decide +kernel) rfl
theorem qc_yX9_sideAt : Cond.code yX9_sideAt prog_11_method_3_code 4 (Option.some FieldType.int) ∈ AW := aw_in (i := 481) (by decide +kernel) rfl
theorem n383 : Cond.methodLinkNest RX9 30 yX4_byAdding "PriceIrons" ∈ NWL := nw_in (i := 482) (by decide +kernel) rfl
theorem qt_yX4_byAdding : Cond.static yX4_byAdding ∈ AW := aw_in (i := 483) (by decide +kernel) rfl
theorem qc_yX4_byAdding : Cond.code yX4_byAdding prog_6_method_3_code 7 (Option.some FieldType.int) ∈ AW := aw_in (i := 484) (by decide +kernel) rfl
theorem q386 : Cond.methodLink RX4 9 yX4_firstOf ∈ AW := aw_in (i := 485) (by decide +kernel) rfl
theorem n387 : Cond.methodLinkNest RX4 15 yX6_at "PriceIrons" ∈ NWL := nw_in (i := 486) (by decide +kernel) rfl
theorem q388 : Cond.constantLong RX4 21 (1000 : Int64) ∈ AW := aw_in (i := 487) (by decide +kernel) rfl
theorem n389 : Cond.methodLinkNest RX4 23 yX11_divided "PriceIrons" ∈ NWL := nw_in (i := 488) (by decide +kernel) rfl
theorem qt_yX11_divided : Cond.static yX11_divided ∈ AW := aw_in (i := 489) (by decide +kernel) rfl
theorem qc_yX11_divided : Cond.code yX11_divided prog_1_method_61_code 4 (Option.some FieldType.long) ∈ AW := aw_in (i := 490) (by decide +kernel) rfl
theorem q392 : Cond.methodLink RL 257 yX11_greatestFall ∈ AW := aw_in (i := 491) (by decide +kernel) rfl
theorem qi_yX11_greatestFall : Cond.instanceMethod yX11_greatestFall ∈ AW := aw_in (i := 492) (by decide +kernel) rfl
theorem qs_yX11_greatestFall : Cond.selects (yX11_greatestFall : MethodName).cls yX11_greatestFall yX11_greatestFall ∈ AW := aw_in (i := 493) (by decide +kernel) rfl
theorem qc_yX11_greatestFall : Cond.code yX11_greatestFall prog_1_method_40_code 1 (Option.some FieldType.int) ∈ AW := aw_in (i := 494) (by decide +kernel) rfl
theorem n396 : Cond.methodLinkNest RX11 229 yX2_fallInOneGo "PriceIrons" ∈ NWL := nw_in (i := 495) (by decide +kernel) rfl
theorem qt_yX2_fallInOneGo : Cond.static yX2_fallInOneGo ∈ AW := aw_in (i := 496) (by decide +kernel) rfl
theorem qc_yX2_fallInOneGo : Cond.code yX2_fallInOneGo prog_4_method_7_code 4 (Option.some FieldType.int) ∈ AW := aw_in (i := 497) (by decide +kernel) rfl
theorem n399 : Cond.methodLinkNest RX2 33 yX6_at "PriceIrons" ∈ NWL := nw_in (i := 498) (by decide +kernel) rfl
theorem q400 : Cond.methodLink RX2 37 yJ9_max_7cf53 ∈ AW := aw_in (i := 499) (by decide +kernel) rfl
theorem qt_yJ9_max_7cf53 : Cond.static yJ9_max_7cf53 ∈ AW := aw_in (i := 500) (by decide +kernel) rfl
theorem qc_yJ9_max_7cf53 : Cond.code yJ9_max_7cf53 prog_20_method_65_code 2 (Option.some FieldType.int) ∈ AW := aw_in (i := 501) (by decide +kernel) rfl
theorem q403 : Cond.methodLink RL 261 yX11_greatestFallByPairs ∈ AW := aw_in (i := 502) (by decide +kernel) rfl
theorem qi_yX11_greatestFallByPairs : Cond.instanceMethod yX11_greatestFallByPairs ∈ AW := aw_in (i := 503) (by decide +kernel) rfl
theorem qs_yX11_greatestFallByPairs : Cond.selects (yX11_greatestFallByPairs : MethodName).cls yX11_greatestFallByPairs yX11_greatestFallByPairs ∈ AW := aw_in (i := 504) (by decide +kernel) rfl
theorem qc_yX11_greatestFallByPairs : Cond.code yX11_greatestFallByPairs prog_1_method_41_code 1 (Option.some FieldType.int) ∈ AW := aw_in (i := 505) (by decide +kernel) rfl
theorem n407 : Cond.methodLinkNest RX11 232 yX2_fallByPairs "PriceIrons" ∈ NWL := nw_in (i := 506) (by decide +kernel) rfl
theorem qt_yX2_fallByPairs : Cond.static yX2_fallByPairs ∈ AW := aw_in (i := 507) (by decide +kernel) rfl
theorem qc_yX2_fallByPairs : Cond.code yX2_fallByPairs prog_4_method_8_code 4 (Option.some FieldType.int) ∈ AW := aw_in (i := 508) (by decide +kernel) rfl
theorem q410 : Cond.methodLink RL 265 yX11_longestRise ∈ AW := aw_in (i := 509) (by decide +kernel) rfl
theorem qi_yX11_longestRise : Cond.instanceMethod yX11_longestRise ∈ AW := aw_in (i := 510) (by decide +kernel) rfl
theorem qs_yX11_longestRise : Cond.selects (yX11_longestRise : MethodName).cls yX11_longestRise yX11_longestRise ∈ AW := aw_in (i := 511) (by decide +kernel) rfl
theorem qc_yX11_longestRise : Cond.code yX11_longestRise prog_1_method_42_code 1 (Option.some FieldType.int) ∈ AW := aw_in (i := 512) (by decide +kernel) rfl
theorem n414 : Cond.methodLinkNest RX11 235 yX2_riseInARow "PriceIrons" ∈ NWL := nw_in (i := 513) (by decide +kernel) rfl
theorem qt_yX2_riseInARow : Cond.static yX2_riseInARow ∈ AW := aw_in (i := 514) (by decide +kernel) rfl
theorem qc_yX2_riseInARow : Cond.code yX2_riseInARow prog_4_method_9_code 4 (Option.some FieldType.int) ∈ AW := aw_in (i := 515) (by decide +kernel) rfl
theorem q417 : Cond.methodLink RL 269 yX11_season ∈ AW := aw_in (i := 516) (by decide +kernel) rfl
theorem qi_yX11_season : Cond.instanceMethod yX11_season ∈ AW := aw_in (i := 517) (by decide +kernel) rfl
theorem qs_yX11_season : Cond.selects (yX11_season : MethodName).cls yX11_season yX11_season ∈ AW := aw_in (i := 518) (by decide +kernel) rfl
theorem qc_yX11_season : Cond.code yX11_season prog_1_method_43_code 1 (Option.some FieldType.int) ∈ AW := aw_in (i := 519) (by decide +kernel) rfl
theorem q421 : Cond.methodLink RL 291 yX11_smoothShare ∈ AW := aw_in (i := 520) (by decide +kernel) rfl
theorem qi_yX11_smoothShare : Cond.instanceMethod yX11_smoothShare ∈ AW := aw_in (i := 521) (by decide +kernel) rfl
theorem qs_yX11_smoothShare : Cond.selects (yX11_smoothShare : MethodName).cls yX11_smoothShare yX11_smoothShare ∈ AW := aw_in (i := 522) (by decide +kernel) rfl
theorem qc_yX11_smoothShare : Cond.code yX11_smoothShare prog_1_method_50_code 1 (Option.some FieldType.double) ∈ AW := aw_in (i := 523) (by decide +kernel) rfl
theorem q425 : Cond.methodLink RL 296 yX11_digest ∈ AW := aw_in (i := 524) (by decide +kernel) rfl
theorem qi_yX11_digest : Cond.instanceMethod yX11_digest ∈ AW := aw_in (i := 525) (by decide +kernel) rfl
theorem qs_yX11_digest : Cond.selects (yX11_digest : MethodName).cls yX11_digest yX11_digest ∈ AW := aw_in (i := 526) (by decide +kernel) rfl
theorem qc_yX11_digest : Cond.code yX11_digest prog_1_method_51_code 3 (Option.some FieldType.long) ∈ AW := aw_in (i := 527) (by decide +kernel) rfl
theorem q429 : Cond.constantLong RX11 272 (4523 : Int64) ∈ AW := aw_in (i := 528) (by decide +kernel) rfl
theorem q430 : Cond.methodLink RX11 274 yX11_hashOfTotals ∈ AW := aw_in (i := 529) (by decide +kernel) rfl
theorem qi_yX11_hashOfTotals : Cond.instanceMethod yX11_hashOfTotals ∈ AW := aw_in (i := 531) (by decide +kernel) rfl
theorem qc_yX11_hashOfTotals : Cond.code yX11_hashOfTotals prog_1_method_52_code 5 (Option.some FieldType.long) ∈ AW := aw_in (i := 532) (by decide +kernel) rfl
theorem q434 : Cond.methodLink RX11 298 yX11_mixed ∈ AW := aw_in (i := 533) (by decide +kernel) rfl
theorem qt_yX11_mixed : Cond.static yX11_mixed ∈ AW := aw_in (i := 534) (by decide +kernel) rfl
theorem qc_yX11_mixed : Cond.code yX11_mixed prog_1_method_59_code 4 (Option.some FieldType.long) ∈ AW := aw_in (i := 535) (by decide +kernel) rfl
theorem q437 : Cond.constantLong RX11 318 (31 : Int64) ∈ AW := aw_in (i := 536) (by decide +kernel) rfl
theorem q438 : Cond.methodLink RX11 278 yX11_hashOfDays ∈ AW := aw_in (i := 537) (by decide +kernel) rfl
theorem qi_yX11_hashOfDays : Cond.instanceMethod yX11_hashOfDays ∈ AW := aw_in (i := 539) (by decide +kernel) rfl
theorem qc_yX11_hashOfDays : Cond.code yX11_hashOfDays prog_1_method_53_code 6 (Option.some FieldType.long) ∈ AW := aw_in (i := 540) (by decide +kernel) rfl
theorem n442 : Cond.methodLinkNest RX11 305 yX9_start "PriceIrons" ∈ NWL := nw_in (i := 541) (by decide +kernel) rfl
theorem qi_yX9_start : Cond.instanceMethod yX9_start ∈ AW := aw_in (i := 543) (by decide +kernel) rfl
theorem qc_yX9_start : Cond.code yX9_start prog_11_method_5_code 1 (Option.none : Option FieldType) ∈ AW := aw_in (i := 544) (by decide +kernel) rfl
theorem q446 : Cond.methodLink RX11 308 yX11_hashOfMeans ∈ AW := aw_in (i := 545) (by decide +kernel) rfl
theorem qi_yX11_hashOfMeans : Cond.instanceMethod yX11_hashOfMeans ∈ AW := aw_in (i := 547) (by decide +kernel) rfl
theorem qc_yX11_hashOfMeans : Cond.code yX11_hashOfMeans prog_1_method_54_code 6 (Option.some FieldType.long) ∈ AW := aw_in (i := 548) (by decide +kernel) rfl
theorem n450 : Cond.methodLinkNest RX11 87 yX6_at "PriceIrons" ∈ NWL := nw_in (i := 549) (by decide +kernel) rfl
theorem n451 : Cond.methodLinkNest RX11 182 yX4_byAdding "PriceIrons" ∈ NWL := nw_in (i := 550) (by decide +kernel) rfl
theorem n452 : Cond.methodLinkNest RX11 188 yX4_bySums "PriceIrons" ∈ NWL := nw_in (i := 551) (by decide +kernel) rfl
theorem qt_yX4_bySums : Cond.static yX4_bySums ∈ AW := aw_in (i := 552) (by decide +kernel) rfl
theorem qc_yX4_bySums : Cond.code yX4_bySums prog_6_method_4_code 6 (Option.some FieldType.int) ∈ AW := aw_in (i := 553) (by decide +kernel) rfl
theorem q455 : Cond.methodLink RX4 27 yX4_sumAhead ∈ AW := aw_in (i := 554) (by decide +kernel) rfl
theorem qt_yX4_sumAhead : Cond.static yX4_sumAhead ∈ AW := aw_in (i := 555) (by decide +kernel) rfl
theorem qc_yX4_sumAhead : Cond.code yX4_sumAhead prog_6_method_5_code 5 (Option.some FieldType.long) ∈ AW := aw_in (i := 556) (by decide +kernel) rfl
theorem n458 : Cond.methodLinkNest RX11 191 yX4_weighted "PriceIrons" ∈ NWL := nw_in (i := 557) (by decide +kernel) rfl
theorem qt_yX4_weighted : Cond.static yX4_weighted ∈ AW := aw_in (i := 558) (by decide +kernel) rfl
theorem qc_yX4_weighted : Cond.code yX4_weighted prog_6_method_6_code 10 (Option.some FieldType.int) ∈ AW := aw_in (i := 559) (by decide +kernel) rfl
theorem n461 : Cond.methodLinkNest RX11 195 yX4_smoothedForwards "PriceIrons" ∈ NWL := nw_in (i := 560) (by decide +kernel) rfl
theorem qt_yX4_smoothedForwards : Cond.static yX4_smoothedForwards ∈ AW := aw_in (i := 561) (by decide +kernel) rfl
theorem qc_yX4_smoothedForwards : Cond.code yX4_smoothedForwards prog_6_method_7_code 4 (Option.some FieldType.int) ∈ AW := aw_in (i := 562) (by decide +kernel) rfl
theorem q464 : Cond.methodLink RX4 38 yX4_nextSmooth ∈ AW := aw_in (i := 563) (by decide +kernel) rfl
theorem qt_yX4_nextSmooth : Cond.static yX4_nextSmooth ∈ AW := aw_in (i := 564) (by decide +kernel) rfl
theorem qc_yX4_nextSmooth : Cond.code yX4_nextSmooth prog_6_method_9_code 3 (Option.some FieldType.int) ∈ AW := aw_in (i := 565) (by decide +kernel) rfl
theorem n467 : Cond.methodLinkNest RX11 198 yX4_smoothedByRecursion "PriceIrons" ∈ NWL := nw_in (i := 566) (by decide +kernel) rfl
theorem qt_yX4_smoothedByRecursion : Cond.static yX4_smoothedByRecursion ∈ AW := aw_in (i := 567) (by decide +kernel) rfl
theorem qc_yX4_smoothedByRecursion : Cond.code yX4_smoothedByRecursion prog_6_method_8_code 4 (Option.some FieldType.int) ∈ AW := aw_in (i := 568) (by decide +kernel) rfl
theorem q470 : Cond.methodLink RX4 42 yX4_smoothedByRecursion ∈ AW := aw_in (i := 569) (by decide +kernel) rfl
theorem n471 : Cond.methodLinkNest RX11 201 yX0_middle "PriceIrons" ∈ NWL := nw_in (i := 570) (by decide +kernel) rfl
theorem n472 : Cond.methodLinkNest RX11 100 yX0_standsOut "PriceIrons" ∈ NWL := nw_in (i := 571) (by decide +kernel) rfl
theorem n473 : Cond.methodLinkNest RX11 207 yX2_byLooking "PriceIrons" ∈ NWL := nw_in (i := 572) (by decide +kernel) rfl
theorem qt_yX2_byLooking : Cond.static yX2_byLooking ∈ AW := aw_in (i := 573) (by decide +kernel) rfl
theorem qc_yX2_byLooking : Cond.code yX2_byLooking prog_4_method_2_code 4 (Option.some FieldType.int) ∈ AW := aw_in (i := 574) (by decide +kernel) rfl
theorem n476 : Cond.methodLinkNest RX2 27 yX4_firstOf "PriceIrons" ∈ NWL := nw_in (i := 575) (by decide +kernel) rfl
theorem n477 : Cond.methodLinkNest RX11 210 yX2_byRow "PriceIrons" ∈ NWL := nw_in (i := 576) (by decide +kernel) rfl
theorem qi_yX2_byRow : Cond.instanceMethod yX2_byRow ∈ AW := aw_in (i := 578) (by decide +kernel) rfl
theorem qc_yX2_byRow : Cond.code yX2_byRow prog_4_method_3_code 4 (Option.some FieldType.int) ∈ AW := aw_in (i := 579) (by decide +kernel) rfl
theorem q481 : Cond.methodLink RX2 42 yX2_enter ∈ AW := aw_in (i := 580) (by decide +kernel) rfl
theorem qi_yX2_enter : Cond.instanceMethod yX2_enter ∈ AW := aw_in (i := 582) (by decide +kernel) rfl
theorem qc_yX2_enter : Cond.code yX2_enter prog_4_method_4_code 3 (Option.none : Option FieldType) ∈ AW := aw_in (i := 583) (by decide +kernel) rfl
theorem q485 : Cond.methodLink RX2 50 yX2_candidate ∈ AW := aw_in (i := 584) (by decide +kernel) rfl
theorem qi_yX2_candidate : Cond.instanceMethod yX2_candidate ∈ AW := aw_in (i := 586) (by decide +kernel) rfl
theorem qc_yX2_candidate : Cond.code yX2_candidate prog_4_method_6_code 2 (Option.some FieldType.int) ∈ AW := aw_in (i := 587) (by decide +kernel) rfl
theorem q489 : Cond.methodLink RX2 46 yX2_leave ∈ AW := aw_in (i := 588) (by decide +kernel) rfl
theorem qi_yX2_leave : Cond.instanceMethod yX2_leave ∈ AW := aw_in (i := 590) (by decide +kernel) rfl
theorem qc_yX2_leave : Cond.code yX2_leave prog_4_method_5_code 2 (Option.none : Option FieldType) ∈ AW := aw_in (i := 591) (by decide +kernel) rfl
theorem n493 : Cond.methodLinkNest RX11 213 yX9_crossingAt "PriceIrons" ∈ NWL := nw_in (i := 592) (by decide +kernel) rfl
theorem n494 : Cond.methodLinkNest RX11 312 yX9_pass "PriceIrons" ∈ NWL := nw_in (i := 593) (by decide +kernel) rfl
theorem qi_yX9_pass : Cond.instanceMethod yX9_pass ∈ AW := aw_in (i := 595) (by decide +kernel) rfl
theorem qc_yX9_pass : Cond.code yX9_pass prog_11_method_7_code 8 (Option.none : Option FieldType) ∈ AW := aw_in (i := 596) (by decide +kernel) rfl
theorem n498 : Cond.methodLinkNest RX9 52 yX6_at "PriceIrons" ∈ NWL := nw_in (i := 597) (by decide +kernel) rfl
theorem n499 : Cond.methodLinkNest RX9 56 yX11_divided "PriceIrons" ∈ NWL := nw_in (i := 598) (by decide +kernel) rfl
theorem q500 : Cond.methodLink RX9 60 yJ9_min_f86c9 ∈ AW := aw_in (i := 599) (by decide +kernel) rfl
theorem qt_yJ9_min_f86c9 : Cond.static yJ9_min_f86c9 ∈ AW := aw_in (i := 600) (by decide +kernel) rfl
theorem qc_yJ9_min_f86c9 : Cond.code yJ9_min_f86c9 prog_20_method_70_code 4 (Option.some FieldType.long) ∈ AW := aw_in (i := 601) (by decide +kernel) rfl
theorem n503 : Cond.methodLinkNest RX11 225 yX9_valueAt "PriceIrons" ∈ NWL := nw_in (i := 602) (by decide +kernel) rfl
theorem qi_yX9_valueAt : Cond.instanceMethod yX9_valueAt ∈ AW := aw_in (i := 604) (by decide +kernel) rfl
theorem qc_yX9_valueAt : Cond.code yX9_valueAt prog_11_method_8_code 3 (Option.some FieldType.long) ∈ AW := aw_in (i := 605) (by decide +kernel) rfl
theorem n507 : Cond.methodLinkNest RX11 253 yX5_bare "PriceIrons" ∈ NWL := nw_in (i := 606) (by decide +kernel) rfl
theorem qt_yX5_bare : Cond.static yX5_bare ∈ AW := aw_in (i := 607) (by decide +kernel) rfl
theorem qc_yX5_bare : Cond.code yX5_bare prog_7_method_5_code 7 (Option.some FieldType.long) ∈ AW := aw_in (i := 608) (by decide +kernel) rfl
theorem n510 : Cond.methodLinkNest RX5 7 yX6_partOf "PriceIrons" ∈ NWL := nw_in (i := 609) (by decide +kernel) rfl
theorem qi_yX6_partOf : Cond.instanceMethod yX6_partOf ∈ AW := aw_in (i := 611) (by decide +kernel) rfl
theorem qc_yX6_partOf : Cond.code yX6_partOf prog_8_method_8_code 2 (Option.some FieldType.int) ∈ AW := aw_in (i := 612) (by decide +kernel) rfl
theorem q514 : Cond.methodLink RX5 28 yX5_daysOf ∈ AW := aw_in (i := 613) (by decide +kernel) rfl
theorem qt_yX5_daysOf : Cond.static yX5_daysOf ∈ AW := aw_in (i := 614) (by decide +kernel) rfl
theorem qc_yX5_daysOf : Cond.code yX5_daysOf prog_7_method_2_code 5 (Option.some FieldType.int) ∈ AW := aw_in (i := 615) (by decide +kernel) rfl
theorem n517 : Cond.methodLinkNest RX5 32 yX4_sumAhead "PriceIrons" ∈ NWL := nw_in (i := 616) (by decide +kernel) rfl
theorem q518 : Cond.methodLink RX5 22 yX5_sumOf ∈ AW := aw_in (i := 617) (by decide +kernel) rfl
theorem qt_yX5_sumOf : Cond.static yX5_sumOf ∈ AW := aw_in (i := 618) (by decide +kernel) rfl
theorem qc_yX5_sumOf : Cond.code yX5_sumOf prog_7_method_3_code 6 (Option.some FieldType.long) ∈ AW := aw_in (i := 619) (by decide +kernel) rfl
theorem n521 : Cond.methodLinkNest RX5 13 yX6_at "PriceIrons" ∈ NWL := nw_in (i := 620) (by decide +kernel) rfl
theorem q522 : Cond.constantLong RX5 16 (1000 : Int64) ∈ AW := aw_in (i := 621) (by decide +kernel) rfl
theorem n523 : Cond.methodLinkNest RX5 38 yX11_divided "PriceIrons" ∈ NWL := nw_in (i := 622) (by decide +kernel) rfl
theorem q524 : Cond.methodLink RX11 281 yX11_hashOfSeason ∈ AW := aw_in (i := 623) (by decide +kernel) rfl
theorem qi_yX11_hashOfSeason : Cond.instanceMethod yX11_hashOfSeason ∈ AW := aw_in (i := 625) (by decide +kernel) rfl
theorem qc_yX11_hashOfSeason : Cond.code yX11_hashOfSeason prog_1_method_55_code 6 (Option.some FieldType.long) ∈ AW := aw_in (i := 626) (by decide +kernel) rfl
theorem n528 : Cond.methodLinkNest RX11 243 yX5_daysOf "PriceIrons" ∈ NWL := nw_in (i := 627) (by decide +kernel) rfl
theorem n529 : Cond.methodLinkNest RX11 250 yX5_index "PriceIrons" ∈ NWL := nw_in (i := 628) (by decide +kernel) rfl
theorem qt_yX5_index : Cond.static yX5_index ∈ AW := aw_in (i := 629) (by decide +kernel) rfl
theorem qc_yX5_index : Cond.code yX5_index prog_7_method_4_code 6 (Option.some FieldType.int) ∈ AW := aw_in (i := 630) (by decide +kernel) rfl
theorem q532 : Cond.methodLink RX11 284 yX11_hashOfForecasts ∈ AW := aw_in (i := 631) (by decide +kernel) rfl
theorem qi_yX11_hashOfForecasts : Cond.instanceMethod yX11_hashOfForecasts ∈ AW := aw_in (i := 633) (by decide +kernel) rfl
theorem qc_yX11_hashOfForecasts : Cond.code yX11_hashOfForecasts prog_1_method_56_code 6 (Option.some FieldType.long) ∈ AW := aw_in (i := 634) (by decide +kernel) rfl
theorem n536 : Cond.methodLinkNest RX11 259 yX1_behind "PriceIrons" ∈ NWL := nw_in (i := 635) (by decide +kernel) rfl
theorem qt_yX1_behind : Cond.static yX1_behind ∈ AW := aw_in (i := 636) (by decide +kernel) rfl
theorem qc_yX1_behind : Cond.code yX1_behind prog_3_method_2_code 5 (Option.some FieldType.int) ∈ AW := aw_in (i := 637) (by decide +kernel) rfl
theorem n539 : Cond.methodLinkNest RX1 9 yX6_partOf "PriceIrons" ∈ NWL := nw_in (i := 638) (by decide +kernel) rfl
theorem n540 : Cond.methodLinkNest RX1 15 yX5_daysOf "PriceIrons" ∈ NWL := nw_in (i := 639) (by decide +kernel) rfl
theorem q541 : Cond.constantLong RX1 21 (1000 : Int64) ∈ AW := aw_in (i := 640) (by decide +kernel) rfl
theorem n542 : Cond.methodLinkNest RX1 23 yX5_sumOf "PriceIrons" ∈ NWL := nw_in (i := 641) (by decide +kernel) rfl
theorem n543 : Cond.methodLinkNest RX1 27 yX11_divided "PriceIrons" ∈ NWL := nw_in (i := 642) (by decide +kernel) rfl
theorem n544 : Cond.methodLinkNest RX1 31 yX4_smoothedForwards "PriceIrons" ∈ NWL := nw_in (i := 643) (by decide +kernel) rfl
theorem n545 : Cond.methodLinkNest RX1 44 yX4_byAdding "PriceIrons" ∈ NWL := nw_in (i := 644) (by decide +kernel) rfl
theorem n546 : Cond.methodLinkNest RX11 264 yX1_missOf "PriceIrons" ∈ NWL := nw_in (i := 645) (by decide +kernel) rfl
theorem qt_yX1_missOf : Cond.static yX1_missOf ∈ AW := aw_in (i := 646) (by decide +kernel) rfl
theorem qc_yX1_missOf : Cond.code yX1_missOf prog_3_method_3_code 5 (Option.some FieldType.int) ∈ AW := aw_in (i := 647) (by decide +kernel) rfl
theorem q549 : Cond.methodLink RX1 50 yX1_behind ∈ AW := aw_in (i := 648) (by decide +kernel) rfl
theorem n550 : Cond.methodLinkNest RX1 55 yX6_at "PriceIrons" ∈ NWL := nw_in (i := 649) (by decide +kernel) rfl
theorem q551 : Cond.methodLink RX1 58 yJ9_abs_0f7a4 ∈ AW := aw_in (i := 650) (by decide +kernel) rfl
theorem n552 : Cond.methodLinkNest RX11 267 yX1_best "PriceIrons" ∈ NWL := nw_in (i := 651) (by decide +kernel) rfl
theorem qt_yX1_best : Cond.static yX1_best ∈ AW := aw_in (i := 652) (by decide +kernel) rfl
theorem qc_yX1_best : Cond.code yX1_best prog_3_method_4_code 5 (Option.some FieldType.int) ∈ AW := aw_in (i := 653) (by decide +kernel) rfl
theorem q555 : Cond.methodLink RX1 63 yX1_missOf ∈ AW := aw_in (i := 654) (by decide +kernel) rfl
theorem q556 : Cond.methodLink RX11 287 yX11_hashOfStop ∈ AW := aw_in (i := 655) (by decide +kernel) rfl
theorem qi_yX11_hashOfStop : Cond.instanceMethod yX11_hashOfStop ∈ AW := aw_in (i := 657) (by decide +kernel) rfl
theorem qc_yX11_hashOfStop : Cond.code yX11_hashOfStop prog_1_method_57_code 5 (Option.some FieldType.long) ∈ AW := aw_in (i := 658) (by decide +kernel) rfl
theorem q560 : Cond.methodLink RX11 290 yX11_smoothShare ∈ AW := aw_in (i := 659) (by decide +kernel) rfl
theorem q561 : Cond.methodLink RX11 294 yX11_bitsOf ∈ AW := aw_in (i := 660) (by decide +kernel) rfl
theorem qt_yX11_bitsOf : Cond.static yX11_bitsOf ∈ AW := aw_in (i := 661) (by decide +kernel) rfl
theorem qc_yX11_bitsOf : Cond.code yX11_bitsOf prog_1_method_60_code 8 (Option.some FieldType.long) ∈ AW := aw_in (i := 662) (by decide +kernel) rfl
theorem q564 : Cond.constantLong RX11 320 (1023 : Int64) ∈ AW := aw_in (i := 663) (by decide +kernel) rfl
theorem q565 : Cond.constantDouble RX11 322 (4611686018427387904 : UInt64) ∈ AW := aw_in (i := 664) (by decide +kernel) rfl
theorem q566 : Cond.constantDouble RX11 324 (4841369599423283200 : UInt64) ∈ AW := aw_in (i := 665) (by decide +kernel) rfl
theorem q567 : Cond.methodLink RX11 302 yX11_hashOfText ∈ AW := aw_in (i := 666) (by decide +kernel) rfl
theorem qi_yX11_hashOfText : Cond.instanceMethod yX11_hashOfText ∈ AW := aw_in (i := 668) (by decide +kernel) rfl
theorem qc_yX11_hashOfText : Cond.code yX11_hashOfText prog_1_method_58_code 6 (Option.some FieldType.long) ∈ AW := aw_in (i := 669) (by decide +kernel) rfl
theorem n571 : Cond.methodLinkNest RX11 315 yX8_codeAt "PriceIrons" ∈ NWL := nw_in (i := 670) (by decide +kernel) rfl
theorem q572 : Cond.methodLink RL 123 yL_addPrice ∈ AW := aw_in (i := 671) (by decide +kernel) rfl
theorem qt_yL_addPrice : Cond.static yL_addPrice ∈ AW := aw_in (i := 672) (by decide +kernel) rfl
theorem qc_yL_addPrice : Cond.codeWith yL_addPrice method_3_code 4 (Option.some FieldType.int) [(0, 9, 12, 13), (0, 9, 15, 15)] ∈ AW := aw_in (i := 673) (by decide +kernel) rfl
theorem q575 : Cond.classLink RL 13 "java/lang/IllegalArgumentException" ∈ AW := aw_in (i := 674) (by decide +kernel) rfl
theorem q576 : Cond.classLink RL 15 "java/lang/IllegalStateException" ∈ AW := aw_in (i := 675) (by decide +kernel) rfl
theorem q577 : Cond.methodLink RL 7 yX11_addPrice ∈ AW := aw_in (i := 676) (by decide +kernel) rfl
theorem qi_yX11_addPrice : Cond.instanceMethod yX11_addPrice ∈ AW := aw_in (i := 677) (by decide +kernel) rfl
theorem qs_yX11_addPrice : Cond.selects (yX11_addPrice : MethodName).cls yX11_addPrice yX11_addPrice ∈ AW := aw_in (i := 678) (by decide +kernel) rfl
theorem qc_yX11_addPrice : Cond.code yX11_addPrice prog_1_method_2_code 2 (Option.some FieldType.int) ∈ AW := aw_in (i := 679) (by decide +kernel) rfl
theorem q581 : Cond.methodLink RX11 61 yX11_requireRange ∈ AW := aw_in (i := 680) (by decide +kernel) rfl
theorem qt_yX11_requireRange : Cond.static yX11_requireRange ∈ AW := aw_in (i := 681) (by decide +kernel) rfl
theorem qc_yX11_requireRange : Cond.code yX11_requireRange prog_1_method_62_code 3 (Option.none : Option FieldType) ∈ AW := aw_in (i := 682) (by decide +kernel) rfl
theorem q584 : Cond.classLink RX11 116 "java/lang/IllegalArgumentException" ∈ AW := aw_in (i := 683) (by decide +kernel) rfl
theorem q585 : Cond.instantiable "java/lang/IllegalArgumentException" 6 ∈ AW := aw_in (i := 684) (by decide +kernel) rfl
theorem n586 : Cond.castable "java/lang/IllegalArgumentException" "java/lang/IllegalArgumentException" ∈ NWL := nw_in (i := 685) (by decide +kernel) rfl
theorem n587 : Cond.declares (⟨"java/lang/RuntimeException", "<init>", "()V"⟩ : MethodName) ∈ NWL := nw_in (i := 686) (by decide +kernel) rfl
theorem n588 : Cond.declares (⟨"java/lang/RuntimeException", "<init>", "(Ljava/lang/String;)V"⟩ : MethodName) ∈ NWL := nw_in (i := 687) (by decide +kernel) rfl
theorem n589 : Cond.declares (⟨"java/lang/Exception", "<init>", "()V"⟩ : MethodName) ∈ NWL := nw_in (i := 688) (by decide +kernel) rfl
theorem n590 : Cond.declares (⟨"java/lang/Exception", "<init>", "(Ljava/lang/String;)V"⟩ : MethodName) ∈ NWL := nw_in (i := 689) (by decide +kernel) rfl
theorem n591 : Cond.declares (⟨"java/lang/Throwable", "<init>", "()V"⟩ : MethodName) ∈ NWL := nw_in (i := 690) (by decide +kernel) rfl
theorem n592 : Cond.declares (⟨"java/lang/Throwable", "<init>", "(Ljava/lang/String;)V"⟩ : MethodName) ∈ NWL := nw_in (i := 691) (by decide +kernel) rfl
theorem q593 : Cond.selects "java/lang/IllegalArgumentException" (⟨"java/lang/Throwable", "fillInStackTrace", "(I)Ljava/lang/Throwable;"⟩ : MethodName) (⟨"java/lang/Throwable", "fillInStackTrace", "(I)Ljava/lang/Throwable;"⟩ : MethodName) ∈ AW := aw_in (i := 692) (by decide +kernel) rfl
theorem q594 : Cond.selects "java/lang/IllegalArgumentException" (⟨"java/lang/Throwable", "fillInStackTrace", "()Ljava/lang/Throwable;"⟩ : MethodName) (⟨"java/lang/Throwable", "fillInStackTrace", "()Ljava/lang/Throwable;"⟩ : MethodName) ∈ AW := aw_in (i := 693) (by decide +kernel) rfl
theorem q605 : Cond.fieldLink "java/lang/Throwable" 198 "java/lang/Throwable" "backtrace" "Ljava/lang/Object;" ∈ AW := aw_in (i := 704) (by decide +kernel) rfl
theorem q607 : Cond.instanceMethod (⟨"java/lang/Throwable", "<init>", "()V"⟩ : MethodName) ∈ AW := aw_in (i := 706) (by decide +kernel) rfl
theorem q608 : Cond.code (⟨"java/lang/Throwable", "<init>", "()V"⟩ : MethodName) prog_24_method_1_code 1 (Option.none : Option FieldType) ∈ AW := aw_in (i := 707) (by decide +kernel) rfl
theorem q609 : Cond.methodLink "java/lang/Throwable" 1 (⟨"java/lang/Object", "<init>", "()V"⟩ : MethodName) ∈ AW := aw_in (i := 708) (by decide +kernel) rfl
theorem q610 : Cond.fieldLink "java/lang/Throwable" 13 "java/lang/Throwable" "UNASSIGNED_STACK" "[Ljava/lang/StackTraceElement;" ∈ AW := aw_in (i := 709) (by decide +kernel) rfl
theorem q612 : Cond.fieldLink "java/lang/Throwable" 20 "java/lang/Throwable" "SUPPRESSED_SENTINEL" "Ljava/util/List;" ∈ AW := aw_in (i := 711) (by decide +kernel) rfl
theorem q614 : Cond.methodLink "java/lang/Throwable" 27 (⟨"java/lang/Throwable", "fillInStackTrace", "()Ljava/lang/Throwable;"⟩ : MethodName) ∈ AW := aw_in (i := 713) (by decide +kernel) rfl
theorem q615 : Cond.instanceMethod (⟨"java/lang/Throwable", "fillInStackTrace", "()Ljava/lang/Throwable;"⟩ : MethodName) ∈ AW := aw_in (i := 714) (by decide +kernel) rfl
theorem q617 : Cond.selects "java/lang/IllegalStateException" (⟨"java/lang/Throwable", "fillInStackTrace", "()Ljava/lang/Throwable;"⟩ : MethodName) (⟨"java/lang/Throwable", "fillInStackTrace", "()Ljava/lang/Throwable;"⟩ : MethodName) ∈ AW := aw_in (i := 716) (by decide +kernel) rfl
theorem q618 : Cond.selects "java/lang/IndexOutOfBoundsException" (⟨"java/lang/Throwable", "fillInStackTrace", "()Ljava/lang/Throwable;"⟩ : MethodName) (⟨"java/lang/Throwable", "fillInStackTrace", "()Ljava/lang/Throwable;"⟩ : MethodName) ∈ AW := aw_in (i := 717) (by decide +kernel) rfl
theorem q620 : Cond.methodLink "java/lang/Throwable" 202 (⟨"java/lang/Throwable", "fillInStackTrace", "(I)Ljava/lang/Throwable;"⟩ : MethodName) ∈ AW := aw_in (i := 719) (by decide +kernel) rfl
theorem q622 : Cond.instanceMethod (⟨"java/lang/Throwable", "fillInStackTrace", "(I)Ljava/lang/Throwable;"⟩ : MethodName) ∈ AW := aw_in (i := 721) (by decide +kernel) rfl
theorem q623 : Cond.instantiable "java/lang/Throwable" 6 ∈ AW := aw_in (i := 722) (by decide +kernel) rfl
theorem q624 : Cond.native (⟨"java/lang/Throwable", "fillInStackTrace", "(I)Ljava/lang/Throwable;"⟩ : MethodName) ∈ AW := aw_in (i := 723) (by decide +kernel) rfl
theorem q626 : Cond.methodLink RX11 120 (⟨"java/lang/IllegalArgumentException", "<init>", "(Ljava/lang/String;)V"⟩ : MethodName) ∈ AW := aw_in (i := 725) (by decide +kernel) rfl
theorem q627 : Cond.instanceMethod (⟨"java/lang/IllegalArgumentException", "<init>", "(Ljava/lang/String;)V"⟩ : MethodName) ∈ AW := aw_in (i := 726) (by decide +kernel) rfl
theorem q628 : Cond.code (⟨"java/lang/IllegalArgumentException", "<init>", "(Ljava/lang/String;)V"⟩ : MethodName) prog_17_method_2_code 2 (Option.none : Option FieldType) ∈ AW := aw_in (i := 727) (by decide +kernel) rfl
theorem q629 : Cond.methodLink "java/lang/IllegalArgumentException" 7 (⟨"java/lang/RuntimeException", "<init>", "(Ljava/lang/String;)V"⟩ : MethodName) ∈ AW := aw_in (i := 728) (by decide +kernel) rfl
theorem q630 : Cond.instanceMethod (⟨"java/lang/RuntimeException", "<init>", "(Ljava/lang/String;)V"⟩ : MethodName) ∈ AW := aw_in (i := 729) (by decide +kernel) rfl
theorem q631 : Cond.code (⟨"java/lang/RuntimeException", "<init>", "(Ljava/lang/String;)V"⟩ : MethodName) prog_21_method_2_code 2 (Option.none : Option FieldType) ∈ AW := aw_in (i := 730) (by decide +kernel) rfl
theorem q632 : Cond.methodLink "java/lang/RuntimeException" 7 (⟨"java/lang/Exception", "<init>", "(Ljava/lang/String;)V"⟩ : MethodName) ∈ AW := aw_in (i := 731) (by decide +kernel) rfl
theorem q633 : Cond.instanceMethod (⟨"java/lang/Exception", "<init>", "(Ljava/lang/String;)V"⟩ : MethodName) ∈ AW := aw_in (i := 732) (by decide +kernel) rfl
theorem q634 : Cond.code (⟨"java/lang/Exception", "<init>", "(Ljava/lang/String;)V"⟩ : MethodName) prog_16_method_2_code 2 (Option.none : Option FieldType) ∈ AW := aw_in (i := 733) (by decide +kernel) rfl
theorem q635 : Cond.methodLink "java/lang/Exception" 7 (⟨"java/lang/Throwable", "<init>", "(Ljava/lang/String;)V"⟩ : MethodName) ∈ AW := aw_in (i := 734) (by decide +kernel) rfl
theorem q636 : Cond.instanceMethod (⟨"java/lang/Throwable", "<init>", "(Ljava/lang/String;)V"⟩ : MethodName) ∈ AW := aw_in (i := 735) (by decide +kernel) rfl
theorem q637 : Cond.code (⟨"java/lang/Throwable", "<init>", "(Ljava/lang/String;)V"⟩ : MethodName) prog_24_method_2_code 2 (Option.none : Option FieldType) ∈ AW := aw_in (i := 736) (by decide +kernel) rfl
theorem q638 : Cond.fieldLink "java/lang/Throwable" 198 "java/lang/Throwable" "backtrace" "Ljava/lang/Object;" ∈ AW := aw_in (i := 737) (by decide +kernel) rfl
theorem q639 : Cond.fieldLink "java/lang/Throwable" 31 "java/lang/Throwable" "detailMessage" "Ljava/lang/String;" ∈ AW := aw_in (i := 738) (by decide +kernel) rfl
theorem q640 : Cond.fieldLink "java/lang/Throwable" 7 "java/lang/Throwable" "cause" "Ljava/lang/Throwable;" ∈ AW := aw_in (i := 739) (by decide +kernel) rfl
theorem q641 : Cond.fieldLink "java/lang/Throwable" 17 "java/lang/Throwable" "stackTrace" "[Ljava/lang/StackTraceElement;" ∈ AW := aw_in (i := 740) (by decide +kernel) rfl
theorem q642 : Cond.fieldLink "java/lang/Throwable" 24 "java/lang/Throwable" "suppressedExceptions" "Ljava/util/List;" ∈ AW := aw_in (i := 741) (by decide +kernel) rfl
theorem q651 : Cond.arrayClass FieldType.byte ∈ AW := aw_in (i := 750) (by decide +kernel) rfl
theorem q652 : Cond.classLink RX11 69 "java/lang/IllegalStateException" ∈ AW := aw_in (i := 751) (by decide +kernel) rfl
theorem q653 : Cond.instantiable "java/lang/IllegalStateException" 6 ∈ AW := aw_in (i := 752) (by decide +kernel) rfl
theorem n654 : Cond.castable "java/lang/IllegalStateException" "java/lang/IllegalStateException" ∈ NWL := nw_in (i := 753) (by decide +kernel) rfl
theorem q655 : Cond.selects "java/lang/IllegalStateException" (⟨"java/lang/Throwable", "fillInStackTrace", "(I)Ljava/lang/Throwable;"⟩ : MethodName) (⟨"java/lang/Throwable", "fillInStackTrace", "(I)Ljava/lang/Throwable;"⟩ : MethodName) ∈ AW := aw_in (i := 754) (by decide +kernel) rfl
theorem q662 : Cond.methodLink RX11 73 (⟨"java/lang/IllegalStateException", "<init>", "(Ljava/lang/String;)V"⟩ : MethodName) ∈ AW := aw_in (i := 761) (by decide +kernel) rfl
theorem q663 : Cond.instanceMethod (⟨"java/lang/IllegalStateException", "<init>", "(Ljava/lang/String;)V"⟩ : MethodName) ∈ AW := aw_in (i := 762) (by decide +kernel) rfl
theorem q664 : Cond.code (⟨"java/lang/IllegalStateException", "<init>", "(Ljava/lang/String;)V"⟩ : MethodName) prog_18_method_2_code 2 (Option.none : Option FieldType) ∈ AW := aw_in (i := 763) (by decide +kernel) rfl
theorem q665 : Cond.methodLink "java/lang/IllegalStateException" 7 (⟨"java/lang/RuntimeException", "<init>", "(Ljava/lang/String;)V"⟩ : MethodName) ∈ AW := aw_in (i := 764) (by decide +kernel) rfl
theorem n668 : Cond.methodLinkNest RX11 80 yX6_add "PriceIrons" ∈ NWL := nw_in (i := 767) (by decide +kernel) rfl
theorem qi_yX6_add : Cond.instanceMethod yX6_add ∈ AW := aw_in (i := 769) (by decide +kernel) rfl
theorem qc_yX6_add : Cond.code yX6_add prog_8_method_6_code 2 (Option.none : Option FieldType) ∈ AW := aw_in (i := 770) (by decide +kernel) rfl
theorem q672 : Cond.methodLink RL 132 yL_setPrice ∈ AW := aw_in (i := 771) (by decide +kernel) rfl
theorem qt_yL_setPrice : Cond.static yL_setPrice ∈ AW := aw_in (i := 772) (by decide +kernel) rfl
theorem qc_yL_setPrice : Cond.codeWith yL_setPrice method_4_code 5 (Option.some FieldType.int) [(0, 10, 13, 21), (0, 10, 17, 13)] ∈ AW := aw_in (i := 773) (by decide +kernel) rfl
theorem q675 : Cond.classLink RL 21 "java/lang/IndexOutOfBoundsException" ∈ AW := aw_in (i := 774) (by decide +kernel) rfl
theorem q676 : Cond.methodLink RL 17 yX11_setPrice ∈ AW := aw_in (i := 775) (by decide +kernel) rfl
theorem qi_yX11_setPrice : Cond.instanceMethod yX11_setPrice ∈ AW := aw_in (i := 776) (by decide +kernel) rfl
theorem qs_yX11_setPrice : Cond.selects (yX11_setPrice : MethodName).cls yX11_setPrice yX11_setPrice ∈ AW := aw_in (i := 777) (by decide +kernel) rfl
theorem qc_yX11_setPrice : Cond.code yX11_setPrice prog_1_method_3_code 4 (Option.some FieldType.int) ∈ AW := aw_in (i := 778) (by decide +kernel) rfl
theorem q680 : Cond.methodLink RX11 84 yX11_requireDay ∈ AW := aw_in (i := 779) (by decide +kernel) rfl
theorem qi_yX11_requireDay : Cond.instanceMethod yX11_requireDay ∈ AW := aw_in (i := 781) (by decide +kernel) rfl
theorem qc_yX11_requireDay : Cond.code yX11_requireDay prog_1_method_63_code 2 (Option.none : Option FieldType) ∈ AW := aw_in (i := 782) (by decide +kernel) rfl
theorem n684 : Cond.methodLinkNest RX11 328 yX6_hasDay "PriceIrons" ∈ NWL := nw_in (i := 783) (by decide +kernel) rfl
theorem qi_yX6_hasDay : Cond.instanceMethod yX6_hasDay ∈ AW := aw_in (i := 785) (by decide +kernel) rfl
theorem qc_yX6_hasDay : Cond.code yX6_hasDay prog_8_method_3_code 2 (Option.some FieldType.boolean) ∈ AW := aw_in (i := 786) (by decide +kernel) rfl
theorem q688 : Cond.classLink RX11 238 "java/lang/IndexOutOfBoundsException" ∈ AW := aw_in (i := 787) (by decide +kernel) rfl
theorem q689 : Cond.instantiable "java/lang/IndexOutOfBoundsException" 6 ∈ AW := aw_in (i := 788) (by decide +kernel) rfl
theorem n690 : Cond.castable "java/lang/IndexOutOfBoundsException" "java/lang/IndexOutOfBoundsException" ∈ NWL := nw_in (i := 789) (by decide +kernel) rfl
theorem q691 : Cond.selects "java/lang/IndexOutOfBoundsException" (⟨"java/lang/Throwable", "fillInStackTrace", "(I)Ljava/lang/Throwable;"⟩ : MethodName) (⟨"java/lang/Throwable", "fillInStackTrace", "(I)Ljava/lang/Throwable;"⟩ : MethodName) ∈ AW := aw_in (i := 790) (by decide +kernel) rfl
theorem q698 : Cond.methodLink RX11 242 (⟨"java/lang/IndexOutOfBoundsException", "<init>", "(Ljava/lang/String;)V"⟩ : MethodName) ∈ AW := aw_in (i := 797) (by decide +kernel) rfl
theorem q699 : Cond.instanceMethod (⟨"java/lang/IndexOutOfBoundsException", "<init>", "(Ljava/lang/String;)V"⟩ : MethodName) ∈ AW := aw_in (i := 798) (by decide +kernel) rfl
theorem q700 : Cond.code (⟨"java/lang/IndexOutOfBoundsException", "<init>", "(Ljava/lang/String;)V"⟩ : MethodName) prog_19_method_2_code 2 (Option.none : Option FieldType) ∈ AW := aw_in (i := 799) (by decide +kernel) rfl
theorem q701 : Cond.methodLink "java/lang/IndexOutOfBoundsException" 7 (⟨"java/lang/RuntimeException", "<init>", "(Ljava/lang/String;)V"⟩ : MethodName) ∈ AW := aw_in (i := 800) (by decide +kernel) rfl
theorem n704 : Cond.methodLinkNest RX11 91 yX6_put "PriceIrons" ∈ NWL := nw_in (i := 803) (by decide +kernel) rfl
theorem q705 : Cond.methodLink RL 136 yL_dropOldest ∈ AW := aw_in (i := 804) (by decide +kernel) rfl
theorem qt_yL_dropOldest : Cond.static yL_dropOldest ∈ AW := aw_in (i := 805) (by decide +kernel) rfl
theorem qc_yL_dropOldest : Cond.codeWith yL_dropOldest method_5_code 4 (Option.some FieldType.int) [(0, 9, 12, 13), (0, 9, 15, 15)] ∈ AW := aw_in (i := 806) (by decide +kernel) rfl
theorem q708 : Cond.methodLink RL 23 yX11_dropOldest ∈ AW := aw_in (i := 807) (by decide +kernel) rfl
theorem qi_yX11_dropOldest : Cond.instanceMethod yX11_dropOldest ∈ AW := aw_in (i := 808) (by decide +kernel) rfl
theorem qs_yX11_dropOldest : Cond.selects (yX11_dropOldest : MethodName).cls yX11_dropOldest yX11_dropOldest ∈ AW := aw_in (i := 809) (by decide +kernel) rfl
theorem qc_yX11_dropOldest : Cond.code yX11_dropOldest prog_1_method_4_code 2 (Option.some FieldType.int) ∈ AW := aw_in (i := 810) (by decide +kernel) rfl
theorem n713 : Cond.methodLinkNest RX11 97 yX6_drop "PriceIrons" ∈ NWL := nw_in (i := 812) (by decide +kernel) rfl
theorem qi_yX6_drop : Cond.instanceMethod yX6_drop ∈ AW := aw_in (i := 814) (by decide +kernel) rfl
theorem qc_yX6_drop : Cond.code yX6_drop prog_8_method_7_code 4 (Option.none : Option FieldType) ∈ AW := aw_in (i := 815) (by decide +kernel) rfl
theorem q717 : Cond.methodLink RX6 50 yX6_at ∈ AW := aw_in (i := 816) (by decide +kernel) rfl
theorem q718 : Cond.methodLink RX6 54 yX6_put ∈ AW := aw_in (i := 817) (by decide +kernel) rfl
theorem q719 : Cond.methodLink RL 139 yL_press ∈ AW := aw_in (i := 818) (by decide +kernel) rfl
theorem qt_yL_press : Cond.static yL_press ∈ AW := aw_in (i := 819) (by decide +kernel) rfl
theorem qc_yL_press : Cond.codeWith yL_press method_6_code 4 (Option.some FieldType.int) [(0, 9, 12, 21), (0, 9, 15, 15)] ∈ AW := aw_in (i := 820) (by decide +kernel) rfl
theorem q722 : Cond.methodLink RL 26 yX11_press ∈ AW := aw_in (i := 821) (by decide +kernel) rfl
theorem qi_yX11_press : Cond.instanceMethod yX11_press ∈ AW := aw_in (i := 822) (by decide +kernel) rfl
theorem qs_yX11_press : Cond.selects (yX11_press : MethodName).cls yX11_press yX11_press ∈ AW := aw_in (i := 823) (by decide +kernel) rfl
theorem qc_yX11_press : Cond.code yX11_press prog_1_method_5_code 2 (Option.some FieldType.int) ∈ AW := aw_in (i := 824) (by decide +kernel) rfl
theorem n727 : Cond.methodLinkNest RX11 108 yX0_flatten "PriceIrons" ∈ NWL := nw_in (i := 826) (by decide +kernel) rfl
theorem q728 : Cond.methodLink RL 146 yL_setWindows ∈ AW := aw_in (i := 827) (by decide +kernel) rfl
theorem qt_yL_setWindows : Cond.static yL_setWindows ∈ AW := aw_in (i := 828) (by decide +kernel) rfl
theorem qc_yL_setWindows : Cond.codeWith yL_setWindows method_7_code 5 (Option.some FieldType.int) [(0, 10, 13, 13)] ∈ AW := aw_in (i := 829) (by decide +kernel) rfl
theorem q731 : Cond.methodLink RL 29 yX11_setWindows ∈ AW := aw_in (i := 830) (by decide +kernel) rfl
theorem qi_yX11_setWindows : Cond.instanceMethod yX11_setWindows ∈ AW := aw_in (i := 831) (by decide +kernel) rfl
theorem qs_yX11_setWindows : Cond.selects (yX11_setWindows : MethodName).cls yX11_setWindows yX11_setWindows ∈ AW := aw_in (i := 832) (by decide +kernel) rfl
theorem qc_yX11_setWindows : Cond.code yX11_setWindows prog_1_method_7_code 4 (Option.some FieldType.int) ∈ AW := aw_in (i := 833) (by decide +kernel) rfl
theorem q736 : Cond.methodLink RL 149 yL_setMemory ∈ AW := aw_in (i := 835) (by decide +kernel) rfl
theorem qt_yL_setMemory : Cond.static yL_setMemory ∈ AW := aw_in (i := 836) (by decide +kernel) rfl
theorem qc_yL_setMemory : Cond.codeWith yL_setMemory method_8_code 4 (Option.some FieldType.int) [(0, 9, 12, 13)] ∈ AW := aw_in (i := 837) (by decide +kernel) rfl
theorem q739 : Cond.methodLink RL 32 yX11_setMemory ∈ AW := aw_in (i := 838) (by decide +kernel) rfl
theorem qi_yX11_setMemory : Cond.instanceMethod yX11_setMemory ∈ AW := aw_in (i := 839) (by decide +kernel) rfl
theorem qs_yX11_setMemory : Cond.selects (yX11_setMemory : MethodName).cls yX11_setMemory yX11_setMemory ∈ AW := aw_in (i := 840) (by decide +kernel) rfl
theorem qc_yX11_setMemory : Cond.code yX11_setMemory prog_1_method_8_code 3 (Option.some FieldType.int) ∈ AW := aw_in (i := 841) (by decide +kernel) rfl
theorem q743 : Cond.methodLink RL 152 yL_setLimit ∈ AW := aw_in (i := 842) (by decide +kernel) rfl
theorem qt_yL_setLimit : Cond.static yL_setLimit ∈ AW := aw_in (i := 843) (by decide +kernel) rfl
theorem qc_yL_setLimit : Cond.codeWith yL_setLimit method_9_code 4 (Option.some FieldType.int) [(0, 9, 12, 13)] ∈ AW := aw_in (i := 844) (by decide +kernel) rfl
theorem q746 : Cond.methodLink RL 35 yX11_setLimit ∈ AW := aw_in (i := 845) (by decide +kernel) rfl
theorem qi_yX11_setLimit : Cond.instanceMethod yX11_setLimit ∈ AW := aw_in (i := 846) (by decide +kernel) rfl
theorem qs_yX11_setLimit : Cond.selects (yX11_setLimit : MethodName).cls yX11_setLimit yX11_setLimit ∈ AW := aw_in (i := 847) (by decide +kernel) rfl
theorem qc_yX11_setLimit : Cond.code yX11_setLimit prog_1_method_9_code 3 (Option.some FieldType.int) ∈ AW := aw_in (i := 848) (by decide +kernel) rfl
theorem q750 : Cond.methodLink RL 155 yL_setSeason ∈ AW := aw_in (i := 849) (by decide +kernel) rfl
theorem qt_yL_setSeason : Cond.static yL_setSeason ∈ AW := aw_in (i := 850) (by decide +kernel) rfl
theorem qc_yL_setSeason : Cond.codeWith yL_setSeason method_10_code 4 (Option.some FieldType.int) [(0, 9, 12, 13)] ∈ AW := aw_in (i := 851) (by decide +kernel) rfl
theorem q753 : Cond.methodLink RL 38 yX11_setSeason ∈ AW := aw_in (i := 852) (by decide +kernel) rfl
theorem qi_yX11_setSeason : Cond.instanceMethod yX11_setSeason ∈ AW := aw_in (i := 853) (by decide +kernel) rfl
theorem qs_yX11_setSeason : Cond.selects (yX11_setSeason : MethodName).cls yX11_setSeason yX11_setSeason ∈ AW := aw_in (i := 854) (by decide +kernel) rfl
theorem qc_yX11_setSeason : Cond.code yX11_setSeason prog_1_method_10_code 3 (Option.some FieldType.int) ∈ AW := aw_in (i := 855) (by decide +kernel) rfl
theorem q757 : Cond.methodLink RL 158 yL_append ∈ AW := aw_in (i := 856) (by decide +kernel) rfl
theorem qt_yL_append : Cond.static yL_append ∈ AW := aw_in (i := 857) (by decide +kernel) rfl
theorem qc_yL_append : Cond.codeWith yL_append method_11_code 4 (Option.some FieldType.int) [(0, 9, 12, 13), (0, 9, 15, 15)] ∈ AW := aw_in (i := 858) (by decide +kernel) rfl
theorem q760 : Cond.methodLink RL 41 yX11_append ∈ AW := aw_in (i := 859) (by decide +kernel) rfl
theorem qi_yX11_append : Cond.instanceMethod yX11_append ∈ AW := aw_in (i := 860) (by decide +kernel) rfl
theorem qs_yX11_append : Cond.selects (yX11_append : MethodName).cls yX11_append yX11_append ∈ AW := aw_in (i := 861) (by decide +kernel) rfl
theorem qc_yX11_append : Cond.code yX11_append prog_1_method_11_code 2 (Option.some FieldType.int) ∈ AW := aw_in (i := 862) (by decide +kernel) rfl
theorem n765 : Cond.methodLinkNest RX11 139 yX8_add "PriceIrons" ∈ NWL := nw_in (i := 864) (by decide +kernel) rfl
theorem qi_yX8_add : Cond.instanceMethod yX8_add ∈ AW := aw_in (i := 866) (by decide +kernel) rfl
theorem qc_yX8_add : Cond.code yX8_add prog_10_method_2_code 2 (Option.none : Option FieldType) ∈ AW := aw_in (i := 867) (by decide +kernel) rfl
theorem q769 : Cond.methodLink RL 169 yL_work ∈ AW := aw_in (i := 868) (by decide +kernel) rfl
theorem qt_yL_work : Cond.static yL_work ∈ AW := aw_in (i := 869) (by decide +kernel) rfl
theorem qc_yL_work : Cond.codeWith yL_work method_12_code 3 (Option.some FieldType.int) [(0, 8, 11, 13)] ∈ AW := aw_in (i := 870) (by decide +kernel) rfl
theorem q772 : Cond.methodLink RL 44 yX11_work ∈ AW := aw_in (i := 871) (by decide +kernel) rfl
theorem qi_yX11_work : Cond.instanceMethod yX11_work ∈ AW := aw_in (i := 872) (by decide +kernel) rfl
theorem qs_yX11_work : Cond.selects (yX11_work : MethodName).cls yX11_work yX11_work ∈ AW := aw_in (i := 873) (by decide +kernel) rfl
theorem qc_yX11_work : Cond.code yX11_work prog_1_method_14_code 2 (Option.some FieldType.int) ∈ AW := aw_in (i := 874) (by decide +kernel) rfl
theorem n776 : Cond.methodLinkNest RX11 147 yX8_isWhole "PriceIrons" ∈ NWL := nw_in (i := 875) (by decide +kernel) rfl
theorem qi_yX8_isWhole : Cond.instanceMethod yX8_isWhole ∈ AW := aw_in (i := 877) (by decide +kernel) rfl
theorem qc_yX8_isWhole : Cond.code yX8_isWhole prog_10_method_6_code 1 (Option.some FieldType.boolean) ∈ AW := aw_in (i := 878) (by decide +kernel) rfl
theorem q780 : Cond.methodLink RX8 37 yX8_firstRefused ∈ AW := aw_in (i := 879) (by decide +kernel) rfl
theorem n781 : Cond.methodLinkNest RX8 41 yX7_mayEnd "PriceIrons" ∈ NWL := nw_in (i := 880) (by decide +kernel) rfl
theorem qi_yX7_mayEnd : Cond.instanceMethod yX7_mayEnd ∈ AW := aw_in (i := 882) (by decide +kernel) rfl
theorem qc_yX7_mayEnd : Cond.code yX7_mayEnd prog_9_method_10_code 1 (Option.some FieldType.boolean) ∈ AW := aw_in (i := 883) (by decide +kernel) rfl
theorem n786 : Cond.methodLinkNest RX11 153 yX10_run "PriceIrons" ∈ NWL := nw_in (i := 885) (by decide +kernel) rfl
theorem qi_yX10_run : Cond.instanceMethod yX10_run ∈ AW := aw_in (i := 887) (by decide +kernel) rfl
theorem qc_yX10_run : Cond.code yX10_run prog_12_method_2_code 7 (Option.some FieldType.int) ∈ AW := aw_in (i := 888) (by decide +kernel) rfl
theorem q790 : Cond.methodLink RX10 27 yX10_readPart ∈ AW := aw_in (i := 889) (by decide +kernel) rfl
theorem qi_yX10_readPart : Cond.instanceMethod yX10_readPart ∈ AW := aw_in (i := 891) (by decide +kernel) rfl
theorem qc_yX10_readPart : Cond.code yX10_readPart prog_12_method_3_code 7 (Option.some FieldType.int) ∈ AW := aw_in (i := 892) (by decide +kernel) rfl
theorem n794 : Cond.methodLinkNest RX10 47 yX8_codeAt "PriceIrons" ∈ NWL := nw_in (i := 893) (by decide +kernel) rfl
theorem q795 : Cond.methodLink RX10 51 yX10_startNumber ∈ AW := aw_in (i := 894) (by decide +kernel) rfl
theorem qi_yX10_startNumber : Cond.instanceMethod yX10_startNumber ∈ AW := aw_in (i := 896) (by decide +kernel) rfl
theorem qc_yX10_startNumber : Cond.code yX10_startNumber prog_12_method_4_code 1 (Option.none : Option FieldType) ∈ AW := aw_in (i := 897) (by decide +kernel) rfl
theorem q799 : Cond.methodLink RX10 54 yX10_growNumber ∈ AW := aw_in (i := 898) (by decide +kernel) rfl
theorem qi_yX10_growNumber : Cond.instanceMethod yX10_growNumber ∈ AW := aw_in (i := 900) (by decide +kernel) rfl
theorem qc_yX10_growNumber : Cond.code yX10_growNumber prog_12_method_5_code 2 (Option.none : Option FieldType) ∈ AW := aw_in (i := 901) (by decide +kernel) rfl
theorem q803 : Cond.methodLink RX10 31 yX10_doPart ∈ AW := aw_in (i := 902) (by decide +kernel) rfl
theorem qi_yX10_doPart : Cond.instanceMethod yX10_doPart ∈ AW := aw_in (i := 904) (by decide +kernel) rfl
theorem qc_yX10_doPart : Cond.code yX10_doPart prog_12_method_7_code 2 (Option.some FieldType.int) ∈ AW := aw_in (i := 905) (by decide +kernel) rfl
theorem q807 : Cond.methodLink RX10 58 yX10_addAll ∈ AW := aw_in (i := 906) (by decide +kernel) rfl
theorem qi_yX10_addAll : Cond.instanceMethod yX10_addAll ∈ AW := aw_in (i := 908) (by decide +kernel) rfl
theorem qc_yX10_addAll : Cond.code yX10_addAll prog_12_method_8_code 3 (Option.some FieldType.int) ∈ AW := aw_in (i := 909) (by decide +kernel) rfl
theorem q811 : Cond.methodLink RX10 64 yX10_number ∈ AW := aw_in (i := 910) (by decide +kernel) rfl
theorem qi_yX10_number : Cond.instanceMethod yX10_number ∈ AW := aw_in (i := 912) (by decide +kernel) rfl
theorem qc_yX10_number : Cond.code yX10_number prog_12_method_6_code 2 (Option.some FieldType.int) ∈ AW := aw_in (i := 913) (by decide +kernel) rfl
theorem n815 : Cond.methodLinkNest RX10 82 yX6_add "PriceIrons" ∈ NWL := nw_in (i := 914) (by decide +kernel) rfl
theorem q816 : Cond.methodLink RX10 61 yX10_changeWindows ∈ AW := aw_in (i := 915) (by decide +kernel) rfl
theorem qi_yX10_changeWindows : Cond.instanceMethod yX10_changeWindows ∈ AW := aw_in (i := 917) (by decide +kernel) rfl
theorem qc_yX10_changeWindows : Cond.code yX10_changeWindows prog_12_method_9_code 2 (Option.some FieldType.int) ∈ AW := aw_in (i := 918) (by decide +kernel) rfl
theorem q820 : Cond.methodLink RX10 73 yX10_flattenOne ∈ AW := aw_in (i := 919) (by decide +kernel) rfl
theorem qi_yX10_flattenOne : Cond.instanceMethod yX10_flattenOne ∈ AW := aw_in (i := 921) (by decide +kernel) rfl
theorem qc_yX10_flattenOne : Cond.code yX10_flattenOne prog_12_method_10_code 3 (Option.some FieldType.int) ∈ AW := aw_in (i := 922) (by decide +kernel) rfl
theorem n824 : Cond.methodLinkNest RX10 91 yX6_hasDay "PriceIrons" ∈ NWL := nw_in (i := 923) (by decide +kernel) rfl
theorem n825 : Cond.methodLinkNest RX10 95 yX0_standsOut "PriceIrons" ∈ NWL := nw_in (i := 924) (by decide +kernel) rfl
theorem n826 : Cond.methodLinkNest RX10 99 yX0_flatten "PriceIrons" ∈ NWL := nw_in (i := 925) (by decide +kernel) rfl
theorem n827 : Cond.methodLinkNest RX10 76 yX0_flattenAll "PriceIrons" ∈ NWL := nw_in (i := 926) (by decide +kernel) rfl
theorem q828 : Cond.methodLink RL 178 yL_stoppedPart ∈ AW := aw_in (i := 927) (by decide +kernel) rfl
theorem qt_yL_stoppedPart : Cond.static yL_stoppedPart ∈ AW := aw_in (i := 928) (by decide +kernel) rfl
theorem qc_yL_stoppedPart : Cond.codeWith yL_stoppedPart method_13_code 3 (Option.some FieldType.int) [(0, 8, 11, 15)] ∈ AW := aw_in (i := 929) (by decide +kernel) rfl
theorem q831 : Cond.methodLink RL 48 yX11_stoppedPart ∈ AW := aw_in (i := 930) (by decide +kernel) rfl
theorem qi_yX11_stoppedPart : Cond.instanceMethod yX11_stoppedPart ∈ AW := aw_in (i := 931) (by decide +kernel) rfl
theorem qs_yX11_stoppedPart : Cond.selects (yX11_stoppedPart : MethodName).cls yX11_stoppedPart yX11_stoppedPart ∈ AW := aw_in (i := 932) (by decide +kernel) rfl
theorem qc_yX11_stoppedPart : Cond.code yX11_stoppedPart prog_1_method_16_code 1 (Option.some FieldType.int) ∈ AW := aw_in (i := 933) (by decide +kernel) rfl
theorem q835 : Cond.methodLink RX11 160 yX11_requireStop ∈ AW := aw_in (i := 934) (by decide +kernel) rfl
theorem qi_yX11_requireStop : Cond.instanceMethod yX11_requireStop ∈ AW := aw_in (i := 936) (by decide +kernel) rfl
theorem qc_yX11_requireStop : Cond.code yX11_requireStop prog_1_method_65_code 1 (Option.none : Option FieldType) ∈ AW := aw_in (i := 937) (by decide +kernel) rfl
theorem q840 : Cond.methodLink RL 181 yL_whyStopped ∈ AW := aw_in (i := 939) (by decide +kernel) rfl
theorem qt_yL_whyStopped : Cond.static yL_whyStopped ∈ AW := aw_in (i := 940) (by decide +kernel) rfl
theorem qc_yL_whyStopped : Cond.codeWith yL_whyStopped method_14_code 3 (Option.some FieldType.int) [(0, 8, 11, 15)] ∈ AW := aw_in (i := 941) (by decide +kernel) rfl
theorem q843 : Cond.methodLink RL 51 yX11_whyStopped ∈ AW := aw_in (i := 942) (by decide +kernel) rfl
theorem qi_yX11_whyStopped : Cond.instanceMethod yX11_whyStopped ∈ AW := aw_in (i := 943) (by decide +kernel) rfl
theorem qs_yX11_whyStopped : Cond.selects (yX11_whyStopped : MethodName).cls yX11_whyStopped yX11_whyStopped ∈ AW := aw_in (i := 944) (by decide +kernel) rfl
theorem qc_yX11_whyStopped : Cond.code yX11_whyStopped prog_1_method_17_code 1 (Option.some FieldType.int) ∈ AW := aw_in (i := 945) (by decide +kernel) rfl
theorem q847 : Cond.methodLink RL 184 yL_undo ∈ AW := aw_in (i := 946) (by decide +kernel) rfl
theorem qt_yL_undo : Cond.static yL_undo ∈ AW := aw_in (i := 947) (by decide +kernel) rfl
theorem qc_yL_undo : Cond.codeWith yL_undo method_15_code 3 (Option.some FieldType.int) [(0, 8, 11, 15)] ∈ AW := aw_in (i := 948) (by decide +kernel) rfl
theorem q850 : Cond.methodLink RL 54 yX11_undo ∈ AW := aw_in (i := 949) (by decide +kernel) rfl
theorem qi_yX11_undo : Cond.instanceMethod yX11_undo ∈ AW := aw_in (i := 950) (by decide +kernel) rfl
theorem qs_yX11_undo : Cond.selects (yX11_undo : MethodName).cls yX11_undo yX11_undo ∈ AW := aw_in (i := 951) (by decide +kernel) rfl
theorem qc_yX11_undo : Cond.code yX11_undo prog_1_method_18_code 1 (Option.some FieldType.int) ∈ AW := aw_in (i := 952) (by decide +kernel) rfl
theorem n855 : Cond.methodLinkNest RX11 174 yX3_takeBack "PriceIrons" ∈ NWL := nw_in (i := 954) (by decide +kernel) rfl
theorem qi_yX3_takeBack : Cond.instanceMethod yX3_takeBack ∈ AW := aw_in (i := 956) (by decide +kernel) rfl
theorem qc_yX3_takeBack : Cond.code yX3_takeBack prog_5_method_3_code 3 (Option.none : Option FieldType) ∈ AW := aw_in (i := 957) (by decide +kernel) rfl
theorem q859 : Cond.methodLink RL 191 yL_restore ∈ AW := aw_in (i := 958) (by decide +kernel) rfl
theorem qt_yL_restore : Cond.static yL_restore ∈ AW := aw_in (i := 959) (by decide +kernel) rfl
theorem qc_yL_restore : Cond.codeWith yL_restore method_16_code 3 (Option.some FieldType.int) [(0, 8, 11, 15)] ∈ AW := aw_in (i := 960) (by decide +kernel) rfl
theorem q862 : Cond.methodLink RL 57 yX11_restore ∈ AW := aw_in (i := 961) (by decide +kernel) rfl
theorem qi_yX11_restore : Cond.instanceMethod yX11_restore ∈ AW := aw_in (i := 962) (by decide +kernel) rfl
theorem qs_yX11_restore : Cond.selects (yX11_restore : MethodName).cls yX11_restore yX11_restore ∈ AW := aw_in (i := 963) (by decide +kernel) rfl
theorem qc_yX11_restore : Cond.code yX11_restore prog_1_method_20_code 1 (Option.some FieldType.int) ∈ AW := aw_in (i := 964) (by decide +kernel) rfl
theorem q867 : Cond.methodLink RL 202 yL_priceOf ∈ AW := aw_in (i := 966) (by decide +kernel) rfl
theorem qt_yL_priceOf : Cond.static yL_priceOf ∈ AW := aw_in (i := 967) (by decide +kernel) rfl
theorem qc_yL_priceOf : Cond.codeWith yL_priceOf method_17_code 4 (Option.some FieldType.int) [(0, 9, 12, 21)] ∈ AW := aw_in (i := 968) (by decide +kernel) rfl
theorem q870 : Cond.methodLink RL 60 yX11_priceOf ∈ AW := aw_in (i := 969) (by decide +kernel) rfl
theorem qi_yX11_priceOf : Cond.instanceMethod yX11_priceOf ∈ AW := aw_in (i := 970) (by decide +kernel) rfl
theorem qs_yX11_priceOf : Cond.selects (yX11_priceOf : MethodName).cls yX11_priceOf yX11_priceOf ∈ AW := aw_in (i := 971) (by decide +kernel) rfl
theorem qc_yX11_priceOf : Cond.code yX11_priceOf prog_1_method_23_code 2 (Option.some FieldType.int) ∈ AW := aw_in (i := 972) (by decide +kernel) rfl
theorem q874 : Cond.methodLink RL 213 yL_mean ∈ AW := aw_in (i := 973) (by decide +kernel) rfl
theorem qt_yL_mean : Cond.static yL_mean ∈ AW := aw_in (i := 974) (by decide +kernel) rfl
theorem qc_yL_mean : Cond.codeWith yL_mean method_18_code 5 (Option.some FieldType.int) [(0, 10, 13, 21), (0, 10, 17, 13)] ∈ AW := aw_in (i := 975) (by decide +kernel) rfl
theorem q877 : Cond.methodLink RL 63 yX11_mean ∈ AW := aw_in (i := 976) (by decide +kernel) rfl
theorem qi_yX11_mean : Cond.instanceMethod yX11_mean ∈ AW := aw_in (i := 977) (by decide +kernel) rfl
theorem qs_yX11_mean : Cond.selects (yX11_mean : MethodName).cls yX11_mean yX11_mean ∈ AW := aw_in (i := 978) (by decide +kernel) rfl
theorem qc_yX11_mean : Cond.code yX11_mean prog_1_method_26_code 3 (Option.some FieldType.int) ∈ AW := aw_in (i := 979) (by decide +kernel) rfl
theorem q881 : Cond.methodLink RL 216 yL_meanBySums ∈ AW := aw_in (i := 980) (by decide +kernel) rfl
theorem qt_yL_meanBySums : Cond.static yL_meanBySums ∈ AW := aw_in (i := 981) (by decide +kernel) rfl
theorem qc_yL_meanBySums : Cond.codeWith yL_meanBySums method_19_code 5 (Option.some FieldType.int) [(0, 10, 13, 21), (0, 10, 17, 13)] ∈ AW := aw_in (i := 982) (by decide +kernel) rfl
theorem q884 : Cond.methodLink RL 66 yX11_meanBySums ∈ AW := aw_in (i := 983) (by decide +kernel) rfl
theorem qi_yX11_meanBySums : Cond.instanceMethod yX11_meanBySums ∈ AW := aw_in (i := 984) (by decide +kernel) rfl
theorem qs_yX11_meanBySums : Cond.selects (yX11_meanBySums : MethodName).cls yX11_meanBySums yX11_meanBySums ∈ AW := aw_in (i := 985) (by decide +kernel) rfl
theorem qc_yX11_meanBySums : Cond.code yX11_meanBySums prog_1_method_27_code 3 (Option.some FieldType.int) ∈ AW := aw_in (i := 986) (by decide +kernel) rfl
theorem q888 : Cond.methodLink RL 219 yL_weightedMean ∈ AW := aw_in (i := 987) (by decide +kernel) rfl
theorem qt_yL_weightedMean : Cond.static yL_weightedMean ∈ AW := aw_in (i := 988) (by decide +kernel) rfl
theorem qc_yL_weightedMean : Cond.codeWith yL_weightedMean method_20_code 4 (Option.some FieldType.int) [(0, 9, 12, 21)] ∈ AW := aw_in (i := 989) (by decide +kernel) rfl
theorem q891 : Cond.methodLink RL 69 yX11_weightedMean ∈ AW := aw_in (i := 990) (by decide +kernel) rfl
theorem qi_yX11_weightedMean : Cond.instanceMethod yX11_weightedMean ∈ AW := aw_in (i := 991) (by decide +kernel) rfl
theorem qs_yX11_weightedMean : Cond.selects (yX11_weightedMean : MethodName).cls yX11_weightedMean yX11_weightedMean ∈ AW := aw_in (i := 992) (by decide +kernel) rfl
theorem qc_yX11_weightedMean : Cond.code yX11_weightedMean prog_1_method_28_code 2 (Option.some FieldType.int) ∈ AW := aw_in (i := 993) (by decide +kernel) rfl
theorem q895 : Cond.methodLink RL 222 yL_smoothed ∈ AW := aw_in (i := 994) (by decide +kernel) rfl
theorem qt_yL_smoothed : Cond.static yL_smoothed ∈ AW := aw_in (i := 995) (by decide +kernel) rfl
theorem qc_yL_smoothed : Cond.codeWith yL_smoothed method_21_code 4 (Option.some FieldType.int) [(0, 9, 12, 21)] ∈ AW := aw_in (i := 996) (by decide +kernel) rfl
theorem q898 : Cond.methodLink RL 72 yX11_smoothed ∈ AW := aw_in (i := 997) (by decide +kernel) rfl
theorem qi_yX11_smoothed : Cond.instanceMethod yX11_smoothed ∈ AW := aw_in (i := 998) (by decide +kernel) rfl
theorem qs_yX11_smoothed : Cond.selects (yX11_smoothed : MethodName).cls yX11_smoothed yX11_smoothed ∈ AW := aw_in (i := 999) (by decide +kernel) rfl
theorem qc_yX11_smoothed : Cond.code yX11_smoothed prog_1_method_29_code 2 (Option.some FieldType.int) ∈ AW := aw_in (i := 1000) (by decide +kernel) rfl
theorem q902 : Cond.methodLink RL 225 yL_smoothedBack ∈ AW := aw_in (i := 1001) (by decide +kernel) rfl
theorem qt_yL_smoothedBack : Cond.static yL_smoothedBack ∈ AW := aw_in (i := 1002) (by decide +kernel) rfl
theorem qc_yL_smoothedBack : Cond.codeWith yL_smoothedBack method_22_code 4 (Option.some FieldType.int) [(0, 9, 12, 21)] ∈ AW := aw_in (i := 1003) (by decide +kernel) rfl
theorem q905 : Cond.methodLink RL 75 yX11_smoothedBack ∈ AW := aw_in (i := 1004) (by decide +kernel) rfl
theorem qi_yX11_smoothedBack : Cond.instanceMethod yX11_smoothedBack ∈ AW := aw_in (i := 1005) (by decide +kernel) rfl
theorem qs_yX11_smoothedBack : Cond.selects (yX11_smoothedBack : MethodName).cls yX11_smoothedBack yX11_smoothedBack ∈ AW := aw_in (i := 1006) (by decide +kernel) rfl
theorem qc_yX11_smoothedBack : Cond.code yX11_smoothedBack prog_1_method_30_code 2 (Option.some FieldType.int) ∈ AW := aw_in (i := 1007) (by decide +kernel) rfl
theorem q909 : Cond.methodLink RL 228 yL_median ∈ AW := aw_in (i := 1008) (by decide +kernel) rfl
theorem qt_yL_median : Cond.static yL_median ∈ AW := aw_in (i := 1009) (by decide +kernel) rfl
theorem qc_yL_median : Cond.codeWith yL_median method_23_code 4 (Option.some FieldType.int) [(0, 9, 12, 21)] ∈ AW := aw_in (i := 1010) (by decide +kernel) rfl
theorem q912 : Cond.methodLink RL 78 yX11_median ∈ AW := aw_in (i := 1011) (by decide +kernel) rfl
theorem qi_yX11_median : Cond.instanceMethod yX11_median ∈ AW := aw_in (i := 1012) (by decide +kernel) rfl
theorem qs_yX11_median : Cond.selects (yX11_median : MethodName).cls yX11_median yX11_median ∈ AW := aw_in (i := 1013) (by decide +kernel) rfl
theorem qc_yX11_median : Cond.code yX11_median prog_1_method_31_code 2 (Option.some FieldType.int) ∈ AW := aw_in (i := 1014) (by decide +kernel) rfl
theorem q916 : Cond.methodLink RL 231 yL_isCrease ∈ AW := aw_in (i := 1015) (by decide +kernel) rfl
theorem qt_yL_isCrease : Cond.static yL_isCrease ∈ AW := aw_in (i := 1016) (by decide +kernel) rfl
theorem qc_yL_isCrease : Cond.codeWith yL_isCrease method_24_code 4 (Option.some FieldType.int) [(0, 16, 19, 21)] ∈ AW := aw_in (i := 1017) (by decide +kernel) rfl
theorem q919 : Cond.methodLink RL 81 yX11_isCrease ∈ AW := aw_in (i := 1018) (by decide +kernel) rfl
theorem qi_yX11_isCrease : Cond.instanceMethod yX11_isCrease ∈ AW := aw_in (i := 1019) (by decide +kernel) rfl
theorem qs_yX11_isCrease : Cond.selects (yX11_isCrease : MethodName).cls yX11_isCrease yX11_isCrease ∈ AW := aw_in (i := 1020) (by decide +kernel) rfl
theorem qc_yX11_isCrease : Cond.code yX11_isCrease prog_1_method_32_code 2 (Option.some FieldType.boolean) ∈ AW := aw_in (i := 1021) (by decide +kernel) rfl
theorem q923 : Cond.methodLink RL 238 yL_high ∈ AW := aw_in (i := 1022) (by decide +kernel) rfl
theorem qt_yL_high : Cond.static yL_high ∈ AW := aw_in (i := 1023) (by decide +kernel) rfl
theorem qc_yL_high : Cond.codeWith yL_high method_25_code 4 (Option.some FieldType.int) [(0, 9, 12, 21)] ∈ AW := aw_in (i := 1024) (by decide +kernel) rfl
theorem q926 : Cond.methodLink RL 85 yX11_high ∈ AW := aw_in (i := 1025) (by decide +kernel) rfl
theorem qi_yX11_high : Cond.instanceMethod yX11_high ∈ AW := aw_in (i := 1026) (by decide +kernel) rfl
theorem qs_yX11_high : Cond.selects (yX11_high : MethodName).cls yX11_high yX11_high ∈ AW := aw_in (i := 1027) (by decide +kernel) rfl
theorem qc_yX11_high : Cond.code yX11_high prog_1_method_34_code 2 (Option.some FieldType.int) ∈ AW := aw_in (i := 1028) (by decide +kernel) rfl
theorem q930 : Cond.methodLink RL 241 yL_highByCandidates ∈ AW := aw_in (i := 1029) (by decide +kernel) rfl
theorem qt_yL_highByCandidates : Cond.static yL_highByCandidates ∈ AW := aw_in (i := 1030) (by decide +kernel) rfl
theorem qc_yL_highByCandidates : Cond.codeWith yL_highByCandidates method_26_code 4 (Option.some FieldType.int) [(0, 9, 12, 21)] ∈ AW := aw_in (i := 1031) (by decide +kernel) rfl
theorem q933 : Cond.methodLink RL 88 yX11_highByCandidates ∈ AW := aw_in (i := 1032) (by decide +kernel) rfl
theorem qi_yX11_highByCandidates : Cond.instanceMethod yX11_highByCandidates ∈ AW := aw_in (i := 1033) (by decide +kernel) rfl
theorem qs_yX11_highByCandidates : Cond.selects (yX11_highByCandidates : MethodName).cls yX11_highByCandidates yX11_highByCandidates ∈ AW := aw_in (i := 1034) (by decide +kernel) rfl
theorem qc_yX11_highByCandidates : Cond.code yX11_highByCandidates prog_1_method_35_code 2 (Option.some FieldType.int) ∈ AW := aw_in (i := 1035) (by decide +kernel) rfl
theorem q937 : Cond.methodLink RL 244 yL_crossing ∈ AW := aw_in (i := 1036) (by decide +kernel) rfl
theorem qt_yL_crossing : Cond.static yL_crossing ∈ AW := aw_in (i := 1037) (by decide +kernel) rfl
theorem qc_yL_crossing : Cond.codeWith yL_crossing method_27_code 4 (Option.some FieldType.int) [(0, 9, 12, 21)] ∈ AW := aw_in (i := 1038) (by decide +kernel) rfl
theorem q940 : Cond.methodLink RL 91 yX11_crossing ∈ AW := aw_in (i := 1039) (by decide +kernel) rfl
theorem qi_yX11_crossing : Cond.instanceMethod yX11_crossing ∈ AW := aw_in (i := 1040) (by decide +kernel) rfl
theorem qs_yX11_crossing : Cond.selects (yX11_crossing : MethodName).cls yX11_crossing yX11_crossing ∈ AW := aw_in (i := 1041) (by decide +kernel) rfl
theorem qc_yX11_crossing : Cond.code yX11_crossing prog_1_method_36_code 2 (Option.some FieldType.int) ∈ AW := aw_in (i := 1042) (by decide +kernel) rfl
theorem q944 : Cond.methodLink RL 251 yL_pieces ∈ AW := aw_in (i := 1043) (by decide +kernel) rfl
theorem qt_yL_pieces : Cond.static yL_pieces ∈ AW := aw_in (i := 1044) (by decide +kernel) rfl
theorem qc_yL_pieces : Cond.codeWith yL_pieces method_28_code 4 (Option.some FieldType.int) [(0, 9, 12, 21)] ∈ AW := aw_in (i := 1045) (by decide +kernel) rfl
theorem q947 : Cond.methodLink RL 94 yX11_pieces ∈ AW := aw_in (i := 1046) (by decide +kernel) rfl
theorem qi_yX11_pieces : Cond.instanceMethod yX11_pieces ∈ AW := aw_in (i := 1047) (by decide +kernel) rfl
theorem qs_yX11_pieces : Cond.selects (yX11_pieces : MethodName).cls yX11_pieces yX11_pieces ∈ AW := aw_in (i := 1048) (by decide +kernel) rfl
theorem qc_yX11_pieces : Cond.code yX11_pieces prog_1_method_38_code 2 (Option.some FieldType.int) ∈ AW := aw_in (i := 1049) (by decide +kernel) rfl
theorem n951 : Cond.methodLinkNest RX11 219 yX9_runTo "PriceIrons" ∈ NWL := nw_in (i := 1050) (by decide +kernel) rfl
theorem qi_yX9_runTo : Cond.instanceMethod yX9_runTo ∈ AW := aw_in (i := 1052) (by decide +kernel) rfl
theorem qc_yX9_runTo : Cond.code yX9_runTo prog_11_method_6_code 4 (Option.none : Option FieldType) ∈ AW := aw_in (i := 1053) (by decide +kernel) rfl
theorem q955 : Cond.methodLink RX9 45 yX9_start ∈ AW := aw_in (i := 1054) (by decide +kernel) rfl
theorem q956 : Cond.methodLink RX9 48 yX9_pass ∈ AW := aw_in (i := 1055) (by decide +kernel) rfl
theorem q957 : Cond.methodLink RL 254 yL_worth ∈ AW := aw_in (i := 1056) (by decide +kernel) rfl
theorem qt_yL_worth : Cond.static yL_worth ∈ AW := aw_in (i := 1057) (by decide +kernel) rfl
theorem qc_yL_worth : Cond.codeWith yL_worth method_29_code 4 (Option.some FieldType.int) [(0, 8, 11, 21)] ∈ AW := aw_in (i := 1058) (by decide +kernel) rfl
theorem q960 : Cond.methodLink RL 97 yX11_worth ∈ AW := aw_in (i := 1059) (by decide +kernel) rfl
theorem qi_yX11_worth : Cond.instanceMethod yX11_worth ∈ AW := aw_in (i := 1060) (by decide +kernel) rfl
theorem qs_yX11_worth : Cond.selects (yX11_worth : MethodName).cls yX11_worth yX11_worth ∈ AW := aw_in (i := 1061) (by decide +kernel) rfl
theorem qc_yX11_worth : Cond.code yX11_worth prog_1_method_39_code 2 (Option.some FieldType.long) ∈ AW := aw_in (i := 1062) (by decide +kernel) rfl
theorem q964 : Cond.methodLink RL 273 yL_seasonIndex ∈ AW := aw_in (i := 1063) (by decide +kernel) rfl
theorem qt_yL_seasonIndex : Cond.static yL_seasonIndex ∈ AW := aw_in (i := 1064) (by decide +kernel) rfl
theorem qc_yL_seasonIndex : Cond.codeWith yL_seasonIndex method_30_code 4 (Option.some FieldType.int) [(0, 9, 12, 21), (0, 9, 15, 15)] ∈ AW := aw_in (i := 1065) (by decide +kernel) rfl
theorem q967 : Cond.methodLink RL 101 yX11_seasonIndex ∈ AW := aw_in (i := 1066) (by decide +kernel) rfl
theorem qi_yX11_seasonIndex : Cond.instanceMethod yX11_seasonIndex ∈ AW := aw_in (i := 1067) (by decide +kernel) rfl
theorem qs_yX11_seasonIndex : Cond.selects (yX11_seasonIndex : MethodName).cls yX11_seasonIndex yX11_seasonIndex ∈ AW := aw_in (i := 1068) (by decide +kernel) rfl
theorem qc_yX11_seasonIndex : Cond.code yX11_seasonIndex prog_1_method_44_code 2 (Option.some FieldType.int) ∈ AW := aw_in (i := 1069) (by decide +kernel) rfl
theorem q973 : Cond.methodLink RL 276 yL_barePrice ∈ AW := aw_in (i := 1072) (by decide +kernel) rfl
theorem qt_yL_barePrice : Cond.static yL_barePrice ∈ AW := aw_in (i := 1073) (by decide +kernel) rfl
theorem qc_yL_barePrice : Cond.codeWith yL_barePrice method_31_code 4 (Option.some FieldType.int) [(0, 8, 11, 21)] ∈ AW := aw_in (i := 1074) (by decide +kernel) rfl
theorem q976 : Cond.methodLink RL 104 yX11_barePrice ∈ AW := aw_in (i := 1075) (by decide +kernel) rfl
theorem qi_yX11_barePrice : Cond.instanceMethod yX11_barePrice ∈ AW := aw_in (i := 1076) (by decide +kernel) rfl
theorem qs_yX11_barePrice : Cond.selects (yX11_barePrice : MethodName).cls yX11_barePrice yX11_barePrice ∈ AW := aw_in (i := 1077) (by decide +kernel) rfl
theorem qc_yX11_barePrice : Cond.code yX11_barePrice prog_1_method_45_code 2 (Option.some FieldType.long) ∈ AW := aw_in (i := 1078) (by decide +kernel) rfl
theorem q980 : Cond.methodLink RL 279 yL_forecast ∈ AW := aw_in (i := 1079) (by decide +kernel) rfl
theorem qt_yL_forecast : Cond.static yL_forecast ∈ AW := aw_in (i := 1080) (by decide +kernel) rfl
theorem qc_yL_forecast : Cond.codeWith yL_forecast method_32_code 4 (Option.some FieldType.int) [(0, 9, 12, 13), (0, 9, 15, 15)] ∈ AW := aw_in (i := 1081) (by decide +kernel) rfl
theorem q983 : Cond.methodLink RL 107 yX11_forecast ∈ AW := aw_in (i := 1082) (by decide +kernel) rfl
theorem qi_yX11_forecast : Cond.instanceMethod yX11_forecast ∈ AW := aw_in (i := 1083) (by decide +kernel) rfl
theorem qs_yX11_forecast : Cond.selects (yX11_forecast : MethodName).cls yX11_forecast yX11_forecast ∈ AW := aw_in (i := 1084) (by decide +kernel) rfl
theorem qc_yX11_forecast : Cond.code yX11_forecast prog_1_method_46_code 2 (Option.some FieldType.int) ∈ AW := aw_in (i := 1085) (by decide +kernel) rfl
theorem q987 : Cond.methodLink RX11 256 yX11_requirePrices ∈ AW := aw_in (i := 1086) (by decide +kernel) rfl
theorem qi_yX11_requirePrices : Cond.instanceMethod yX11_requirePrices ∈ AW := aw_in (i := 1088) (by decide +kernel) rfl
theorem qc_yX11_requirePrices : Cond.code yX11_requirePrices prog_1_method_64_code 2 (Option.none : Option FieldType) ∈ AW := aw_in (i := 1089) (by decide +kernel) rfl
theorem q992 : Cond.methodLink RL 282 yL_error ∈ AW := aw_in (i := 1091) (by decide +kernel) rfl
theorem qt_yL_error : Cond.static yL_error ∈ AW := aw_in (i := 1092) (by decide +kernel) rfl
theorem qc_yL_error : Cond.codeWith yL_error method_33_code 4 (Option.some FieldType.int) [(0, 9, 12, 13), (0, 9, 15, 15)] ∈ AW := aw_in (i := 1093) (by decide +kernel) rfl
theorem q995 : Cond.methodLink RL 110 yX11_error ∈ AW := aw_in (i := 1094) (by decide +kernel) rfl
theorem qi_yX11_error : Cond.instanceMethod yX11_error ∈ AW := aw_in (i := 1095) (by decide +kernel) rfl
theorem qs_yX11_error : Cond.selects (yX11_error : MethodName).cls yX11_error yX11_error ∈ AW := aw_in (i := 1096) (by decide +kernel) rfl
theorem qc_yX11_error : Cond.code yX11_error prog_1_method_47_code 2 (Option.some FieldType.int) ∈ AW := aw_in (i := 1097) (by decide +kernel) rfl
theorem q999 : Cond.methodLink RL 285 yL_bestMethod ∈ AW := aw_in (i := 1098) (by decide +kernel) rfl
theorem qt_yL_bestMethod : Cond.static yL_bestMethod ∈ AW := aw_in (i := 1099) (by decide +kernel) rfl
theorem qc_yL_bestMethod : Cond.codeWith yL_bestMethod method_34_code 3 (Option.some FieldType.int) [(0, 8, 11, 15)] ∈ AW := aw_in (i := 1100) (by decide +kernel) rfl
theorem q1002 : Cond.methodLink RL 113 yX11_bestMethod ∈ AW := aw_in (i := 1101) (by decide +kernel) rfl
theorem qi_yX11_bestMethod : Cond.instanceMethod yX11_bestMethod ∈ AW := aw_in (i := 1102) (by decide +kernel) rfl
theorem qs_yX11_bestMethod : Cond.selects (yX11_bestMethod : MethodName).cls yX11_bestMethod yX11_bestMethod ∈ AW := aw_in (i := 1103) (by decide +kernel) rfl
theorem qc_yX11_bestMethod : Cond.code yX11_bestMethod prog_1_method_48_code 1 (Option.some FieldType.int) ∈ AW := aw_in (i := 1104) (by decide +kernel) rfl
theorem q1006 : Cond.methodLink RL 288 yL_crossingWith ∈ AW := aw_in (i := 1105) (by decide +kernel) rfl
theorem qt_yL_crossingWith : Cond.static yL_crossingWith ∈ AW := aw_in (i := 1106) (by decide +kernel) rfl
theorem qc_yL_crossingWith : Cond.codeWith yL_crossingWith method_35_code 4 (Option.some FieldType.int) [(0, 9, 12, 13), (0, 9, 15, 15)] ∈ AW := aw_in (i := 1107) (by decide +kernel) rfl
theorem q1009 : Cond.methodLink RL 116 yX11_crossingWith ∈ AW := aw_in (i := 1108) (by decide +kernel) rfl
theorem qi_yX11_crossingWith : Cond.instanceMethod yX11_crossingWith ∈ AW := aw_in (i := 1109) (by decide +kernel) rfl
theorem qs_yX11_crossingWith : Cond.selects (yX11_crossingWith : MethodName).cls yX11_crossingWith yX11_crossingWith ∈ AW := aw_in (i := 1110) (by decide +kernel) rfl
theorem qc_yX11_crossingWith : Cond.code yX11_crossingWith prog_1_method_49_code 2 (Option.some FieldType.int) ∈ AW := aw_in (i := 1111) (by decide +kernel) rfl
theorem q1014 : Cond.classLink RL 120 "PriceIronsModel" ∈ AW := aw_in (i := 1113) (by decide +kernel) rfl
theorem q1015 : Cond.instantiable RX12 16 ∈ AW := aw_in (i := 1114) (by decide +kernel) rfl
theorem q1016 : Cond.methodLink RL 122 yX12_init ∈ AW := aw_in (i := 1115) (by decide +kernel) rfl
theorem qi_yX12_init : Cond.instanceMethod yX12_init ∈ AW := aw_in (i := 1116) (by decide +kernel) rfl
theorem qc_yX12_init : Cond.code yX12_init prog_14_method_1_code 1 (Option.none : Option FieldType) ∈ AW := aw_in (i := 1117) (by decide +kernel) rfl
theorem q1019 : Cond.methodLink RX12 1 (⟨"java/lang/Object", "<init>", "()V"⟩ : MethodName) ∈ AW := aw_in (i := 1118) (by decide +kernel) rfl
theorem q1020 : Cond.fieldLink RX12 28 "PriceIronsModel" "thrown" "I" ∈ AW := aw_in (i := 1119) (by decide +kernel) rfl
theorem q1021 : Cond.fieldLink RX12 7 "PriceIronsModel" "s" "[I" ∈ AW := aw_in (i := 1120) (by decide +kernel) rfl
theorem q1022 : Cond.fieldLink RX12 13 "PriceIronsModel" "states" "[I" ∈ AW := aw_in (i := 1121) (by decide +kernel) rfl
theorem q1023 : Cond.fieldLink RX12 36 "PriceIronsModel" "stateMany" "I" ∈ AW := aw_in (i := 1122) (by decide +kernel) rfl
theorem q1024 : Cond.fieldLink RX12 16 "PriceIronsModel" "snapshot" "[I" ∈ AW := aw_in (i := 1123) (by decide +kernel) rfl
theorem q1025 : Cond.fieldLink RX12 166 "PriceIronsModel" "hasSnapshot" "Z" ∈ AW := aw_in (i := 1124) (by decide +kernel) rfl
theorem q1026 : Cond.fieldLink RX12 19 "PriceIronsModel" "text" "[I" ∈ AW := aw_in (i := 1125) (by decide +kernel) rfl
theorem q1027 : Cond.fieldLink RX12 125 "PriceIronsModel" "length" "I" ∈ AW := aw_in (i := 1126) (by decide +kernel) rfl
theorem q1028 : Cond.fieldLink RX12 128 "PriceIronsModel" "at" "I" ∈ AW := aw_in (i := 1127) (by decide +kernel) rfl
theorem q1029 : Cond.fieldLink RX12 131 "PriceIronsModel" "isWell" "Z" ∈ AW := aw_in (i := 1128) (by decide +kernel) rfl
theorem q1030 : Cond.fieldLink RX12 22 "PriceIronsModel" "read" "[I" ∈ AW := aw_in (i := 1129) (by decide +kernel) rfl
theorem q1031 : Cond.fieldLink RX12 147 "PriceIronsModel" "readMany" "I" ∈ AW := aw_in (i := 1130) (by decide +kernel) rfl
theorem q1032 : Cond.fieldLink RX12 25 "PriceIronsModel" "prices" "[I" ∈ AW := aw_in (i := 1131) (by decide +kernel) rfl
theorem q1033 : Cond.fieldLink RX12 144 "PriceIronsModel" "priceMany" "I" ∈ AW := aw_in (i := 1132) (by decide +kernel) rfl
theorem q1034 : Cond.fieldLink RX12 65 "PriceIronsModel" "pieceMany" "I" ∈ AW := aw_in (i := 1133) (by decide +kernel) rfl
theorem q1035 : Cond.fieldLink RX12 70 "PriceIronsModel" "coins" "J" ∈ AW := aw_in (i := 1134) (by decide +kernel) rfl
theorem q1069 : Cond.methodLink RL 129 yX12_thrown ∈ AW := aw_in (i := 1168) (by decide +kernel) rfl
theorem qi_yX12_thrown : Cond.instanceMethod yX12_thrown ∈ AW := aw_in (i := 1169) (by decide +kernel) rfl
theorem qs_yX12_thrown : Cond.selects (yX12_thrown : MethodName).cls yX12_thrown yX12_thrown ∈ AW := aw_in (i := 1170) (by decide +kernel) rfl
theorem qc_yX12_thrown : Cond.code yX12_thrown prog_14_method_2_code 1 (Option.some FieldType.int) ∈ AW := aw_in (i := 1171) (by decide +kernel) rfl
theorem q1073 : Cond.methodLink RL 128 yX12_addPrice ∈ AW := aw_in (i := 1172) (by decide +kernel) rfl
theorem qi_yX12_addPrice : Cond.instanceMethod yX12_addPrice ∈ AW := aw_in (i := 1173) (by decide +kernel) rfl
theorem qs_yX12_addPrice : Cond.selects (yX12_addPrice : MethodName).cls yX12_addPrice yX12_addPrice ∈ AW := aw_in (i := 1174) (by decide +kernel) rfl
theorem qc_yX12_addPrice : Cond.code yX12_addPrice prog_14_method_37_code 2 (Option.some FieldType.int) ∈ AW := aw_in (i := 1175) (by decide +kernel) rfl
theorem q1077 : Cond.methodLink RX12 103 yX12_isPrice ∈ AW := aw_in (i := 1176) (by decide +kernel) rfl
theorem qt_yX12_isPrice : Cond.static yX12_isPrice ∈ AW := aw_in (i := 1177) (by decide +kernel) rfl
theorem qc_yX12_isPrice : Cond.code yX12_isPrice prog_14_method_6_code 1 (Option.some FieldType.boolean) ∈ AW := aw_in (i := 1178) (by decide +kernel) rfl
theorem q1080 : Cond.methodLink RX12 32 yX12_in ∈ AW := aw_in (i := 1179) (by decide +kernel) rfl
theorem qt_yX12_in : Cond.static yX12_in ∈ AW := aw_in (i := 1180) (by decide +kernel) rfl
theorem qc_yX12_in : Cond.code yX12_in prog_14_method_4_code 3 (Option.some FieldType.boolean) ∈ AW := aw_in (i := 1181) (by decide +kernel) rfl
theorem q1083 : Cond.methodLink RX12 106 yX12_fails ∈ AW := aw_in (i := 1182) (by decide +kernel) rfl
theorem qi_yX12_fails : Cond.instanceMethod yX12_fails ∈ AW := aw_in (i := 1184) (by decide +kernel) rfl
theorem qc_yX12_fails : Cond.code yX12_fails prog_14_method_3_code 2 (Option.some FieldType.int) ∈ AW := aw_in (i := 1185) (by decide +kernel) rfl
theorem q1087 : Cond.methodLink RX12 109 yX12_records ∈ AW := aw_in (i := 1186) (by decide +kernel) rfl
theorem qi_yX12_records : Cond.instanceMethod yX12_records ∈ AW := aw_in (i := 1188) (by decide +kernel) rfl
theorem qc_yX12_records : Cond.code yX12_records prog_14_method_8_code 2 (Option.none : Option FieldType) ∈ AW := aw_in (i := 1189) (by decide +kernel) rfl
theorem q1091 : Cond.methodLink RX12 112 yX12_adds ∈ AW := aw_in (i := 1190) (by decide +kernel) rfl
theorem qi_yX12_adds : Cond.instanceMethod yX12_adds ∈ AW := aw_in (i := 1192) (by decide +kernel) rfl
theorem qc_yX12_adds : Cond.code yX12_adds prog_14_method_35_code 2 (Option.none : Option FieldType) ∈ AW := aw_in (i := 1193) (by decide +kernel) rfl
theorem q1095 : Cond.methodLink RL 135 yX12_setPrice ∈ AW := aw_in (i := 1194) (by decide +kernel) rfl
theorem qi_yX12_setPrice : Cond.instanceMethod yX12_setPrice ∈ AW := aw_in (i := 1195) (by decide +kernel) rfl
theorem qs_yX12_setPrice : Cond.selects (yX12_setPrice : MethodName).cls yX12_setPrice yX12_setPrice ∈ AW := aw_in (i := 1196) (by decide +kernel) rfl
theorem qc_yX12_setPrice : Cond.code yX12_setPrice prog_14_method_38_code 3 (Option.some FieldType.int) ∈ AW := aw_in (i := 1197) (by decide +kernel) rfl
theorem q1099 : Cond.methodLink RX12 115 yX12_isDay ∈ AW := aw_in (i := 1198) (by decide +kernel) rfl
theorem qi_yX12_isDay : Cond.instanceMethod yX12_isDay ∈ AW := aw_in (i := 1200) (by decide +kernel) rfl
theorem qc_yX12_isDay : Cond.code yX12_isDay prog_14_method_5_code 2 (Option.some FieldType.boolean) ∈ AW := aw_in (i := 1201) (by decide +kernel) rfl
theorem q1103 : Cond.methodLink RX12 118 yX12_sets ∈ AW := aw_in (i := 1202) (by decide +kernel) rfl
theorem qi_yX12_sets : Cond.instanceMethod yX12_sets ∈ AW := aw_in (i := 1204) (by decide +kernel) rfl
theorem qc_yX12_sets : Cond.code yX12_sets prog_14_method_36_code 4 (Option.some FieldType.int) ∈ AW := aw_in (i := 1205) (by decide +kernel) rfl
theorem q1107 : Cond.methodLink RL 138 yX12_dropOldest ∈ AW := aw_in (i := 1206) (by decide +kernel) rfl
theorem qi_yX12_dropOldest : Cond.instanceMethod yX12_dropOldest ∈ AW := aw_in (i := 1207) (by decide +kernel) rfl
theorem qs_yX12_dropOldest : Cond.selects (yX12_dropOldest : MethodName).cls yX12_dropOldest yX12_dropOldest ∈ AW := aw_in (i := 1208) (by decide +kernel) rfl
theorem qc_yX12_dropOldest : Cond.code yX12_dropOldest prog_14_method_39_code 3 (Option.some FieldType.int) ∈ AW := aw_in (i := 1209) (by decide +kernel) rfl
theorem q1111 : Cond.methodLink RX12 43 yX12_of ∈ AW := aw_in (i := 1210) (by decide +kernel) rfl
theorem qi_yX12_of : Cond.instanceMethod yX12_of ∈ AW := aw_in (i := 1212) (by decide +kernel) rfl
theorem qc_yX12_of : Cond.code yX12_of prog_14_method_7_code 2 (Option.some FieldType.int) ∈ AW := aw_in (i := 1213) (by decide +kernel) rfl
theorem q1115 : Cond.methodLink RL 141 yX12_press ∈ AW := aw_in (i := 1214) (by decide +kernel) rfl
theorem qi_yX12_press : Cond.instanceMethod yX12_press ∈ AW := aw_in (i := 1215) (by decide +kernel) rfl
theorem qs_yX12_press : Cond.selects (yX12_press : MethodName).cls yX12_press yX12_press ∈ AW := aw_in (i := 1216) (by decide +kernel) rfl
theorem qc_yX12_press : Cond.code yX12_press prog_14_method_40_code 2 (Option.some FieldType.int) ∈ AW := aw_in (i := 1217) (by decide +kernel) rfl
theorem q1119 : Cond.methodLink RX12 52 yX12_creased ∈ AW := aw_in (i := 1218) (by decide +kernel) rfl
theorem qi_yX12_creased : Cond.instanceMethod yX12_creased ∈ AW := aw_in (i := 1220) (by decide +kernel) rfl
theorem qc_yX12_creased : Cond.code yX12_creased prog_14_method_14_code 3 (Option.some FieldType.boolean) ∈ AW := aw_in (i := 1221) (by decide +kernel) rfl
theorem q1123 : Cond.methodLink RX12 49 yX12_middle ∈ AW := aw_in (i := 1222) (by decide +kernel) rfl
theorem qi_yX12_middle : Cond.instanceMethod yX12_middle ∈ AW := aw_in (i := 1224) (by decide +kernel) rfl
theorem qc_yX12_middle : Cond.code yX12_middle prog_14_method_13_code 8 (Option.some FieldType.int) ∈ AW := aw_in (i := 1225) (by decide +kernel) rfl
theorem q1127 : Cond.methodLink RX12 39 yX12_first ∈ AW := aw_in (i := 1226) (by decide +kernel) rfl
theorem qt_yX12_first : Cond.static yX12_first ∈ AW := aw_in (i := 1227) (by decide +kernel) rfl
theorem qc_yX12_first : Cond.code yX12_first prog_14_method_9_code 2 (Option.some FieldType.int) ∈ AW := aw_in (i := 1228) (by decide +kernel) rfl
theorem q1130 : Cond.methodLink RX12 100 yX12_presses ∈ AW := aw_in (i := 1229) (by decide +kernel) rfl
theorem qi_yX12_presses : Cond.instanceMethod yX12_presses ∈ AW := aw_in (i := 1231) (by decide +kernel) rfl
theorem qc_yX12_presses : Cond.code yX12_presses prog_14_method_33_code 2 (Option.some FieldType.int) ∈ AW := aw_in (i := 1232) (by decide +kernel) rfl
theorem q1134 : Cond.methodLink RL 145 yX12_pressAll ∈ AW := aw_in (i := 1233) (by decide +kernel) rfl
theorem qi_yX12_pressAll : Cond.instanceMethod yX12_pressAll ∈ AW := aw_in (i := 1234) (by decide +kernel) rfl
theorem qs_yX12_pressAll : Cond.selects (yX12_pressAll : MethodName).cls yX12_pressAll yX12_pressAll ∈ AW := aw_in (i := 1235) (by decide +kernel) rfl
theorem qc_yX12_pressAll : Cond.code yX12_pressAll prog_14_method_41_code 1 (Option.some FieldType.int) ∈ AW := aw_in (i := 1236) (by decide +kernel) rfl
theorem q1138 : Cond.methodLink RX12 121 yX12_pressesAll ∈ AW := aw_in (i := 1237) (by decide +kernel) rfl
theorem qi_yX12_pressesAll : Cond.instanceMethod yX12_pressesAll ∈ AW := aw_in (i := 1239) (by decide +kernel) rfl
theorem qc_yX12_pressesAll : Cond.code yX12_pressesAll prog_14_method_34_code 3 (Option.some FieldType.int) ∈ AW := aw_in (i := 1240) (by decide +kernel) rfl
theorem q1142 : Cond.methodLink RL 148 yX12_setWindows ∈ AW := aw_in (i := 1241) (by decide +kernel) rfl
theorem qi_yX12_setWindows : Cond.instanceMethod yX12_setWindows ∈ AW := aw_in (i := 1242) (by decide +kernel) rfl
theorem qs_yX12_setWindows : Cond.selects (yX12_setWindows : MethodName).cls yX12_setWindows yX12_setWindows ∈ AW := aw_in (i := 1243) (by decide +kernel) rfl
theorem qc_yX12_setWindows : Cond.code yX12_setWindows prog_14_method_42_code 3 (Option.some FieldType.int) ∈ AW := aw_in (i := 1244) (by decide +kernel) rfl
theorem q1146 : Cond.methodLink RL 151 yX12_setMemory ∈ AW := aw_in (i := 1245) (by decide +kernel) rfl
theorem qi_yX12_setMemory : Cond.instanceMethod yX12_setMemory ∈ AW := aw_in (i := 1246) (by decide +kernel) rfl
theorem qs_yX12_setMemory : Cond.selects (yX12_setMemory : MethodName).cls yX12_setMemory yX12_setMemory ∈ AW := aw_in (i := 1247) (by decide +kernel) rfl
theorem qc_yX12_setMemory : Cond.code yX12_setMemory prog_14_method_43_code 2 (Option.some FieldType.int) ∈ AW := aw_in (i := 1248) (by decide +kernel) rfl
theorem q1150 : Cond.methodLink RL 154 yX12_setLimit ∈ AW := aw_in (i := 1249) (by decide +kernel) rfl
theorem qi_yX12_setLimit : Cond.instanceMethod yX12_setLimit ∈ AW := aw_in (i := 1250) (by decide +kernel) rfl
theorem qs_yX12_setLimit : Cond.selects (yX12_setLimit : MethodName).cls yX12_setLimit yX12_setLimit ∈ AW := aw_in (i := 1251) (by decide +kernel) rfl
theorem qc_yX12_setLimit : Cond.code yX12_setLimit prog_14_method_44_code 2 (Option.some FieldType.int) ∈ AW := aw_in (i := 1252) (by decide +kernel) rfl
theorem q1154 : Cond.methodLink RL 157 yX12_setSeason ∈ AW := aw_in (i := 1253) (by decide +kernel) rfl
theorem qi_yX12_setSeason : Cond.instanceMethod yX12_setSeason ∈ AW := aw_in (i := 1254) (by decide +kernel) rfl
theorem qs_yX12_setSeason : Cond.selects (yX12_setSeason : MethodName).cls yX12_setSeason yX12_setSeason ∈ AW := aw_in (i := 1255) (by decide +kernel) rfl
theorem qc_yX12_setSeason : Cond.code yX12_setSeason prog_14_method_45_code 2 (Option.some FieldType.int) ∈ AW := aw_in (i := 1256) (by decide +kernel) rfl
theorem q1158 : Cond.methodLink RL 160 yX12_append ∈ AW := aw_in (i := 1257) (by decide +kernel) rfl
theorem qi_yX12_append : Cond.instanceMethod yX12_append ∈ AW := aw_in (i := 1258) (by decide +kernel) rfl
theorem qs_yX12_append : Cond.selects (yX12_append : MethodName).cls yX12_append yX12_append ∈ AW := aw_in (i := 1259) (by decide +kernel) rfl
theorem qc_yX12_append : Cond.code yX12_append prog_14_method_46_code 2 (Option.some FieldType.int) ∈ AW := aw_in (i := 1260) (by decide +kernel) rfl
theorem q1162 : Cond.methodLink RL 164 yX12_clearBuffer ∈ AW := aw_in (i := 1261) (by decide +kernel) rfl
theorem qi_yX12_clearBuffer : Cond.instanceMethod yX12_clearBuffer ∈ AW := aw_in (i := 1262) (by decide +kernel) rfl
theorem qs_yX12_clearBuffer : Cond.selects (yX12_clearBuffer : MethodName).cls yX12_clearBuffer yX12_clearBuffer ∈ AW := aw_in (i := 1263) (by decide +kernel) rfl
theorem qc_yX12_clearBuffer : Cond.code yX12_clearBuffer prog_14_method_47_code 2 (Option.some FieldType.int) ∈ AW := aw_in (i := 1264) (by decide +kernel) rfl
theorem q1166 : Cond.methodLink RL 168 yX12_firstError ∈ AW := aw_in (i := 1265) (by decide +kernel) rfl
theorem qi_yX12_firstError : Cond.instanceMethod yX12_firstError ∈ AW := aw_in (i := 1266) (by decide +kernel) rfl
theorem qs_yX12_firstError : Cond.selects (yX12_firstError : MethodName).cls yX12_firstError yX12_firstError ∈ AW := aw_in (i := 1267) (by decide +kernel) rfl
theorem qc_yX12_firstError : Cond.code yX12_firstError prog_14_method_55_code 1 (Option.some FieldType.int) ∈ AW := aw_in (i := 1268) (by decide +kernel) rfl
theorem q1170 : Cond.methodLink RX12 159 yX12_readsWorks ∈ AW := aw_in (i := 1269) (by decide +kernel) rfl
theorem qi_yX12_readsWorks : Cond.instanceMethod yX12_readsWorks ∈ AW := aw_in (i := 1271) (by decide +kernel) rfl
theorem qc_yX12_readsWorks : Cond.code yX12_readsWorks prog_14_method_54_code 1 (Option.some FieldType.boolean) ∈ AW := aw_in (i := 1272) (by decide +kernel) rfl
theorem q1174 : Cond.methodLink RX12 156 yX12_readsPart ∈ AW := aw_in (i := 1273) (by decide +kernel) rfl
theorem qi_yX12_readsPart : Cond.instanceMethod yX12_readsPart ∈ AW := aw_in (i := 1275) (by decide +kernel) rfl
theorem qc_yX12_readsPart : Cond.code yX12_readsPart prog_14_method_53_code 3 (Option.none : Option FieldType) ∈ AW := aw_in (i := 1276) (by decide +kernel) rfl
theorem q1178 : Cond.methodLink RX12 135 yX12_sign ∈ AW := aw_in (i := 1277) (by decide +kernel) rfl
theorem qi_yX12_sign : Cond.instanceMethod yX12_sign ∈ AW := aw_in (i := 1279) (by decide +kernel) rfl
theorem qc_yX12_sign : Cond.code yX12_sign prog_14_method_48_code 1 (Option.some FieldType.int) ∈ AW := aw_in (i := 1280) (by decide +kernel) rfl
theorem q1182 : Cond.methodLink RX12 150 yX12_readsPrices ∈ AW := aw_in (i := 1281) (by decide +kernel) rfl
theorem qi_yX12_readsPrices : Cond.instanceMethod yX12_readsPrices ∈ AW := aw_in (i := 1283) (by decide +kernel) rfl
theorem qc_yX12_readsPrices : Cond.code yX12_readsPrices prog_14_method_52_code 4 (Option.none : Option FieldType) ∈ AW := aw_in (i := 1284) (by decide +kernel) rfl
theorem q1186 : Cond.methodLink RX12 141 yX12_number ∈ AW := aw_in (i := 1285) (by decide +kernel) rfl
theorem qi_yX12_number : Cond.instanceMethod yX12_number ∈ AW := aw_in (i := 1287) (by decide +kernel) rfl
theorem qc_yX12_number : Cond.code yX12_number prog_14_method_50_code 4 (Option.some FieldType.int) ∈ AW := aw_in (i := 1288) (by decide +kernel) rfl
theorem q1190 : Cond.methodLink RX12 138 yX12_takes ∈ AW := aw_in (i := 1289) (by decide +kernel) rfl
theorem qi_yX12_takes : Cond.instanceMethod yX12_takes ∈ AW := aw_in (i := 1291) (by decide +kernel) rfl
theorem qc_yX12_takes : Cond.code yX12_takes prog_14_method_49_code 4 (Option.some FieldType.int) ∈ AW := aw_in (i := 1292) (by decide +kernel) rfl
theorem q1194 : Cond.methodLink RX12 153 yX12_longNumber ∈ AW := aw_in (i := 1293) (by decide +kernel) rfl
theorem qi_yX12_longNumber : Cond.instanceMethod yX12_longNumber ∈ AW := aw_in (i := 1295) (by decide +kernel) rfl
theorem qc_yX12_longNumber : Cond.code yX12_longNumber prog_14_method_51_code 2 (Option.some FieldType.int) ∈ AW := aw_in (i := 1296) (by decide +kernel) rfl
theorem q1198 : Cond.methodLink RL 172 yX12_work ∈ AW := aw_in (i := 1297) (by decide +kernel) rfl
theorem qi_yX12_work : Cond.instanceMethod yX12_work ∈ AW := aw_in (i := 1298) (by decide +kernel) rfl
theorem qs_yX12_work : Cond.selects (yX12_work : MethodName).cls yX12_work yX12_work ∈ AW := aw_in (i := 1299) (by decide +kernel) rfl
theorem qc_yX12_work : Cond.code yX12_work prog_14_method_57_code 3 (Option.some FieldType.int) ∈ AW := aw_in (i := 1300) (by decide +kernel) rfl
theorem q1202 : Cond.methodLink RX12 163 yX12_does ∈ AW := aw_in (i := 1301) (by decide +kernel) rfl
theorem qi_yX12_does : Cond.instanceMethod yX12_does ∈ AW := aw_in (i := 1303) (by decide +kernel) rfl
theorem qc_yX12_does : Cond.code yX12_does prog_14_method_56_code 6 (Option.some FieldType.int) ∈ AW := aw_in (i := 1304) (by decide +kernel) rfl
theorem q1206 : Cond.methodLink RL 177 yX12_hasStopped ∈ AW := aw_in (i := 1305) (by decide +kernel) rfl
theorem qi_yX12_hasStopped : Cond.instanceMethod yX12_hasStopped ∈ AW := aw_in (i := 1306) (by decide +kernel) rfl
theorem qs_yX12_hasStopped : Cond.selects (yX12_hasStopped : MethodName).cls yX12_hasStopped yX12_hasStopped ∈ AW := aw_in (i := 1307) (by decide +kernel) rfl
theorem qc_yX12_hasStopped : Cond.code yX12_hasStopped prog_14_method_58_code 1 (Option.some FieldType.boolean) ∈ AW := aw_in (i := 1308) (by decide +kernel) rfl
theorem q1210 : Cond.methodLink RL 180 yX12_stoppedPart ∈ AW := aw_in (i := 1309) (by decide +kernel) rfl
theorem qi_yX12_stoppedPart : Cond.instanceMethod yX12_stoppedPart ∈ AW := aw_in (i := 1310) (by decide +kernel) rfl
theorem qs_yX12_stoppedPart : Cond.selects (yX12_stoppedPart : MethodName).cls yX12_stoppedPart yX12_stoppedPart ∈ AW := aw_in (i := 1311) (by decide +kernel) rfl
theorem qc_yX12_stoppedPart : Cond.code yX12_stoppedPart prog_14_method_59_code 1 (Option.some FieldType.int) ∈ AW := aw_in (i := 1312) (by decide +kernel) rfl
theorem q1214 : Cond.methodLink RL 183 yX12_whyStopped ∈ AW := aw_in (i := 1313) (by decide +kernel) rfl
theorem qi_yX12_whyStopped : Cond.instanceMethod yX12_whyStopped ∈ AW := aw_in (i := 1314) (by decide +kernel) rfl
theorem qs_yX12_whyStopped : Cond.selects (yX12_whyStopped : MethodName).cls yX12_whyStopped yX12_whyStopped ∈ AW := aw_in (i := 1315) (by decide +kernel) rfl
theorem qc_yX12_whyStopped : Cond.code yX12_whyStopped prog_14_method_60_code 1 (Option.some FieldType.int) ∈ AW := aw_in (i := 1316) (by decide +kernel) rfl
theorem q1218 : Cond.methodLink RL 186 yX12_undo ∈ AW := aw_in (i := 1317) (by decide +kernel) rfl
theorem qi_yX12_undo : Cond.instanceMethod yX12_undo ∈ AW := aw_in (i := 1318) (by decide +kernel) rfl
theorem qs_yX12_undo : Cond.selects (yX12_undo : MethodName).cls yX12_undo yX12_undo ∈ AW := aw_in (i := 1319) (by decide +kernel) rfl
theorem qc_yX12_undo : Cond.code yX12_undo prog_14_method_61_code 2 (Option.some FieldType.int) ∈ AW := aw_in (i := 1320) (by decide +kernel) rfl
theorem q1222 : Cond.methodLink RL 190 yX12_keep ∈ AW := aw_in (i := 1321) (by decide +kernel) rfl
theorem qi_yX12_keep : Cond.instanceMethod yX12_keep ∈ AW := aw_in (i := 1322) (by decide +kernel) rfl
theorem qs_yX12_keep : Cond.selects (yX12_keep : MethodName).cls yX12_keep yX12_keep ∈ AW := aw_in (i := 1323) (by decide +kernel) rfl
theorem qc_yX12_keep : Cond.code yX12_keep prog_14_method_62_code 2 (Option.some FieldType.int) ∈ AW := aw_in (i := 1324) (by decide +kernel) rfl
theorem q1226 : Cond.methodLink RL 193 yX12_restore ∈ AW := aw_in (i := 1325) (by decide +kernel) rfl
theorem qi_yX12_restore : Cond.instanceMethod yX12_restore ∈ AW := aw_in (i := 1326) (by decide +kernel) rfl
theorem qs_yX12_restore : Cond.selects (yX12_restore : MethodName).cls yX12_restore yX12_restore ∈ AW := aw_in (i := 1327) (by decide +kernel) rfl
theorem qc_yX12_restore : Cond.code yX12_restore prog_14_method_63_code 2 (Option.some FieldType.int) ∈ AW := aw_in (i := 1328) (by decide +kernel) rfl
theorem q1230 : Cond.methodLink RL 197 yX12_savedStates ∈ AW := aw_in (i := 1329) (by decide +kernel) rfl
theorem qi_yX12_savedStates : Cond.instanceMethod yX12_savedStates ∈ AW := aw_in (i := 1330) (by decide +kernel) rfl
theorem qs_yX12_savedStates : Cond.selects (yX12_savedStates : MethodName).cls yX12_savedStates yX12_savedStates ∈ AW := aw_in (i := 1331) (by decide +kernel) rfl
theorem qc_yX12_savedStates : Cond.code yX12_savedStates prog_14_method_64_code 1 (Option.some FieldType.int) ∈ AW := aw_in (i := 1332) (by decide +kernel) rfl
theorem q1234 : Cond.methodLink RL 201 yX12_days ∈ AW := aw_in (i := 1333) (by decide +kernel) rfl
theorem qi_yX12_days : Cond.instanceMethod yX12_days ∈ AW := aw_in (i := 1334) (by decide +kernel) rfl
theorem qs_yX12_days : Cond.selects (yX12_days : MethodName).cls yX12_days yX12_days ∈ AW := aw_in (i := 1335) (by decide +kernel) rfl
theorem qc_yX12_days : Cond.code yX12_days prog_14_method_65_code 1 (Option.some FieldType.int) ∈ AW := aw_in (i := 1336) (by decide +kernel) rfl
theorem q1238 : Cond.methodLink RL 204 yX12_priceOf ∈ AW := aw_in (i := 1337) (by decide +kernel) rfl
theorem qi_yX12_priceOf : Cond.instanceMethod yX12_priceOf ∈ AW := aw_in (i := 1338) (by decide +kernel) rfl
theorem qs_yX12_priceOf : Cond.selects (yX12_priceOf : MethodName).cls yX12_priceOf yX12_priceOf ∈ AW := aw_in (i := 1339) (by decide +kernel) rfl
theorem qc_yX12_priceOf : Cond.code yX12_priceOf prog_14_method_66_code 2 (Option.some FieldType.int) ∈ AW := aw_in (i := 1340) (by decide +kernel) rfl
theorem q1242 : Cond.methodLink RL 208 yX12_shortWindow ∈ AW := aw_in (i := 1341) (by decide +kernel) rfl
theorem qi_yX12_shortWindow : Cond.instanceMethod yX12_shortWindow ∈ AW := aw_in (i := 1342) (by decide +kernel) rfl
theorem qs_yX12_shortWindow : Cond.selects (yX12_shortWindow : MethodName).cls yX12_shortWindow yX12_shortWindow ∈ AW := aw_in (i := 1343) (by decide +kernel) rfl
theorem qc_yX12_shortWindow : Cond.code yX12_shortWindow prog_14_method_67_code 1 (Option.some FieldType.int) ∈ AW := aw_in (i := 1344) (by decide +kernel) rfl
theorem q1246 : Cond.methodLink RL 212 yX12_longWindow ∈ AW := aw_in (i := 1345) (by decide +kernel) rfl
theorem qi_yX12_longWindow : Cond.instanceMethod yX12_longWindow ∈ AW := aw_in (i := 1346) (by decide +kernel) rfl
theorem qs_yX12_longWindow : Cond.selects (yX12_longWindow : MethodName).cls yX12_longWindow yX12_longWindow ∈ AW := aw_in (i := 1347) (by decide +kernel) rfl
theorem qc_yX12_longWindow : Cond.code yX12_longWindow prog_14_method_68_code 1 (Option.some FieldType.int) ∈ AW := aw_in (i := 1348) (by decide +kernel) rfl
theorem q1250 : Cond.methodLink RL 215 yX12_mean ∈ AW := aw_in (i := 1349) (by decide +kernel) rfl
theorem qi_yX12_mean : Cond.instanceMethod yX12_mean ∈ AW := aw_in (i := 1350) (by decide +kernel) rfl
theorem qs_yX12_mean : Cond.selects (yX12_mean : MethodName).cls yX12_mean yX12_mean ∈ AW := aw_in (i := 1351) (by decide +kernel) rfl
theorem qc_yX12_mean : Cond.code yX12_mean prog_14_method_70_code 3 (Option.some FieldType.int) ∈ AW := aw_in (i := 1352) (by decide +kernel) rfl
theorem q1254 : Cond.methodLink RX12 169 yX12_tellsMean ∈ AW := aw_in (i := 1353) (by decide +kernel) rfl
theorem qi_yX12_tellsMean : Cond.instanceMethod yX12_tellsMean ∈ AW := aw_in (i := 1355) (by decide +kernel) rfl
theorem qc_yX12_tellsMean : Cond.code yX12_tellsMean prog_14_method_69_code 3 (Option.some FieldType.int) ∈ AW := aw_in (i := 1356) (by decide +kernel) rfl
theorem q1258 : Cond.methodLink RX12 56 yX12_meanOf ∈ AW := aw_in (i := 1357) (by decide +kernel) rfl
theorem qi_yX12_meanOf : Cond.instanceMethod yX12_meanOf ∈ AW := aw_in (i := 1359) (by decide +kernel) rfl
theorem qc_yX12_meanOf : Cond.code yX12_meanOf prog_14_method_10_code 6 (Option.some FieldType.int) ∈ AW := aw_in (i := 1360) (by decide +kernel) rfl
theorem q1262 : Cond.methodLink RL 218 yX12_meanBySums ∈ AW := aw_in (i := 1361) (by decide +kernel) rfl
theorem qi_yX12_meanBySums : Cond.instanceMethod yX12_meanBySums ∈ AW := aw_in (i := 1362) (by decide +kernel) rfl
theorem qs_yX12_meanBySums : Cond.selects (yX12_meanBySums : MethodName).cls yX12_meanBySums yX12_meanBySums ∈ AW := aw_in (i := 1363) (by decide +kernel) rfl
theorem qc_yX12_meanBySums : Cond.code yX12_meanBySums prog_14_method_71_code 3 (Option.some FieldType.int) ∈ AW := aw_in (i := 1364) (by decide +kernel) rfl
theorem q1266 : Cond.methodLink RL 221 yX12_weightedMean ∈ AW := aw_in (i := 1365) (by decide +kernel) rfl
theorem qi_yX12_weightedMean : Cond.instanceMethod yX12_weightedMean ∈ AW := aw_in (i := 1366) (by decide +kernel) rfl
theorem qs_yX12_weightedMean : Cond.selects (yX12_weightedMean : MethodName).cls yX12_weightedMean yX12_weightedMean ∈ AW := aw_in (i := 1367) (by decide +kernel) rfl
theorem qc_yX12_weightedMean : Cond.code yX12_weightedMean prog_14_method_72_code 2 (Option.some FieldType.int) ∈ AW := aw_in (i := 1368) (by decide +kernel) rfl
theorem q1270 : Cond.methodLink RX12 172 yX12_weighted ∈ AW := aw_in (i := 1369) (by decide +kernel) rfl
theorem qi_yX12_weighted : Cond.instanceMethod yX12_weighted ∈ AW := aw_in (i := 1371) (by decide +kernel) rfl
theorem qc_yX12_weighted : Cond.code yX12_weighted prog_14_method_11_code 6 (Option.some FieldType.int) ∈ AW := aw_in (i := 1372) (by decide +kernel) rfl
theorem q1274 : Cond.constantLong RX12 47 (1000 : Int64) ∈ AW := aw_in (i := 1373) (by decide +kernel) rfl
theorem q1275 : Cond.methodLink RL 224 yX12_smoothed ∈ AW := aw_in (i := 1374) (by decide +kernel) rfl
theorem qi_yX12_smoothed : Cond.instanceMethod yX12_smoothed ∈ AW := aw_in (i := 1375) (by decide +kernel) rfl
theorem qs_yX12_smoothed : Cond.selects (yX12_smoothed : MethodName).cls yX12_smoothed yX12_smoothed ∈ AW := aw_in (i := 1376) (by decide +kernel) rfl
theorem qc_yX12_smoothed : Cond.code yX12_smoothed prog_14_method_74_code 2 (Option.some FieldType.int) ∈ AW := aw_in (i := 1377) (by decide +kernel) rfl
theorem q1279 : Cond.methodLink RX12 175 yX12_tellsSmooth ∈ AW := aw_in (i := 1378) (by decide +kernel) rfl
theorem qi_yX12_tellsSmooth : Cond.instanceMethod yX12_tellsSmooth ∈ AW := aw_in (i := 1380) (by decide +kernel) rfl
theorem qc_yX12_tellsSmooth : Cond.code yX12_tellsSmooth prog_14_method_73_code 2 (Option.some FieldType.int) ∈ AW := aw_in (i := 1381) (by decide +kernel) rfl
theorem q1283 : Cond.methodLink RX12 91 yX12_smooth ∈ AW := aw_in (i := 1382) (by decide +kernel) rfl
theorem qi_yX12_smooth : Cond.instanceMethod yX12_smooth ∈ AW := aw_in (i := 1384) (by decide +kernel) rfl
theorem qc_yX12_smooth : Cond.code yX12_smooth prog_14_method_12_code 4 (Option.some FieldType.int) ∈ AW := aw_in (i := 1385) (by decide +kernel) rfl
theorem q1287 : Cond.methodLink RL 227 yX12_smoothedBack ∈ AW := aw_in (i := 1386) (by decide +kernel) rfl
theorem qi_yX12_smoothedBack : Cond.instanceMethod yX12_smoothedBack ∈ AW := aw_in (i := 1387) (by decide +kernel) rfl
theorem qs_yX12_smoothedBack : Cond.selects (yX12_smoothedBack : MethodName).cls yX12_smoothedBack yX12_smoothedBack ∈ AW := aw_in (i := 1388) (by decide +kernel) rfl
theorem qc_yX12_smoothedBack : Cond.code yX12_smoothedBack prog_14_method_75_code 2 (Option.some FieldType.int) ∈ AW := aw_in (i := 1389) (by decide +kernel) rfl
theorem q1291 : Cond.methodLink RL 230 yX12_median ∈ AW := aw_in (i := 1390) (by decide +kernel) rfl
theorem qi_yX12_median : Cond.instanceMethod yX12_median ∈ AW := aw_in (i := 1391) (by decide +kernel) rfl
theorem qs_yX12_median : Cond.selects (yX12_median : MethodName).cls yX12_median yX12_median ∈ AW := aw_in (i := 1392) (by decide +kernel) rfl
theorem qc_yX12_median : Cond.code yX12_median prog_14_method_76_code 2 (Option.some FieldType.int) ∈ AW := aw_in (i := 1393) (by decide +kernel) rfl
theorem q1295 : Cond.methodLink RL 233 yX12_isCrease ∈ AW := aw_in (i := 1394) (by decide +kernel) rfl
theorem qi_yX12_isCrease : Cond.instanceMethod yX12_isCrease ∈ AW := aw_in (i := 1395) (by decide +kernel) rfl
theorem qs_yX12_isCrease : Cond.selects (yX12_isCrease : MethodName).cls yX12_isCrease yX12_isCrease ∈ AW := aw_in (i := 1396) (by decide +kernel) rfl
theorem qc_yX12_isCrease : Cond.code yX12_isCrease prog_14_method_77_code 2 (Option.some FieldType.boolean) ∈ AW := aw_in (i := 1397) (by decide +kernel) rfl
theorem q1299 : Cond.methodLink RL 237 yX12_creases ∈ AW := aw_in (i := 1398) (by decide +kernel) rfl
theorem qi_yX12_creases : Cond.instanceMethod yX12_creases ∈ AW := aw_in (i := 1399) (by decide +kernel) rfl
theorem qs_yX12_creases : Cond.selects (yX12_creases : MethodName).cls yX12_creases yX12_creases ∈ AW := aw_in (i := 1400) (by decide +kernel) rfl
theorem qc_yX12_creases : Cond.code yX12_creases prog_14_method_78_code 1 (Option.some FieldType.int) ∈ AW := aw_in (i := 1401) (by decide +kernel) rfl
theorem q1303 : Cond.methodLink RX12 178 yX12_creaseMany ∈ AW := aw_in (i := 1402) (by decide +kernel) rfl
theorem qi_yX12_creaseMany : Cond.instanceMethod yX12_creaseMany ∈ AW := aw_in (i := 1404) (by decide +kernel) rfl
theorem qc_yX12_creaseMany : Cond.code yX12_creaseMany prog_14_method_15_code 3 (Option.some FieldType.int) ∈ AW := aw_in (i := 1405) (by decide +kernel) rfl
theorem q1307 : Cond.methodLink RL 240 yX12_high ∈ AW := aw_in (i := 1406) (by decide +kernel) rfl
theorem qi_yX12_high : Cond.instanceMethod yX12_high ∈ AW := aw_in (i := 1407) (by decide +kernel) rfl
theorem qs_yX12_high : Cond.selects (yX12_high : MethodName).cls yX12_high yX12_high ∈ AW := aw_in (i := 1408) (by decide +kernel) rfl
theorem qc_yX12_high : Cond.code yX12_high prog_14_method_80_code 2 (Option.some FieldType.int) ∈ AW := aw_in (i := 1409) (by decide +kernel) rfl
theorem q1311 : Cond.methodLink RX12 184 yX12_tellsHigh ∈ AW := aw_in (i := 1410) (by decide +kernel) rfl
theorem qi_yX12_tellsHigh : Cond.instanceMethod yX12_tellsHigh ∈ AW := aw_in (i := 1412) (by decide +kernel) rfl
theorem qc_yX12_tellsHigh : Cond.code yX12_tellsHigh prog_14_method_79_code 2 (Option.some FieldType.int) ∈ AW := aw_in (i := 1413) (by decide +kernel) rfl
theorem q1315 : Cond.methodLink RX12 181 yX12_greatest ∈ AW := aw_in (i := 1414) (by decide +kernel) rfl
theorem qi_yX12_greatest : Cond.instanceMethod yX12_greatest ∈ AW := aw_in (i := 1416) (by decide +kernel) rfl
theorem qc_yX12_greatest : Cond.code yX12_greatest prog_14_method_16_code 4 (Option.some FieldType.int) ∈ AW := aw_in (i := 1417) (by decide +kernel) rfl
theorem q1319 : Cond.methodLink RL 243 yX12_highByCandidates ∈ AW := aw_in (i := 1418) (by decide +kernel) rfl
theorem qi_yX12_highByCandidates : Cond.instanceMethod yX12_highByCandidates ∈ AW := aw_in (i := 1419) (by decide +kernel) rfl
theorem qs_yX12_highByCandidates : Cond.selects (yX12_highByCandidates : MethodName).cls yX12_highByCandidates yX12_highByCandidates ∈ AW := aw_in (i := 1420) (by decide +kernel) rfl
theorem qc_yX12_highByCandidates : Cond.code yX12_highByCandidates prog_14_method_81_code 2 (Option.some FieldType.int) ∈ AW := aw_in (i := 1421) (by decide +kernel) rfl
theorem q1323 : Cond.methodLink RL 246 yX12_crossing ∈ AW := aw_in (i := 1422) (by decide +kernel) rfl
theorem qi_yX12_crossing : Cond.instanceMethod yX12_crossing ∈ AW := aw_in (i := 1423) (by decide +kernel) rfl
theorem qs_yX12_crossing : Cond.selects (yX12_crossing : MethodName).cls yX12_crossing yX12_crossing ∈ AW := aw_in (i := 1424) (by decide +kernel) rfl
theorem qc_yX12_crossing : Cond.code yX12_crossing prog_14_method_82_code 2 (Option.some FieldType.int) ∈ AW := aw_in (i := 1425) (by decide +kernel) rfl
theorem q1327 : Cond.methodLink RX12 62 yX12_crosses ∈ AW := aw_in (i := 1426) (by decide +kernel) rfl
theorem qi_yX12_crosses : Cond.instanceMethod yX12_crosses ∈ AW := aw_in (i := 1428) (by decide +kernel) rfl
theorem qc_yX12_crosses : Cond.code yX12_crosses prog_14_method_18_code 2 (Option.some FieldType.int) ∈ AW := aw_in (i := 1429) (by decide +kernel) rfl
theorem q1331 : Cond.methodLink RX12 59 yX12_side ∈ AW := aw_in (i := 1430) (by decide +kernel) rfl
theorem qi_yX12_side : Cond.instanceMethod yX12_side ∈ AW := aw_in (i := 1432) (by decide +kernel) rfl
theorem qc_yX12_side : Cond.code yX12_side prog_14_method_17_code 3 (Option.some FieldType.int) ∈ AW := aw_in (i := 1433) (by decide +kernel) rfl
theorem q1335 : Cond.methodLink RL 250 yX12_crossings ∈ AW := aw_in (i := 1434) (by decide +kernel) rfl
theorem qi_yX12_crossings : Cond.instanceMethod yX12_crossings ∈ AW := aw_in (i := 1435) (by decide +kernel) rfl
theorem qs_yX12_crossings : Cond.selects (yX12_crossings : MethodName).cls yX12_crossings yX12_crossings ∈ AW := aw_in (i := 1436) (by decide +kernel) rfl
theorem qc_yX12_crossings : Cond.code yX12_crossings prog_14_method_83_code 1 (Option.some FieldType.int) ∈ AW := aw_in (i := 1437) (by decide +kernel) rfl
theorem q1339 : Cond.methodLink RX12 187 yX12_crossMany ∈ AW := aw_in (i := 1438) (by decide +kernel) rfl
theorem qi_yX12_crossMany : Cond.instanceMethod yX12_crossMany ∈ AW := aw_in (i := 1440) (by decide +kernel) rfl
theorem qc_yX12_crossMany : Cond.code yX12_crossMany prog_14_method_19_code 3 (Option.some FieldType.int) ∈ AW := aw_in (i := 1441) (by decide +kernel) rfl
theorem q1343 : Cond.methodLink RL 253 yX12_pieces ∈ AW := aw_in (i := 1442) (by decide +kernel) rfl
theorem qi_yX12_pieces : Cond.instanceMethod yX12_pieces ∈ AW := aw_in (i := 1443) (by decide +kernel) rfl
theorem qs_yX12_pieces : Cond.selects (yX12_pieces : MethodName).cls yX12_pieces yX12_pieces ∈ AW := aw_in (i := 1444) (by decide +kernel) rfl
theorem qc_yX12_pieces : Cond.code yX12_pieces prog_14_method_84_code 2 (Option.some FieldType.int) ∈ AW := aw_in (i := 1445) (by decide +kernel) rfl
theorem q1347 : Cond.methodLink RX12 190 yX12_piecesAt ∈ AW := aw_in (i := 1446) (by decide +kernel) rfl
theorem qi_yX12_piecesAt : Cond.instanceMethod yX12_piecesAt ∈ AW := aw_in (i := 1448) (by decide +kernel) rfl
theorem qc_yX12_piecesAt : Cond.code yX12_piecesAt prog_14_method_21_code 2 (Option.some FieldType.int) ∈ AW := aw_in (i := 1449) (by decide +kernel) rfl
theorem q1351 : Cond.methodLink RX12 76 yX12_trades ∈ AW := aw_in (i := 1450) (by decide +kernel) rfl
theorem qi_yX12_trades : Cond.instanceMethod yX12_trades ∈ AW := aw_in (i := 1452) (by decide +kernel) rfl
theorem qc_yX12_trades : Cond.code yX12_trades prog_14_method_20_code 9 (Option.none : Option FieldType) ∈ AW := aw_in (i := 1453) (by decide +kernel) rfl
theorem q1355 : Cond.constantLong RX12 68 (10000 : Int64) ∈ AW := aw_in (i := 1454) (by decide +kernel) rfl
theorem q1356 : Cond.constantLong RX12 74 (999 : Int64) ∈ AW := aw_in (i := 1455) (by decide +kernel) rfl
theorem q1357 : Cond.methodLink RL 256 yX12_worth ∈ AW := aw_in (i := 1456) (by decide +kernel) rfl
theorem qi_yX12_worth : Cond.instanceMethod yX12_worth ∈ AW := aw_in (i := 1457) (by decide +kernel) rfl
theorem qs_yX12_worth : Cond.selects (yX12_worth : MethodName).cls yX12_worth yX12_worth ∈ AW := aw_in (i := 1458) (by decide +kernel) rfl
theorem qc_yX12_worth : Cond.code yX12_worth prog_14_method_85_code 2 (Option.some FieldType.long) ∈ AW := aw_in (i := 1459) (by decide +kernel) rfl
theorem q1361 : Cond.methodLink RX12 193 yX12_worthAt ∈ AW := aw_in (i := 1460) (by decide +kernel) rfl
theorem qi_yX12_worthAt : Cond.instanceMethod yX12_worthAt ∈ AW := aw_in (i := 1462) (by decide +kernel) rfl
theorem qc_yX12_worthAt : Cond.code yX12_worthAt prog_14_method_22_code 2 (Option.some FieldType.long) ∈ AW := aw_in (i := 1463) (by decide +kernel) rfl
theorem q1365 : Cond.methodLink RL 260 yX12_greatestFall ∈ AW := aw_in (i := 1464) (by decide +kernel) rfl
theorem qi_yX12_greatestFall : Cond.instanceMethod yX12_greatestFall ∈ AW := aw_in (i := 1465) (by decide +kernel) rfl
theorem qs_yX12_greatestFall : Cond.selects (yX12_greatestFall : MethodName).cls yX12_greatestFall yX12_greatestFall ∈ AW := aw_in (i := 1466) (by decide +kernel) rfl
theorem qc_yX12_greatestFall : Cond.code yX12_greatestFall prog_14_method_86_code 1 (Option.some FieldType.int) ∈ AW := aw_in (i := 1467) (by decide +kernel) rfl
theorem q1369 : Cond.methodLink RX12 197 yX12_fall ∈ AW := aw_in (i := 1468) (by decide +kernel) rfl
theorem qi_yX12_fall : Cond.instanceMethod yX12_fall ∈ AW := aw_in (i := 1470) (by decide +kernel) rfl
theorem qc_yX12_fall : Cond.code yX12_fall prog_14_method_23_code 4 (Option.some FieldType.int) ∈ AW := aw_in (i := 1471) (by decide +kernel) rfl
theorem q1373 : Cond.methodLink RL 264 yX12_greatestFallByPairs ∈ AW := aw_in (i := 1472) (by decide +kernel) rfl
theorem qi_yX12_greatestFallByPairs : Cond.instanceMethod yX12_greatestFallByPairs ∈ AW := aw_in (i := 1473) (by decide +kernel) rfl
theorem qs_yX12_greatestFallByPairs : Cond.selects (yX12_greatestFallByPairs : MethodName).cls yX12_greatestFallByPairs yX12_greatestFallByPairs ∈ AW := aw_in (i := 1474) (by decide +kernel) rfl
theorem qc_yX12_greatestFallByPairs : Cond.code yX12_greatestFallByPairs prog_14_method_87_code 1 (Option.some FieldType.int) ∈ AW := aw_in (i := 1475) (by decide +kernel) rfl
theorem q1377 : Cond.methodLink RL 268 yX12_longestRise ∈ AW := aw_in (i := 1476) (by decide +kernel) rfl
theorem qi_yX12_longestRise : Cond.instanceMethod yX12_longestRise ∈ AW := aw_in (i := 1477) (by decide +kernel) rfl
theorem qs_yX12_longestRise : Cond.selects (yX12_longestRise : MethodName).cls yX12_longestRise yX12_longestRise ∈ AW := aw_in (i := 1478) (by decide +kernel) rfl
theorem qc_yX12_longestRise : Cond.code yX12_longestRise prog_14_method_88_code 1 (Option.some FieldType.int) ∈ AW := aw_in (i := 1479) (by decide +kernel) rfl
theorem q1381 : Cond.methodLink RX12 200 yX12_rise ∈ AW := aw_in (i := 1480) (by decide +kernel) rfl
theorem qi_yX12_rise : Cond.instanceMethod yX12_rise ∈ AW := aw_in (i := 1482) (by decide +kernel) rfl
theorem qc_yX12_rise : Cond.code yX12_rise prog_14_method_24_code 4 (Option.some FieldType.int) ∈ AW := aw_in (i := 1483) (by decide +kernel) rfl
theorem q1385 : Cond.methodLink RL 272 yX12_season ∈ AW := aw_in (i := 1484) (by decide +kernel) rfl
theorem qi_yX12_season : Cond.instanceMethod yX12_season ∈ AW := aw_in (i := 1485) (by decide +kernel) rfl
theorem qs_yX12_season : Cond.selects (yX12_season : MethodName).cls yX12_season yX12_season ∈ AW := aw_in (i := 1486) (by decide +kernel) rfl
theorem qc_yX12_season : Cond.code yX12_season prog_14_method_89_code 1 (Option.some FieldType.int) ∈ AW := aw_in (i := 1487) (by decide +kernel) rfl
theorem q1389 : Cond.methodLink RL 275 yX12_seasonIndex ∈ AW := aw_in (i := 1488) (by decide +kernel) rfl
theorem qi_yX12_seasonIndex : Cond.instanceMethod yX12_seasonIndex ∈ AW := aw_in (i := 1489) (by decide +kernel) rfl
theorem qs_yX12_seasonIndex : Cond.selects (yX12_seasonIndex : MethodName).cls yX12_seasonIndex yX12_seasonIndex ∈ AW := aw_in (i := 1490) (by decide +kernel) rfl
theorem qc_yX12_seasonIndex : Cond.code yX12_seasonIndex prog_14_method_90_code 2 (Option.some FieldType.int) ∈ AW := aw_in (i := 1491) (by decide +kernel) rfl
theorem q1393 : Cond.methodLink RX12 203 yX12_index ∈ AW := aw_in (i := 1492) (by decide +kernel) rfl
theorem qi_yX12_index : Cond.instanceMethod yX12_index ∈ AW := aw_in (i := 1494) (by decide +kernel) rfl
theorem qc_yX12_index : Cond.code yX12_index prog_14_method_28_code 2 (Option.some FieldType.int) ∈ AW := aw_in (i := 1495) (by decide +kernel) rfl
theorem q1397 : Cond.methodLink RX12 80 yX12_partSum ∈ AW := aw_in (i := 1496) (by decide +kernel) rfl
theorem qi_yX12_partSum : Cond.instanceMethod yX12_partSum ∈ AW := aw_in (i := 1498) (by decide +kernel) rfl
theorem qc_yX12_partSum : Cond.code yX12_partSum prog_14_method_26_code 6 (Option.some FieldType.long) ∈ AW := aw_in (i := 1499) (by decide +kernel) rfl
theorem q1401 : Cond.methodLink RX12 84 yX12_partDays ∈ AW := aw_in (i := 1500) (by decide +kernel) rfl
theorem qi_yX12_partDays : Cond.instanceMethod yX12_partDays ∈ AW := aw_in (i := 1502) (by decide +kernel) rfl
theorem qc_yX12_partDays : Cond.code yX12_partDays prog_14_method_25_code 5 (Option.some FieldType.int) ∈ AW := aw_in (i := 1503) (by decide +kernel) rfl
theorem q1405 : Cond.methodLink RX12 87 yX12_allSum ∈ AW := aw_in (i := 1504) (by decide +kernel) rfl
theorem qi_yX12_allSum : Cond.instanceMethod yX12_allSum ∈ AW := aw_in (i := 1506) (by decide +kernel) rfl
theorem qc_yX12_allSum : Cond.code yX12_allSum prog_14_method_27_code 4 (Option.some FieldType.long) ∈ AW := aw_in (i := 1507) (by decide +kernel) rfl
theorem q1409 : Cond.methodLink RL 278 yX12_barePrice ∈ AW := aw_in (i := 1508) (by decide +kernel) rfl
theorem qi_yX12_barePrice : Cond.instanceMethod yX12_barePrice ∈ AW := aw_in (i := 1509) (by decide +kernel) rfl
theorem qs_yX12_barePrice : Cond.selects (yX12_barePrice : MethodName).cls yX12_barePrice yX12_barePrice ∈ AW := aw_in (i := 1510) (by decide +kernel) rfl
theorem qc_yX12_barePrice : Cond.code yX12_barePrice prog_14_method_91_code 2 (Option.some FieldType.long) ∈ AW := aw_in (i := 1511) (by decide +kernel) rfl
theorem q1413 : Cond.methodLink RX12 206 yX12_bare ∈ AW := aw_in (i := 1512) (by decide +kernel) rfl
theorem qi_yX12_bare : Cond.instanceMethod yX12_bare ∈ AW := aw_in (i := 1514) (by decide +kernel) rfl
theorem qc_yX12_bare : Cond.code yX12_bare prog_14_method_29_code 3 (Option.some FieldType.long) ∈ AW := aw_in (i := 1515) (by decide +kernel) rfl
theorem q1417 : Cond.methodLink RL 281 yX12_forecast ∈ AW := aw_in (i := 1516) (by decide +kernel) rfl
theorem qi_yX12_forecast : Cond.instanceMethod yX12_forecast ∈ AW := aw_in (i := 1517) (by decide +kernel) rfl
theorem qs_yX12_forecast : Cond.selects (yX12_forecast : MethodName).cls yX12_forecast yX12_forecast ∈ AW := aw_in (i := 1518) (by decide +kernel) rfl
theorem qc_yX12_forecast : Cond.code yX12_forecast prog_14_method_93_code 2 (Option.some FieldType.int) ∈ AW := aw_in (i := 1519) (by decide +kernel) rfl
theorem q1421 : Cond.methodLink RX12 209 yX12_isMethod ∈ AW := aw_in (i := 1520) (by decide +kernel) rfl
theorem qt_yX12_isMethod : Cond.static yX12_isMethod ∈ AW := aw_in (i := 1521) (by decide +kernel) rfl
theorem qc_yX12_isMethod : Cond.code yX12_isMethod prog_14_method_92_code 1 (Option.some FieldType.boolean) ∈ AW := aw_in (i := 1522) (by decide +kernel) rfl
theorem q1424 : Cond.methodLink RX12 94 yX12_told ∈ AW := aw_in (i := 1523) (by decide +kernel) rfl
theorem qi_yX12_told : Cond.instanceMethod yX12_told ∈ AW := aw_in (i := 1525) (by decide +kernel) rfl
theorem qc_yX12_told : Cond.code yX12_told prog_14_method_30_code 5 (Option.some FieldType.int) ∈ AW := aw_in (i := 1526) (by decide +kernel) rfl
theorem q1428 : Cond.methodLink RL 284 yX12_error ∈ AW := aw_in (i := 1527) (by decide +kernel) rfl
theorem qi_yX12_error : Cond.instanceMethod yX12_error ∈ AW := aw_in (i := 1528) (by decide +kernel) rfl
theorem qs_yX12_error : Cond.selects (yX12_error : MethodName).cls yX12_error yX12_error ∈ AW := aw_in (i := 1529) (by decide +kernel) rfl
theorem qc_yX12_error : Cond.code yX12_error prog_14_method_94_code 2 (Option.some FieldType.int) ∈ AW := aw_in (i := 1530) (by decide +kernel) rfl
theorem q1432 : Cond.methodLink RX12 97 yX12_errorOf ∈ AW := aw_in (i := 1531) (by decide +kernel) rfl
theorem qi_yX12_errorOf : Cond.instanceMethod yX12_errorOf ∈ AW := aw_in (i := 1533) (by decide +kernel) rfl
theorem qc_yX12_errorOf : Cond.code yX12_errorOf prog_14_method_31_code 5 (Option.some FieldType.int) ∈ AW := aw_in (i := 1534) (by decide +kernel) rfl
theorem q1436 : Cond.methodLink RL 287 yX12_bestMethod ∈ AW := aw_in (i := 1535) (by decide +kernel) rfl
theorem qi_yX12_bestMethod : Cond.instanceMethod yX12_bestMethod ∈ AW := aw_in (i := 1536) (by decide +kernel) rfl
theorem qs_yX12_bestMethod : Cond.selects (yX12_bestMethod : MethodName).cls yX12_bestMethod yX12_bestMethod ∈ AW := aw_in (i := 1537) (by decide +kernel) rfl
theorem qc_yX12_bestMethod : Cond.code yX12_bestMethod prog_14_method_95_code 1 (Option.some FieldType.int) ∈ AW := aw_in (i := 1538) (by decide +kernel) rfl
theorem q1440 : Cond.methodLink RX12 212 yX12_best ∈ AW := aw_in (i := 1539) (by decide +kernel) rfl
theorem qi_yX12_best : Cond.instanceMethod yX12_best ∈ AW := aw_in (i := 1541) (by decide +kernel) rfl
theorem qc_yX12_best : Cond.code yX12_best prog_14_method_32_code 3 (Option.some FieldType.int) ∈ AW := aw_in (i := 1542) (by decide +kernel) rfl
theorem q1444 : Cond.methodLink RL 290 yX12_crossingWith ∈ AW := aw_in (i := 1543) (by decide +kernel) rfl
theorem qi_yX12_crossingWith : Cond.instanceMethod yX12_crossingWith ∈ AW := aw_in (i := 1544) (by decide +kernel) rfl
theorem qs_yX12_crossingWith : Cond.selects (yX12_crossingWith : MethodName).cls yX12_crossingWith yX12_crossingWith ∈ AW := aw_in (i := 1545) (by decide +kernel) rfl
theorem qc_yX12_crossingWith : Cond.code yX12_crossingWith prog_14_method_96_code 3 (Option.some FieldType.int) ∈ AW := aw_in (i := 1546) (by decide +kernel) rfl
theorem q1448 : Cond.methodLink RL 295 yX12_smoothShare ∈ AW := aw_in (i := 1547) (by decide +kernel) rfl
theorem qi_yX12_smoothShare : Cond.instanceMethod yX12_smoothShare ∈ AW := aw_in (i := 1548) (by decide +kernel) rfl
theorem qs_yX12_smoothShare : Cond.selects (yX12_smoothShare : MethodName).cls yX12_smoothShare yX12_smoothShare ∈ AW := aw_in (i := 1549) (by decide +kernel) rfl
theorem qc_yX12_smoothShare : Cond.code yX12_smoothShare prog_14_method_98_code 1 (Option.some FieldType.double) ∈ AW := aw_in (i := 1550) (by decide +kernel) rfl
theorem q1452 : Cond.methodLink RX12 215 yX12_share ∈ AW := aw_in (i := 1551) (by decide +kernel) rfl
theorem qi_yX12_share : Cond.instanceMethod yX12_share ∈ AW := aw_in (i := 1553) (by decide +kernel) rfl
theorem qc_yX12_share : Cond.code yX12_share prog_14_method_97_code 1 (Option.some FieldType.double) ∈ AW := aw_in (i := 1554) (by decide +kernel) rfl
theorem q1456 : Cond.methodLink RL 300 yX12_digest ∈ AW := aw_in (i := 1555) (by decide +kernel) rfl
theorem qi_yX12_digest : Cond.instanceMethod yX12_digest ∈ AW := aw_in (i := 1556) (by decide +kernel) rfl
theorem qs_yX12_digest : Cond.selects (yX12_digest : MethodName).cls yX12_digest yX12_digest ∈ AW := aw_in (i := 1557) (by decide +kernel) rfl
theorem qc_yX12_digest : Cond.code yX12_digest prog_14_method_101_code 4 (Option.some FieldType.long) ∈ AW := aw_in (i := 1558) (by decide +kernel) rfl
theorem q1460 : Cond.constantLong RX12 221 (4523 : Int64) ∈ AW := aw_in (i := 1559) (by decide +kernel) rfl
theorem q1461 : Cond.constantLong RX12 219 (31 : Int64) ∈ AW := aw_in (i := 1560) (by decide +kernel) rfl
theorem q1462 : Cond.methodLink RX12 223 yX12_digestDay ∈ AW := aw_in (i := 1561) (by decide +kernel) rfl
theorem qi_yX12_digestDay : Cond.instanceMethod yX12_digestDay ∈ AW := aw_in (i := 1563) (by decide +kernel) rfl
theorem qc_yX12_digestDay : Cond.code yX12_digestDay prog_14_method_99_code 7 (Option.some FieldType.long) ∈ AW := aw_in (i := 1564) (by decide +kernel) rfl
theorem q1466 : Cond.methodLink RX12 227 yX12_digestForecasts ∈ AW := aw_in (i := 1565) (by decide +kernel) rfl
theorem qi_yX12_digestForecasts : Cond.instanceMethod yX12_digestForecasts ∈ AW := aw_in (i := 1567) (by decide +kernel) rfl
theorem qc_yX12_digestForecasts : Cond.code yX12_digestForecasts prog_14_method_100_code 6 (Option.some FieldType.long) ∈ AW := aw_in (i := 1568) (by decide +kernel) rfl
theorem q1470 : Cond.methodLink RX12 231 yJxe99ae_doubleToLongBits_ccdee ∈ AW := aw_in (i := 1569) (by decide +kernel) rfl
theorem qt_yJxe99ae_doubleToLongBits_ccdee : Cond.static yJxe99ae_doubleToLongBits_ccdee ∈ AW := aw_in (i := 1570) (by decide +kernel) rfl
theorem qc_yJxe99ae_doubleToLongBits_ccdee : Cond.code yJxe99ae_doubleToLongBits_ccdee prog_15_method_23_code 2 (Option.some FieldType.long) ∈ AW := aw_in (i := 1571) (by decide +kernel) rfl
theorem q1473 : Cond.methodLink RJxe99ae 122 yJxe99ae_isNaN_b9ae7 ∈ AW := aw_in (i := 1572) (by decide +kernel) rfl
theorem qt_yJxe99ae_isNaN_b9ae7 : Cond.static yJxe99ae_isNaN_b9ae7 ∈ AW := aw_in (i := 1573) (by decide +kernel) rfl
theorem qc_yJxe99ae_isNaN_b9ae7 : Cond.code yJxe99ae_isNaN_b9ae7 prog_15_method_6_code 2 (Option.some FieldType.boolean) ∈ AW := aw_in (i := 1574) (by decide +kernel) rfl
theorem q1476 : Cond.methodLink RJxe99ae 134 (⟨"java/lang/Double", "doubleToRawLongBits", "(D)J"⟩ : MethodName) ∈ AW := aw_in (i := 1575) (by decide +kernel) rfl
theorem q1477 : Cond.static (⟨"java/lang/Double", "doubleToRawLongBits", "(D)J"⟩ : MethodName) ∈ AW := aw_in (i := 1576) (by decide +kernel) rfl
theorem q1478 : Cond.native (⟨"java/lang/Double", "doubleToRawLongBits", "(D)J"⟩ : MethodName) ∈ AW := aw_in (i := 1577) (by decide +kernel) rfl
theorem q1479 : Cond.constantLong RJxe99ae 137 (9221120237041090560 : Int64) ∈ AW := aw_in (i := 1578) (by decide +kernel) rfl
theorem q1480 : Cond.arrayClass FieldType.long ∈ AW := aw_in (i := 1579) (by decide +kernel) rfl
