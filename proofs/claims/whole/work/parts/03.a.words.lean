/-! the words of the tables that a callee may take over, by their places -/
def WA : List Cond := lw_tbl.filter goodWord
theorem wa_of {w : Cond} {k : Nat} (h : lw_tbl[k]? = some w) (hg : goodWord w = true) : w ∈ WA := List.mem_filter.mpr ⟨List.mem_of_getElem? h, hg⟩
theorem WA_good : WA.all goodWord = true := List.all_eq_true.mpr (fun w h => (List.mem_filter.mp h).2)
abbrev WS (y : MethodName) (c : ByteArray) (n : Nat) (r : Option FieldType) : List Cond := Cond.code y c n r :: WA
theorem gi_V {yc y : MethodName} {cc c : ByteArray} {nc n idx : Nat} {rc r : Option FieldType} {own C : String} (h1 : Cond.methodLink own idx y ∈ WA) (h2 : Cond.instanceMethod y ∈ WA) (h3 : Cond.selects C y y ∈ WA) (h4 : Cond.initialized C ∈ WA) (h5 : Cond.code y c n r ∈ WA) : GoodIn (WS yc cc nc rc) (wsV own idx C y (WS y c n r)) := by
  refine goodIn_sub (fun w h => List.mem_cons_of_mem _ ?_) ?_
  · simp only [wsV, List.mem_append, List.mem_cons, List.not_mem_nil, or_false] at h
    rcases h with (rfl | rfl | rfl | rfl) | rfl | h <;> assumption
  · refine List.all_eq_true.mpr (fun w h => ?_)
    simp only [wsV, List.mem_append, List.mem_cons, List.not_mem_nil, or_false] at h
    rcases h with (rfl | rfl | rfl | rfl) | rfl | h <;> first | exact List.all_eq_true.mp WA_good _ h1 | exact List.all_eq_true.mp WA_good _ h2 | exact List.all_eq_true.mp WA_good _ h3 | exact List.all_eq_true.mp WA_good _ h4 | exact List.all_eq_true.mp WA_good _ h5 | exact List.all_eq_true.mp WA_good _ h
theorem gi_S {yc y : MethodName} {cc c : ByteArray} {nc n idx : Nat} {rc r : Option FieldType} {own : String} (h1 : Cond.methodLink own idx y ∈ WA) (h2 : Cond.static y ∈ WA) (h4 : Cond.initialized y.cls ∈ WA) (h5 : Cond.code y c n r ∈ WA) : GoodIn (WS yc cc nc rc) (va_wsS own idx y (WS y c n r)) := by
  refine goodIn_sub (fun w h => List.mem_cons_of_mem _ ?_) ?_
  · simp only [va_wsS, List.mem_append, List.mem_cons, List.not_mem_nil, or_false] at h
    rcases h with (rfl | rfl | rfl) | rfl | h <;> assumption
  · refine List.all_eq_true.mpr (fun w h => ?_)
    simp only [va_wsS, List.mem_append, List.mem_cons, List.not_mem_nil, or_false] at h
    rcases h with (rfl | rfl | rfl) | rfl | h <;> first | exact List.all_eq_true.mp WA_good _ h1 | exact List.all_eq_true.mp WA_good _ h2 | exact List.all_eq_true.mp WA_good _ h4 | exact List.all_eq_true.mp WA_good _ h5 | exact List.all_eq_true.mp WA_good _ h
theorem fl_RX0_11 : Cond.fieldLink RX0 11 "TitleDesk$Board" "wordings" "[LTitleDesk$Wording;" ∈ WA := wa_of (k := 314) (by decide +kernel) rfl
theorem fl_RX0_20 : Cond.fieldLink RX0 20 "TitleDesk$Board" "breaker" "LTitleDesk$Breaker;" ∈ WA := wa_of (k := 316) (by decide +kernel) rfl
theorem fl_RX0_24 : Cond.fieldLink RX0 24 "TitleDesk$Board" "script" "LTitleDesk$Script;" ∈ WA := wa_of (k := 317) (by decide +kernel) rfl
theorem fl_RX0_28 : Cond.fieldLink RX0 28 "TitleDesk$Board" "textSigns" "[B" ∈ WA := wa_of (k := 318) (by decide +kernel) rfl
theorem fl_RX0_35 : Cond.fieldLink RX0 35 "TitleDesk$Board" "noWording" "LTitleDesk$Wording;" ∈ WA := wa_of (k := 315) (by decide +kernel) rfl
theorem fl_RX0_39 : Cond.fieldLink RX0 39 "TitleDesk$Script" "titles" "I" ∈ WA := wa_of (k := 134) (by decide +kernel) rfl
theorem fl_RX0_45 : Cond.fieldLink RX0 45 "TitleDesk$Script" "tongues" "I" ∈ WA := wa_of (k := 130) (by decide +kernel) rfl
theorem fl_RX0_56 : Cond.fieldLink RX0 56 "TitleDesk$Wording" "isChanged" "Z" ∈ WA := wa_of (k := 291) (by decide +kernel) rfl
theorem fl_RX0_90 : Cond.fieldLink RX0 90 "TitleDesk$Wording" "pages" "I" ∈ WA := wa_of (k := 293) (by decide +kernel) rfl
theorem fl_RX1_9 : Cond.fieldLink RX1 9 "TitleDesk$Breaker" "wordBegins" "[I" ∈ WA := wa_of (k := 251) (by decide +kernel) rfl
theorem fl_RX1_15 : Cond.fieldLink RX1 15 "TitleDesk$Breaker" "wordEnds" "[I" ∈ WA := wa_of (k := 252) (by decide +kernel) rfl
theorem fl_RX1_18 : Cond.fieldLink RX1 18 "TitleDesk$Breaker" "rowStops" "[I" ∈ WA := wa_of (k := 253) (by decide +kernel) rfl
theorem fl_RX1_21 : Cond.fieldLink RX1 21 "TitleDesk$Breaker" "leastRows" "[I" ∈ WA := wa_of (k := 254) (by decide +kernel) rfl
theorem fl_RX1_24 : Cond.fieldLink RX1 24 "TitleDesk$Breaker" "mostAhead" "[I" ∈ WA := wa_of (k := 255) (by decide +kernel) rfl
theorem fl_RX1_29 : Cond.fieldLink RX1 29 "TitleDesk$Breaker" "prices" "[[I" ∈ WA := wa_of (k := 256) (by decide +kernel) rfl
theorem fl_RX1_32 : Cond.fieldLink RX1 32 "TitleDesk$Breaker" "width" "I" ∈ WA := wa_of (k := 258) (by decide +kernel) rfl
theorem fl_RX1_49 : Cond.fieldLink RX1 49 "TitleDesk$Breaker" "slots" "I" ∈ WA := wa_of (k := 259) (by decide +kernel) rfl
theorem fl_RX1_61 : Cond.fieldLink RX1 61 "TitleDesk$Breaker" "words" "I" ∈ WA := wa_of (k := 257) (by decide +kernel) rfl
theorem fl_RX1_64 : Cond.fieldLink RX1 64 "TitleDesk$Wording" "length" "I" ∈ WA := wa_of (k := 289) (by decide +kernel) rfl
theorem fl_RX1_69 : Cond.fieldLink RX1 69 "TitleDesk$Wording" "from" "I" ∈ WA := wa_of (k := 287) (by decide +kernel) rfl
theorem fl_RX1_72 : Cond.fieldLink RX1 72 "TitleDesk$Wording" "signs" "[B" ∈ WA := wa_of (k := 285) (by decide +kernel) rfl
theorem fl_RX1_91 : Cond.fieldLink RX1 91 "TitleDesk$Wording" "pages" "I" ∈ WA := wa_of (k := 294) (by decide +kernel) rfl
theorem fl_RX1_94 : Cond.fieldLink RX1 94 "TitleDesk$Wording" "price" "I" ∈ WA := wa_of (k := 296) (by decide +kernel) rfl
theorem fl_RX10_7 : Cond.fieldLink RX10 7 "TitleDeskModel" "tape" "[I" ∈ WA := wa_of (k := 1044) (by decide +kernel) rfl
theorem fl_RX10_13 : Cond.fieldLink RX10 13 "TitleDeskModel" "tongues" "I" ∈ WA := wa_of (k := 1047) (by decide +kernel) rfl
theorem fl_RX10_17 : Cond.fieldLink RX10 17 "TitleDeskModel" "width" "[I" ∈ WA := wa_of (k := 1048) (by decide +kernel) rfl
theorem fl_RX10_20 : Cond.fieldLink RX10 20 "TitleDeskModel" "speed" "[I" ∈ WA := wa_of (k := 1049) (by decide +kernel) rfl
theorem fl_RX10_23 : Cond.fieldLink RX10 23 "TitleDeskModel" "beats" "I" ∈ WA := wa_of (k := 1050) (by decide +kernel) rfl
theorem fl_RX10_26 : Cond.fieldLink RX10 26 "TitleDeskModel" "itemBar" "[I" ∈ WA := wa_of (k := 1053) (by decide +kernel) rfl
theorem fl_RX10_29 : Cond.fieldLink RX10 29 "TitleDeskModel" "itemTitle" "[I" ∈ WA := wa_of (k := 1054) (by decide +kernel) rfl
theorem fl_RX10_32 : Cond.fieldLink RX10 32 "TitleDeskModel" "titleItem" "[I" ∈ WA := wa_of (k := 1055) (by decide +kernel) rfl
theorem fl_RX10_35 : Cond.fieldLink RX10 35 "TitleDeskModel" "cutFrom" "[I" ∈ WA := wa_of (k := 1056) (by decide +kernel) rfl
theorem fl_RX10_38 : Cond.fieldLink RX10 38 "TitleDeskModel" "cutTo" "[I" ∈ WA := wa_of (k := 1057) (by decide +kernel) rfl
theorem fl_RX10_42 : Cond.fieldLink RX10 42 "TitleDeskModel" "signs" "[I" ∈ WA := wa_of (k := 1059) (by decide +kernel) rfl
theorem fl_RX10_45 : Cond.fieldLink RX10 45 "TitleDeskModel" "sizes" "[I" ∈ WA := wa_of (k := 1060) (by decide +kernel) rfl
theorem fl_RX10_48 : Cond.fieldLink RX10 48 "TitleDeskModel" "own" "[Z" ∈ WA := wa_of (k := 1061) (by decide +kernel) rfl
theorem fl_RX10_52 : Cond.fieldLink RX10 52 "TitleDeskModel" "isOn" "[Z" ∈ WA := wa_of (k := 1062) (by decide +kernel) rfl
theorem fl_RX10_55 : Cond.fieldLink RX10 55 "TitleDeskModel" "changed" "[Z" ∈ WA := wa_of (k := 1063) (by decide +kernel) rfl
theorem fl_RX10_58 : Cond.fieldLink RX10 58 "TitleDeskModel" "tonight" "[I" ∈ WA := wa_of (k := 1064) (by decide +kernel) rfl
theorem fl_RX10_61 : Cond.fieldLink RX10 61 "TitleDeskModel" "tonightSize" "[I" ∈ WA := wa_of (k := 1065) (by decide +kernel) rfl
theorem fl_RX10_64 : Cond.fieldLink RX10 64 "TitleDeskModel" "following" "Z" ∈ WA := wa_of (k := 1067) (by decide +kernel) rfl
theorem fl_RX10_68 : Cond.fieldLink RX10 68 "TitleDeskModel" "hand" "[I" ∈ WA := wa_of (k := 1070) (by decide +kernel) rfl
theorem fl_RX10_71 : Cond.fieldLink RX10 71 "TitleDeskModel" "wordFrom" "[I" ∈ WA := wa_of (k := 1071) (by decide +kernel) rfl
theorem fl_RX10_74 : Cond.fieldLink RX10 74 "TitleDeskModel" "wordTo" "[I" ∈ WA := wa_of (k := 1072) (by decide +kernel) rfl
theorem fl_RX10_77 : Cond.fieldLink RX10 77 "TitleDeskModel" "least" "[I" ∈ WA := wa_of (k := 1074) (by decide +kernel) rfl
theorem fl_RX10_80 : Cond.fieldLink RX10 80 "TitleDeskModel" "rowMany" "[I" ∈ WA := wa_of (k := 1075) (by decide +kernel) rfl
theorem fl_RX10_83 : Cond.fieldLink RX10 83 "TitleDeskModel" "faultPlace" "I" ∈ WA := wa_of (k := 1084) (by decide +kernel) rfl
theorem fl_RX10_86 : Cond.fieldLink RX10 86 "TitleDeskModel" "rWidth" "[I" ∈ WA := wa_of (k := 1086) (by decide +kernel) rfl
theorem fl_RX10_89 : Cond.fieldLink RX10 89 "TitleDeskModel" "rSpeed" "[I" ∈ WA := wa_of (k := 1087) (by decide +kernel) rfl
theorem fl_RX10_92 : Cond.fieldLink RX10 92 "TitleDeskModel" "rBar" "[I" ∈ WA := wa_of (k := 1091) (by decide +kernel) rfl
theorem fl_RX10_95 : Cond.fieldLink RX10 95 "TitleDeskModel" "rTitle" "[I" ∈ WA := wa_of (k := 1092) (by decide +kernel) rfl
theorem fl_RX10_98 : Cond.fieldLink RX10 98 "TitleDeskModel" "rCutFrom" "[I" ∈ WA := wa_of (k := 1093) (by decide +kernel) rfl
theorem fl_RX10_101 : Cond.fieldLink RX10 101 "TitleDeskModel" "rCutTo" "[I" ∈ WA := wa_of (k := 1094) (by decide +kernel) rfl
theorem fl_RX10_104 : Cond.fieldLink RX10 104 "TitleDeskModel" "rFrom" "[I" ∈ WA := wa_of (k := 1096) (by decide +kernel) rfl
theorem fl_RX10_107 : Cond.fieldLink RX10 107 "TitleDeskModel" "rSize" "[I" ∈ WA := wa_of (k := 1097) (by decide +kernel) rfl
theorem fl_RX10_110 : Cond.fieldLink RX10 110 "TitleDeskModel" "wordRow" "[I" ∈ WA := wa_of (k := 1098) (by decide +kernel) rfl
theorem fl_RX10_113 : Cond.fieldLink RX10 113 "TitleDeskModel" "thrown" "I" ∈ WA := wa_of (k := 1046) (by decide +kernel) rfl
theorem fl_RX10_116 : Cond.fieldLink RX10 116 "TitleDeskModel" "tapeSize" "I" ∈ WA := wa_of (k := 1045) (by decide +kernel) rfl
theorem fl_RX10_119 : Cond.fieldLink RX10 119 "TitleDeskModel" "words" "I" ∈ WA := wa_of (k := 1073) (by decide +kernel) rfl
theorem fl_RX10_133 : Cond.fieldLink RX10 133 "TitleDeskModel" "pageMany" "I" ∈ WA := wa_of (k := 1076) (by decide +kernel) rfl
theorem fl_RX10_141 : Cond.fieldLink RX10 141 "TitleDeskModel" "priceOf" "I" ∈ WA := wa_of (k := 1077) (by decide +kernel) rfl
theorem fl_RX10_151 : Cond.fieldLink RX10 151 "TitleDeskModel" "fault" "I" ∈ WA := wa_of (k := 1083) (by decide +kernel) rfl
theorem fl_RX10_154 : Cond.fieldLink RX10 154 "TitleDeskModel" "size" "I" ∈ WA := wa_of (k := 1078) (by decide +kernel) rfl
theorem fl_RX10_157 : Cond.fieldLink RX10 157 "TitleDeskModel" "next" "I" ∈ WA := wa_of (k := 1079) (by decide +kernel) rfl
theorem fl_RX10_160 : Cond.fieldLink RX10 160 "TitleDeskModel" "place" "I" ∈ WA := wa_of (k := 1082) (by decide +kernel) rfl
theorem fl_RX10_163 : Cond.fieldLink RX10 163 "TitleDeskModel" "kind" "I" ∈ WA := wa_of (k := 1080) (by decide +kernel) rfl
theorem fl_RX10_173 : Cond.fieldLink RX10 173 "TitleDeskModel" "which" "I" ∈ WA := wa_of (k := 1081) (by decide +kernel) rfl
theorem fl_RX10_186 : Cond.fieldLink RX10 186 "TitleDeskModel" "told" "I" ∈ WA := wa_of (k := 1099) (by decide +kernel) rfl
theorem fl_RX10_192 : Cond.fieldLink RX10 192 "TitleDeskModel" "rBeats" "I" ∈ WA := wa_of (k := 1088) (by decide +kernel) rfl
theorem fl_RX10_202 : Cond.fieldLink RX10 202 "TitleDeskModel" "rTongues" "I" ∈ WA := wa_of (k := 1085) (by decide +kernel) rfl
theorem fl_RX10_205 : Cond.fieldLink RX10 205 "TitleDeskModel" "rItems" "I" ∈ WA := wa_of (k := 1089) (by decide +kernel) rfl
theorem fl_RX10_214 : Cond.fieldLink RX10 214 "TitleDeskModel" "rTitles" "I" ∈ WA := wa_of (k := 1090) (by decide +kernel) rfl
theorem fl_RX10_217 : Cond.fieldLink RX10 217 "TitleDeskModel" "rCuts" "I" ∈ WA := wa_of (k := 1095) (by decide +kernel) rfl
theorem fl_RX10_235 : Cond.fieldLink RX10 235 "TitleDeskModel" "items" "I" ∈ WA := wa_of (k := 1051) (by decide +kernel) rfl
theorem fl_RX10_238 : Cond.fieldLink RX10 238 "TitleDeskModel" "titles" "I" ∈ WA := wa_of (k := 1052) (by decide +kernel) rfl
theorem fl_RX10_241 : Cond.fieldLink RX10 241 "TitleDeskModel" "cuts" "I" ∈ WA := wa_of (k := 1058) (by decide +kernel) rfl
theorem fl_RX10_247 : Cond.fieldLink RX10 247 "TitleDeskModel" "pos" "I" ∈ WA := wa_of (k := 1066) (by decide +kernel) rfl
theorem fl_RX10_250 : Cond.fieldLink RX10 250 "TitleDeskModel" "doubts" "I" ∈ WA := wa_of (k := 1068) (by decide +kernel) rfl
theorem fl_RX10_265 : Cond.fieldLink RX10 265 "TitleDeskModel" "lastDoubt" "I" ∈ WA := wa_of (k := 1069) (by decide +kernel) rfl
theorem fl_RX2_9 : Cond.fieldLink RX2 9 "TitleDesk$Evening" "following" "Z" ∈ WA := wa_of (k := 338) (by decide +kernel) rfl
theorem fl_RX2_15 : Cond.fieldLink RX2 15 "TitleDesk$Evening" "latestInDoubt" "I" ∈ WA := wa_of (k := 342) (by decide +kernel) rfl
theorem fl_RX2_19 : Cond.fieldLink RX2 19 "TitleDesk$Evening" "cutsOn" "[Z" ∈ WA := wa_of (k := 343) (by decide +kernel) rfl
theorem fl_RX2_23 : Cond.fieldLink RX2 23 "TitleDesk$Evening" "script" "LTitleDesk$Script;" ∈ WA := wa_of (k := 344) (by decide +kernel) rfl
theorem fl_RX2_27 : Cond.fieldLink RX2 27 "TitleDesk$Evening" "pos" "I" ∈ WA := wa_of (k := 336) (by decide +kernel) rfl
theorem fl_RX2_30 : Cond.fieldLink RX2 30 "TitleDesk$Evening" "doubts" "I" ∈ WA := wa_of (k := 340) (by decide +kernel) rfl
theorem fl_RX3_9 : Cond.fieldLink RX3 9 "TitleDesk$Reader" "faultPlace" "I" ∈ WA := wa_of (k := 216) (by decide +kernel) rfl
theorem fl_RX3_15 : Cond.fieldLink RX3 15 "TitleDesk$Reader" "script" "LTitleDesk$Script;" ∈ WA := wa_of (k := 219) (by decide +kernel) rfl
theorem fl_RX3_24 : Cond.fieldLink RX3 24 "TitleDesk$Reader" "scanner" "LTitleDesk$Scanner;" ∈ WA := wa_of (k := 218) (by decide +kernel) rfl
theorem fl_RX3_28 : Cond.fieldLink RX3 28 "TitleDesk$Reader" "faultNumber" "I" ∈ WA := wa_of (k := 214) (by decide +kernel) rfl
theorem fl_RX3_57 : Cond.fieldLink RX3 57 "TitleDesk$Scanner" "place" "I" ∈ WA := wa_of (k := 196) (by decide +kernel) rfl
theorem fl_RX3_70 : Cond.fieldLink RX3 70 "TitleDesk$Reader" "number" "I" ∈ WA := wa_of (k := 220) (by decide +kernel) rfl
theorem fl_RX3_73 : Cond.fieldLink RX3 73 "TitleDesk$Script" "tongues" "I" ∈ WA := wa_of (k := 131) (by decide +kernel) rfl
theorem fl_RX3_78 : Cond.fieldLink RX3 78 "TitleDesk$Scanner" "kind" "I" ∈ WA := wa_of (k := 194) (by decide +kernel) rfl
theorem fl_RX3_81 : Cond.fieldLink RX3 81 "TitleDesk$Scanner" "value" "I" ∈ WA := wa_of (k := 198) (by decide +kernel) rfl
theorem fl_RX3_84 : Cond.fieldLink RX3 84 "TitleDesk$Reader" "numberPlace" "I" ∈ WA := wa_of (k := 221) (by decide +kernel) rfl
theorem fl_RX3_89 : Cond.fieldLink RX3 89 "TitleDesk$Script" "widths" "[I" ∈ WA := wa_of (k := 142) (by decide +kernel) rfl
theorem fl_RX3_99 : Cond.fieldLink RX3 99 "TitleDesk$Script" "speeds" "[I" ∈ WA := wa_of (k := 144) (by decide +kernel) rfl
theorem fl_RX3_156 : Cond.fieldLink RX3 156 "TitleDesk$Scanner" "signs" "[B" ∈ WA := wa_of (k := 192) (by decide +kernel) rfl
theorem fl_RX3_180 : Cond.fieldLink RX3 180 "TitleDesk$Script" "titles" "I" ∈ WA := wa_of (k := 136) (by decide +kernel) rfl
theorem fl_RX4_9 : Cond.fieldLink RX4 9 "TitleDesk$Scanner" "signs" "[B" ∈ WA := wa_of (k := 191) (by decide +kernel) rfl
theorem fl_RX4_24 : Cond.fieldLink RX4 24 "TitleDesk$Scanner" "length" "I" ∈ WA := wa_of (k := 199) (by decide +kernel) rfl
theorem fl_RX4_28 : Cond.fieldLink RX4 28 "TitleDesk$Scanner" "behind" "I" ∈ WA := wa_of (k := 200) (by decide +kernel) rfl
theorem fl_RX4_34 : Cond.fieldLink RX4 34 "TitleDesk$Scanner" "place" "I" ∈ WA := wa_of (k := 195) (by decide +kernel) rfl
theorem fl_RX4_37 : Cond.fieldLink RX4 37 "TitleDesk$Scanner" "kind" "I" ∈ WA := wa_of (k := 193) (by decide +kernel) rfl
theorem fl_RX4_53 : Cond.fieldLink RX4 53 "TitleDesk$Scanner" "value" "I" ∈ WA := wa_of (k := 197) (by decide +kernel) rfl
theorem fl_RX5_9 : Cond.fieldLink RX5 9 "TitleDesk$Script" "tongues" "I" ∈ WA := wa_of (k := 129) (by decide +kernel) rfl
theorem fl_RX5_15 : Cond.fieldLink RX5 15 "TitleDesk$Script" "widths" "[I" ∈ WA := wa_of (k := 141) (by decide +kernel) rfl
theorem fl_RX5_19 : Cond.fieldLink RX5 19 "TitleDesk$Script" "speeds" "[I" ∈ WA := wa_of (k := 143) (by decide +kernel) rfl
theorem fl_RX5_22 : Cond.fieldLink RX5 22 "TitleDesk$Script" "cutFirsts" "[I" ∈ WA := wa_of (k := 145) (by decide +kernel) rfl
theorem fl_RX5_25 : Cond.fieldLink RX5 25 "TitleDesk$Script" "cutBehinds" "[I" ∈ WA := wa_of (k := 146) (by decide +kernel) rfl
theorem fl_RX5_28 : Cond.fieldLink RX5 28 "TitleDesk$Script" "markBars" "[I" ∈ WA := wa_of (k := 147) (by decide +kernel) rfl
theorem fl_RX5_31 : Cond.fieldLink RX5 31 "TitleDesk$Script" "titleMarks" "[I" ∈ WA := wa_of (k := 148) (by decide +kernel) rfl
theorem fl_RX5_34 : Cond.fieldLink RX5 34 "TitleDesk$Script" "stringFroms" "[I" ∈ WA := wa_of (k := 149) (by decide +kernel) rfl
theorem fl_RX5_37 : Cond.fieldLink RX5 37 "TitleDesk$Script" "stringLengths" "[I" ∈ WA := wa_of (k := 150) (by decide +kernel) rfl
theorem fl_RX5_40 : Cond.fieldLink RX5 40 "TitleDesk$Script" "titles" "I" ∈ WA := wa_of (k := 133) (by decide +kernel) rfl
theorem fl_RX5_43 : Cond.fieldLink RX5 43 "TitleDesk$Script" "cuts" "I" ∈ WA := wa_of (k := 137) (by decide +kernel) rfl
theorem fl_RX5_46 : Cond.fieldLink RX5 46 "TitleDesk$Script" "marks" "I" ∈ WA := wa_of (k := 139) (by decide +kernel) rfl
theorem fl_RX5_49 : Cond.fieldLink RX5 49 "TitleDesk$Script" "beats" "I" ∈ WA := wa_of (k := 140) (by decide +kernel) rfl
theorem fl_RX6_9 : Cond.fieldLink RX6 9 "TitleDesk$Tape" "signs" "[B" ∈ WA := wa_of (k := 113) (by decide +kernel) rfl
theorem fl_RX6_15 : Cond.fieldLink RX6 15 "TitleDesk$Tape" "size" "I" ∈ WA := wa_of (k := 115) (by decide +kernel) rfl
theorem fl_RX7_9 : Cond.fieldLink RX7 9 "TitleDesk$Wording" "rowEnds" "[I" ∈ WA := wa_of (k := 298) (by decide +kernel) rfl
theorem fl_RX7_15 : Cond.fieldLink RX7 15 "TitleDesk$Wording" "signs" "[B" ∈ WA := wa_of (k := 284) (by decide +kernel) rfl
theorem fl_RX7_19 : Cond.fieldLink RX7 19 "TitleDesk$Wording" "from" "I" ∈ WA := wa_of (k := 286) (by decide +kernel) rfl
theorem fl_RX7_23 : Cond.fieldLink RX7 23 "TitleDesk$Wording" "length" "I" ∈ WA := wa_of (k := 288) (by decide +kernel) rfl
theorem fl_RX7_26 : Cond.fieldLink RX7 26 "TitleDesk$Wording" "isChanged" "Z" ∈ WA := wa_of (k := 290) (by decide +kernel) rfl
theorem fl_RX7_40 : Cond.fieldLink RX7 40 "TitleDesk$Wording" "pages" "I" ∈ WA := wa_of (k := 292) (by decide +kernel) rfl
theorem fl_RX9_12 : Cond.fieldLink RX9 12 "TitleDesk" "tape" "LTitleDesk$Tape;" ∈ WA := wa_of (k := 359) (by decide +kernel) rfl
theorem fl_RX9_16 : Cond.fieldLink RX9 16 "TitleDesk" "textTape" "LTitleDesk$Tape;" ∈ WA := wa_of (k := 360) (by decide +kernel) rfl
theorem fl_RX9_22 : Cond.fieldLink RX9 22 "TitleDesk" "script" "LTitleDesk$Script;" ∈ WA := wa_of (k := 361) (by decide +kernel) rfl
theorem fl_RX9_26 : Cond.fieldLink RX9 26 "TitleDesk" "draft" "LTitleDesk$Script;" ∈ WA := wa_of (k := 362) (by decide +kernel) rfl
theorem fl_RX9_31 : Cond.fieldLink RX9 31 "TitleDesk$Tape" "signs" "[B" ∈ WA := wa_of (k := 114) (by decide +kernel) rfl
theorem fl_RX9_38 : Cond.fieldLink RX9 38 "TitleDesk" "reader" "LTitleDesk$Reader;" ∈ WA := wa_of (k := 363) (by decide +kernel) rfl
theorem fl_RX9_45 : Cond.fieldLink RX9 45 "TitleDesk" "board" "LTitleDesk$Board;" ∈ WA := wa_of (k := 364) (by decide +kernel) rfl
theorem fl_RX9_54 : Cond.fieldLink RX9 54 "TitleDesk" "evening" "LTitleDesk$Evening;" ∈ WA := wa_of (k := 365) (by decide +kernel) rfl
theorem fl_RX9_66 : Cond.fieldLink RX9 66 "TitleDesk$Tape" "size" "I" ∈ WA := wa_of (k := 116) (by decide +kernel) rfl
theorem fl_RX9_90 : Cond.fieldLink RX9 90 "TitleDesk$Script" "titles" "I" ∈ WA := wa_of (k := 135) (by decide +kernel) rfl
theorem fl_RX9_93 : Cond.fieldLink RX9 93 "TitleDesk$Reader" "faultNumber" "I" ∈ WA := wa_of (k := 215) (by decide +kernel) rfl
theorem fl_RX9_96 : Cond.fieldLink RX9 96 "TitleDesk$Reader" "faultPlace" "I" ∈ WA := wa_of (k := 217) (by decide +kernel) rfl
theorem fl_RX9_143 : Cond.fieldLink RX9 143 "TitleDesk$Evening" "following" "Z" ∈ WA := wa_of (k := 339) (by decide +kernel) rfl
theorem fl_RX9_150 : Cond.fieldLink RX9 150 "TitleDesk$Evening" "pos" "I" ∈ WA := wa_of (k := 337) (by decide +kernel) rfl
theorem fl_RX9_191 : Cond.fieldLink RX9 191 "TitleDesk$Wording" "pages" "I" ∈ WA := wa_of (k := 295) (by decide +kernel) rfl
theorem fl_RX9_196 : Cond.fieldLink RX9 196 "TitleDesk$Wording" "price" "I" ∈ WA := wa_of (k := 297) (by decide +kernel) rfl
theorem fl_RX9_214 : Cond.fieldLink RX9 214 "TitleDesk$Script" "tongues" "I" ∈ WA := wa_of (k := 132) (by decide +kernel) rfl
theorem fl_RX9_217 : Cond.fieldLink RX9 217 "TitleDesk$Script" "cuts" "I" ∈ WA := wa_of (k := 138) (by decide +kernel) rfl
theorem fl_RX9_220 : Cond.fieldLink RX9 220 "TitleDesk$Evening" "doubts" "I" ∈ WA := wa_of (k := 341) (by decide +kernel) rfl
theorem ml_RJ0_335 : Cond.methodLink RJ0 335 yJ0_coder_7d493 ∈ WA := wa_of (k := 456) (by decide +kernel) rfl
theorem ml_RJ0_492 : Cond.methodLink RJ0 492 yJ0_isLatin1_aae02 ∈ WA := wa_of (k := 466) (by decide +kernel) rfl
theorem ml_RJ0_495 : Cond.methodLink RJ0 495 yJ1_charAt_3b067 ∈ WA := wa_of (k := 470) (by decide +kernel) rfl
theorem ml_RJ0_498 : Cond.methodLink RJ0 498 yJ2_charAt_3b067 ∈ WA := wa_of (k := 481) (by decide +kernel) rfl
theorem ml_RJ0_1059 : Cond.methodLink RJ0 1059 yJ3_checkIndex_8e157 ∈ WA := wa_of (k := 478) (by decide +kernel) rfl
theorem ml_RJ1_9 : Cond.methodLink RJ1 9 yJ0_checkIndex_df160 ∈ WA := wa_of (k := 473) (by decide +kernel) rfl
theorem ml_RJ2_48 : Cond.methodLink RJ2 48 yJ2_length_9d52b ∈ WA := wa_of (k := 487) (by decide +kernel) rfl
theorem ml_RJ2_67 : Cond.methodLink RJ2 67 yJ2_checkIndex_2214a ∈ WA := wa_of (k := 484) (by decide +kernel) rfl
theorem ml_RJ2_71 : Cond.methodLink RJ2 71 yJ2_getChar_3b067 ∈ WA := wa_of (k := 491) (by decide +kernel) rfl
theorem ml_RJ2_414 : Cond.methodLink RJ2 414 yJ0_checkIndex_df160 ∈ WA := wa_of (k := 490) (by decide +kernel) rfl
theorem ml_RJ7_304 : Cond.methodLink RJ7 304 Lib.Math.min.name ∈ WA := wa_of (k := 786) (by decide +kernel) rfl
theorem ml_RL_7 : Cond.methodLink RL 7 yX9_title ∈ WA := wa_of (k := 914) (by decide +kernel) rfl
theorem ml_RL_17 : Cond.methodLink RL 17 yX9_pages ∈ WA := wa_of (k := 1021) (by decide +kernel) rfl
theorem ml_RL_20 : Cond.methodLink RL 20 yX9_price ∈ WA := wa_of (k := 1033) (by decide +kernel) rfl
theorem ml_RL_23 : Cond.methodLink RL 23 yX9_init ∈ WA := wa_of (k := 101) (by decide +kernel) rfl
theorem ml_RL_26 : Cond.methodLink RL 26 yX10_init ∈ WA := wa_of (k := 1039) (by decide +kernel) rfl
theorem ml_RL_27 : Cond.methodLink RL 27 yX9_feed ∈ WA := wa_of (k := 381) (by decide +kernel) rfl
theorem ml_RL_31 : Cond.methodLink RL 31 yX10_feed ∈ WA := wa_of (k := 1217) (by decide +kernel) rfl
theorem ml_RL_32 : Cond.methodLink RL 32 yX9_text ∈ WA := wa_of (k := 393) (by decide +kernel) rfl
theorem ml_RL_36 : Cond.methodLink RL 36 yX10_text ∈ WA := wa_of (k := 1221) (by decide +kernel) rfl
theorem ml_RL_37 : Cond.methodLink RL 37 yX9_fault ∈ WA := wa_of (k := 732) (by decide +kernel) rfl
theorem ml_RL_40 : Cond.methodLink RL 40 yX10_fault ∈ WA := wa_of (k := 1315) (by decide +kernel) rfl
theorem ml_RL_41 : Cond.methodLink RL 41 yX9_begin ∈ WA := wa_of (k := 736) (by decide +kernel) rfl
theorem ml_RL_44 : Cond.methodLink RL 44 yX10_begin ∈ WA := wa_of (k := 1319) (by decide +kernel) rfl
theorem ml_RL_45 : Cond.methodLink RL 45 yX9_cut ∈ WA := wa_of (k := 744) (by decide +kernel) rfl
theorem ml_RL_49 : Cond.methodLink RL 49 yX10_cut ∈ WA := wa_of (k := 1323) (by decide +kernel) rfl
theorem ml_RL_50 : Cond.methodLink RL 50 yX9_change ∈ WA := wa_of (k := 766) (by decide +kernel) rfl
theorem ml_RL_54 : Cond.methodLink RL 54 yX10_change ∈ WA := wa_of (k := 1335) (by decide +kernel) rfl
theorem ml_RL_55 : Cond.methodLink RL 55 yX9_heard ∈ WA := wa_of (k := 794) (by decide +kernel) rfl
theorem ml_RL_58 : Cond.methodLink RL 58 yX10_heard ∈ WA := wa_of (k := 1347) (by decide +kernel) rfl
theorem ml_RL_59 : Cond.methodLink RL 59 yX9_hand ∈ WA := wa_of (k := 806) (by decide +kernel) rfl
theorem ml_RL_63 : Cond.methodLink RL 63 yX10_hand ∈ WA := wa_of (k := 1351) (by decide +kernel) rfl
theorem ml_RL_64 : Cond.methodLink RL 64 yL_title ∈ WA := wa_of (k := 909) (by decide +kernel) rfl
theorem ml_RL_69 : Cond.methodLink RL 69 yX10_title_ ∈ WA := wa_of (k := 1355) (by decide +kernel) rfl
theorem ml_RL_70 : Cond.methodLink RL 70 yX10_thrown ∈ WA := wa_of (k := 1213) (by decide +kernel) rfl
theorem ml_RL_74 : Cond.methodLink RL 74 yL_pages ∈ WA := wa_of (k := 1018) (by decide +kernel) rfl
theorem ml_RL_76 : Cond.methodLink RL 76 yX10_pages ∈ WA := wa_of (k := 1387) (by decide +kernel) rfl
theorem ml_RL_77 : Cond.methodLink RL 77 yL_price ∈ WA := wa_of (k := 1030) (by decide +kernel) rfl
theorem ml_RL_79 : Cond.methodLink RL 79 yX10_price ∈ WA := wa_of (k := 1391) (by decide +kernel) rfl
theorem ml_RL_80 : Cond.methodLink RL 80 yX9_sign ∈ WA := wa_of (k := 814) (by decide +kernel) rfl
theorem ml_RL_83 : Cond.methodLink RL 83 yX10_sign ∈ WA := wa_of (k := 1395) (by decide +kernel) rfl
theorem ml_RL_84 : Cond.methodLink RL 84 yX9_shown ∈ WA := wa_of (k := 832) (by decide +kernel) rfl
theorem ml_RL_87 : Cond.methodLink RL 87 yX10_shown ∈ WA := wa_of (k := 1403) (by decide +kernel) rfl
theorem ml_RL_88 : Cond.methodLink RL 88 yX9_now ∈ WA := wa_of (k := 892) (by decide +kernel) rfl
theorem ml_RL_92 : Cond.methodLink RL 92 yX10_now ∈ WA := wa_of (k := 1419) (by decide +kernel) rfl
theorem ml_RL_93 : Cond.methodLink RL 93 yX9_count ∈ WA := wa_of (k := 896) (by decide +kernel) rfl
theorem ml_RL_96 : Cond.methodLink RL 96 yX10_count ∈ WA := wa_of (k := 1423) (by decide +kernel) rfl
theorem ml_RX0_32 : Cond.methodLink RX0 32 yX7_init ∈ WA := wa_of (k := 280) (by decide +kernel) rfl
theorem ml_RX0_48 : Cond.methodLink RX0 48 yX0_restore ∈ WA := wa_of (k := 658) (by decide +kernel) rfl
theorem ml_RX0_52 : Cond.methodLink RX0 52 yX0_wordingOf ∈ WA := wa_of (k := 671) (by decide +kernel) rfl
theorem ml_RX0_60 : Cond.methodLink RX0 60 yX0_isThere ∈ WA := wa_of (k := 662) (by decide +kernel) rfl
theorem ml_RX0_64 : Cond.methodLink RX0 64 yX5_stringFrom ∈ WA := wa_of (k := 675) (by decide +kernel) rfl
theorem ml_RX0_68 : Cond.methodLink RX0 68 yX5_stringLength ∈ WA := wa_of (k := 676) (by decide +kernel) rfl
theorem ml_RX0_71 : Cond.methodLink RX0 71 yX7_setString ∈ WA := wa_of (k := 677) (by decide +kernel) rfl
theorem ml_RX0_75 : Cond.methodLink RX0 75 yX5_widthOf ∈ WA := wa_of (k := 681) (by decide +kernel) rfl
theorem ml_RX0_79 : Cond.methodLink RX0 79 yX1_layOut ∈ WA := wa_of (k := 682) (by decide +kernel) rfl
theorem ml_RX0_83 : Cond.methodLink RX0 83 yX5_hasTitle ∈ WA := wa_of (k := 666) (by decide +kernel) rfl
theorem ml_RX0_87 : Cond.methodLink RX0 87 yX5_hasTongue ∈ WA := wa_of (k := 670) (by decide +kernel) rfl
theorem ml_RX0_93 : Cond.methodLink RX0 93 Lib.Math.max.name ∈ WA := wa_of (k := 880) (by decide +kernel) rfl
theorem ml_RX0_98 : Cond.methodLink RX0 98 yX0_stepsOf ∈ WA := wa_of (k := 876) (by decide +kernel) rfl
theorem ml_RX0_105 : Cond.methodLink RX0 105 yX5_speedOf ∈ WA := wa_of (k := 989) (by decide +kernel) rfl
theorem ml_RX0_108 : Cond.methodLink RX0 108 yX7_signsOf ∈ WA := wa_of (k := 990) (by decide +kernel) rfl
theorem ml_RX0_111 : Cond.methodLink RX0 111 yX5_beatsOfBar ∈ WA := wa_of (k := 994) (by decide +kernel) rfl
theorem ml_RX0_115 : Cond.methodLink RX0 115 yX0_barsOfPage ∈ WA := wa_of (k := 995) (by decide +kernel) rfl
theorem ml_RX1_36 : Cond.methodLink RX1 36 yX1_findWords ∈ WA := wa_of (k := 686) (by decide +kernel) rfl
theorem ml_RX1_40 : Cond.methodLink RX1 40 yX1_fillRows ∈ WA := wa_of (k := 690) (by decide +kernel) rfl
theorem ml_RX1_43 : Cond.methodLink RX1 43 Lib.Math.min.name ∈ WA := wa_of (k := 694) (by decide +kernel) rfl
theorem ml_RX1_52 : Cond.methodLink RX1 52 yX1_forgetPrices ∈ WA := wa_of (k := 695) (by decide +kernel) rfl
theorem ml_RX1_55 : Cond.methodLink RX1 55 yX1_priceWays ∈ WA := wa_of (k := 700) (by decide +kernel) rfl
theorem ml_RX1_58 : Cond.methodLink RX1 58 yX1_writeRows ∈ WA := wa_of (k := 712) (by decide +kernel) rfl
theorem ml_RX1_77 : Cond.methodLink RX1 77 yX1_leastPrice ∈ WA := wa_of (k := 704) (by decide +kernel) rfl
theorem ml_RX1_80 : Cond.methodLink RX1 80 yX1_priceWith ∈ WA := wa_of (k := 708) (by decide +kernel) rfl
theorem ml_RX1_84 : Cond.methodLink RX1 84 yX1_longestStop ∈ WA := wa_of (k := 716) (by decide +kernel) rfl
theorem ml_RX1_87 : Cond.methodLink RX1 87 yX7_setRowEnd ∈ WA := wa_of (k := 720) (by decide +kernel) rfl
theorem ml_RX10_122 : Cond.methodLink RX10 122 yX10_rowLength ∈ WA := wa_of (k := 1298) (by decide +kernel) rfl
theorem ml_RX10_126 : Cond.methodLink RX10 126 yX10_cutWords ∈ WA := wa_of (k := 1290) (by decide +kernel) rfl
theorem ml_RX10_130 : Cond.methodLink RX10 130 yX10_fits ∈ WA := wa_of (k := 1294) (by decide +kernel) rfl
theorem ml_RX10_137 : Cond.methodLink RX10 137 yX10_best ∈ WA := wa_of (k := 1303) (by decide +kernel) rfl
theorem ml_RX10_144 : Cond.methodLink RX10 144 yX10_paid ∈ WA := wa_of (k := 1307) (by decide +kernel) rfl
theorem ml_RX10_147 : Cond.methodLink RX10 147 yX10_lay ∈ WA := wa_of (k := 1286) (by decide +kernel) rfl
theorem ml_RX10_166 : Cond.methodLink RX10 166 yX10_isSmall ∈ WA := wa_of (k := 1233) (by decide +kernel) rfl
theorem ml_RX10_170 : Cond.methodLink RX10 170 yX10_wordAt ∈ WA := wa_of (k := 1237) (by decide +kernel) rfl
theorem ml_RX10_176 : Cond.methodLink RX10 176 yX10_isDigit ∈ WA := wa_of (k := 1241) (by decide +kernel) rfl
theorem ml_RX10_180 : Cond.methodLink RX10 180 yX10_string ∈ WA := wa_of (k := 1246) (by decide +kernel) rfl
theorem ml_RX10_183 : Cond.methodLink RX10 183 yX10_wrong ∈ WA := wa_of (k := 1250) (by decide +kernel) rfl
theorem ml_RX10_189 : Cond.methodLink RX10 189 yX10_take ∈ WA := wa_of (k := 1229) (by decide +kernel) rfl
theorem ml_RX10_195 : Cond.methodLink RX10 195 yX10_number ∈ WA := wa_of (k := 1254) (by decide +kernel) rfl
theorem ml_RX10_198 : Cond.methodLink RX10 198 yX10_semi ∈ WA := wa_of (k := 1258) (by decide +kernel) rfl
theorem ml_RX10_208 : Cond.methodLink RX10 208 yX10_bar ∈ WA := wa_of (k := 1278) (by decide +kernel) rfl
theorem ml_RX10_211 : Cond.methodLink RX10 211 yX10_areWords ∈ WA := wa_of (k := 1282) (by decide +kernel) rfl
theorem ml_RX10_220 : Cond.methodLink RX10 220 yX10_cutItem ∈ WA := wa_of (k := 1270) (by decide +kernel) rfl
theorem ml_RX10_223 : Cond.methodLink RX10 223 yX10_title ∈ WA := wa_of (k := 1274) (by decide +kernel) rfl
theorem ml_RX10_226 : Cond.methodLink RX10 226 yX10_setting ∈ WA := wa_of (k := 1262) (by decide +kernel) rfl
theorem ml_RX10_229 : Cond.methodLink RX10 229 yX10_item ∈ WA := wa_of (k := 1266) (by decide +kernel) rfl
theorem ml_RX10_232 : Cond.methodLink RX10 232 yX10_reads ∈ WA := wa_of (k := 1225) (by decide +kernel) rfl
theorem ml_RX10_244 : Cond.methodLink RX10 244 yX10_opens ∈ WA := wa_of (k := 1311) (by decide +kernel) rfl
theorem ml_RX10_253 : Cond.methodLink RX10 253 yX10_isCut ∈ WA := wa_of (k := 1331) (by decide +kernel) rfl
theorem ml_RX10_256 : Cond.methodLink RX10 256 yX10_goesOn ∈ WA := wa_of (k := 1327) (by decide +kernel) rfl
theorem ml_RX10_259 : Cond.methodLink RX10 259 yX10_isTitle ∈ WA := wa_of (k := 1339) (by decide +kernel) rfl
theorem ml_RX10_262 : Cond.methodLink RX10 262 yX10_isTongue ∈ WA := wa_of (k := 1343) (by decide +kernel) rfl
theorem ml_RX10_268 : Cond.methodLink RX10 268 yX10_layTongue ∈ WA := wa_of (k := 1367) (by decide +kernel) rfl
theorem ml_RX10_272 : Cond.methodLink RX10 272 yX10_steps ∈ WA := wa_of (k := 1363) (by decide +kernel) rfl
theorem ml_RX10_276 : Cond.methodLink RX10 276 yX10_endOf ∈ WA := wa_of (k := 1371) (by decide +kernel) rfl
theorem ml_RX10_279 : Cond.methodLink RX10 279 yX10_bars ∈ WA := wa_of (k := 1375) (by decide +kernel) rfl
theorem ml_RX10_282 : Cond.methodLink RX10 282 yX10_stepAt ∈ WA := wa_of (k := 1383) (by decide +kernel) rfl
theorem ml_RX10_285 : Cond.methodLink RX10 285 yX10_fails ∈ WA := wa_of (k := 1359) (by decide +kernel) rfl
theorem ml_RX10_288 : Cond.methodLink RX10 288 yX10_shortOf ∈ WA := wa_of (k := 1379) (by decide +kernel) rfl
theorem ml_RX10_291 : Cond.methodLink RX10 291 yX10_signOf ∈ WA := wa_of (k := 1399) (by decide +kernel) rfl
theorem ml_RX10_295 : Cond.methodLink RX10 295 yX10_stepNow ∈ WA := wa_of (k := 1411) (by decide +kernel) rfl
theorem ml_RX10_298 : Cond.methodLink RX10 298 yX10_standing ∈ WA := wa_of (k := 1407) (by decide +kernel) rfl
theorem ml_RX10_302 : Cond.methodLink RX10 302 yX10_pageNow ∈ WA := wa_of (k := 1415) (by decide +kernel) rfl
theorem ml_RX2_33 : Cond.methodLink RX2 33 yX2_goTo ∈ WA := wa_of (k := 802) (by decide +kernel) rfl
theorem ml_RX2_37 : Cond.methodLink RX2 37 yX2_behindCuts ∈ WA := wa_of (k := 753) (by decide +kernel) rfl
theorem ml_RX2_41 : Cond.methodLink RX2 41 yX5_cutTakes ∈ WA := wa_of (k := 757) (by decide +kernel) rfl
theorem ml_RX2_47 : Cond.methodLink RX2 47 yX5_cutBehind ∈ WA := wa_of (k := 762) (by decide +kernel) rfl
theorem ml_RX2_50 : Cond.methodLink RX2 50 yX5_cutFirst ∈ WA := wa_of (k := 863) (by decide +kernel) rfl
theorem ml_RX2_53 : Cond.methodLink RX2 53 Lib.Math.min.name ∈ WA := wa_of (k := 858) (by decide +kernel) rfl
theorem ml_RX2_59 : Cond.methodLink RX2 59 yX2_nextCut ∈ WA := wa_of (k := 859) (by decide +kernel) rfl
theorem ml_RX3_21 : Cond.methodLink RX3 21 yX4_init ∈ WA := wa_of (k := 187) (by decide +kernel) rfl
theorem ml_RX3_31 : Cond.methodLink RX3 31 yX5_clear ∈ WA := wa_of (k := 405) (by decide +kernel) rfl
theorem ml_RX3_36 : Cond.methodLink RX3 36 yX4_open ∈ WA := wa_of (k := 412) (by decide +kernel) rfl
theorem ml_RX3_40 : Cond.methodLink RX3 40 yX3_readTongues ∈ WA := wa_of (k := 443) (by decide +kernel) rfl
theorem ml_RX3_44 : Cond.methodLink RX3 44 yX3_readSettings ∈ WA := wa_of (k := 513) (by decide +kernel) rfl
theorem ml_RX3_48 : Cond.methodLink RX3 48 yX3_readItems ∈ WA := wa_of (k := 548) (by decide +kernel) rfl
theorem ml_RX3_53 : Cond.methodLink RX3 53 yX4_isWord ∈ WA := wa_of (k := 448) (by decide +kernel) rfl
theorem ml_RX3_60 : Cond.methodLink RX3 60 yX3_fail ∈ WA := wa_of (k := 500) (by decide +kernel) rfl
theorem ml_RX3_64 : Cond.methodLink RX3 64 yX4_step ∈ WA := wa_of (k := 504) (by decide +kernel) rfl
theorem ml_RX3_67 : Cond.methodLink RX3 67 yX3_readNumber ∈ WA := wa_of (k := 505) (by decide +kernel) rfl
theorem ml_RX3_75 : Cond.methodLink RX3 75 yX3_readSemicolon ∈ WA := wa_of (k := 509) (by decide +kernel) rfl
theorem ml_RX3_93 : Cond.methodLink RX3 93 yX3_readTongueSetting ∈ WA := wa_of (k := 518) (by decide +kernel) rfl
theorem ml_RX3_104 : Cond.methodLink RX3 104 yX3_readBeats ∈ WA := wa_of (k := 536) (by decide +kernel) rfl
theorem ml_RX3_107 : Cond.methodLink RX3 107 yX5_tells ∈ WA := wa_of (k := 522) (by decide +kernel) rfl
theorem ml_RX3_111 : Cond.methodLink RX3 111 yX5_tell ∈ WA := wa_of (k := 530) (by decide +kernel) rfl
theorem ml_RX3_115 : Cond.methodLink RX3 115 yX5_tellsBeats ∈ WA := wa_of (k := 540) (by decide +kernel) rfl
theorem ml_RX3_118 : Cond.methodLink RX3 118 yX5_tellBeats ∈ WA := wa_of (k := 544) (by decide +kernel) rfl
theorem ml_RX3_124 : Cond.methodLink RX3 124 yX3_readMark ∈ WA := wa_of (k := 553) (by decide +kernel) rfl
theorem ml_RX3_127 : Cond.methodLink RX3 127 yX3_readStrings ∈ WA := wa_of (k := 574) (by decide +kernel) rfl
theorem ml_RX3_130 : Cond.methodLink RX3 130 yX3_stringsFit ∈ WA := wa_of (k := 609) (by decide +kernel) rfl
theorem ml_RX3_137 : Cond.methodLink RX3 137 yX3_readCut ∈ WA := wa_of (k := 634) (by decide +kernel) rfl
theorem ml_RX3_140 : Cond.methodLink RX3 140 yX5_isFullOfMarks ∈ WA := wa_of (k := 557) (by decide +kernel) rfl
theorem ml_RX3_143 : Cond.methodLink RX3 143 yX5_latestBar ∈ WA := wa_of (k := 561) (by decide +kernel) rfl
theorem ml_RX3_147 : Cond.methodLink RX3 147 yX5_addMark ∈ WA := wa_of (k := 569) (by decide +kernel) rfl
theorem ml_RX3_150 : Cond.methodLink RX3 150 yX4_stringFrom ∈ WA := wa_of (k := 578) (by decide +kernel) rfl
theorem ml_RX3_153 : Cond.methodLink RX3 153 yX4_stringLength ∈ WA := wa_of (k := 582) (by decide +kernel) rfl
theorem ml_RX3_160 : Cond.methodLink RX3 160 yX8_areProper ∈ WA := wa_of (k := 586) (by decide +kernel) rfl
theorem ml_RX3_166 : Cond.methodLink RX3 166 yX5_addTitle ∈ WA := wa_of (k := 592) (by decide +kernel) rfl
theorem ml_RX3_170 : Cond.methodLink RX3 170 yX3_readFurtherString ∈ WA := wa_of (k := 603) (by decide +kernel) rfl
theorem ml_RX3_173 : Cond.methodLink RX3 173 yX5_hasTongue ∈ WA := wa_of (k := 607) (by decide +kernel) rfl
theorem ml_RX3_176 : Cond.methodLink RX3 176 yX5_setString ∈ WA := wa_of (k := 608) (by decide +kernel) rfl
theorem ml_RX3_183 : Cond.methodLink RX3 183 yX5_stringFrom ∈ WA := wa_of (k := 613) (by decide +kernel) rfl
theorem ml_RX3_186 : Cond.methodLink RX3 186 yX5_stringLength ∈ WA := wa_of (k := 617) (by decide +kernel) rfl
theorem ml_RX3_188 : Cond.methodLink RX3 188 yX5_widthOf ∈ WA := wa_of (k := 621) (by decide +kernel) rfl
theorem ml_RX3_192 : Cond.methodLink RX3 192 yX8_fit ∈ WA := wa_of (k := 626) (by decide +kernel) rfl
theorem ml_RX3_196 : Cond.methodLink RX3 196 yX5_isFullOfCuts ∈ WA := wa_of (k := 638) (by decide +kernel) rfl
theorem ml_RX3_199 : Cond.methodLink RX3 199 yX5_hasCut ∈ WA := wa_of (k := 642) (by decide +kernel) rfl
theorem ml_RX3_202 : Cond.methodLink RX3 202 yX5_addCut ∈ WA := wa_of (k := 646) (by decide +kernel) rfl
theorem ml_RX4_15 : Cond.methodLink RX4 15 Lib.Math.min.name ∈ WA := wa_of (k := 416) (by decide +kernel) rfl
theorem ml_RX4_21 : Cond.methodLink RX4 21 Lib.Math.max.name ∈ WA := wa_of (k := 419) (by decide +kernel) rfl
theorem ml_RX4_31 : Cond.methodLink RX4 31 yX4_step ∈ WA := wa_of (k := 422) (by decide +kernel) rfl
theorem ml_RX4_40 : Cond.methodLink RX4 40 yX4_takeWord ∈ WA := wa_of (k := 426) (by decide +kernel) rfl
theorem ml_RX4_43 : Cond.methodLink RX4 43 yX4_takeNumber ∈ WA := wa_of (k := 430) (by decide +kernel) rfl
theorem ml_RX4_46 : Cond.methodLink RX4 46 yX4_takeString ∈ WA := wa_of (k := 435) (by decide +kernel) rfl
theorem ml_RX4_49 : Cond.methodLink RX4 49 yX4_takeSingle ∈ WA := wa_of (k := 439) (by decide +kernel) rfl
theorem ml_RX4_57 : Cond.methodLink RX4 57 yJ0_length_8abf5 ∈ WA := wa_of (k := 452) (by decide +kernel) rfl
theorem ml_RX4_62 : Cond.methodLink RX4 62 yJ0_charAt_5068e ∈ WA := wa_of (k := 462) (by decide +kernel) rfl
theorem ml_RX5_52 : Cond.methodLink RX5 52 yJ7_fill_53178 ∈ WA := wa_of (k := 409) (by decide +kernel) rfl
theorem ml_RX5_58 : Cond.methodLink RX5 58 yX5_hasTongue ∈ WA := wa_of (k := 526) (by decide +kernel) rfl
theorem ml_RX5_62 : Cond.methodLink RX5 62 yX5_tells ∈ WA := wa_of (k := 625) (by decide +kernel) rfl
theorem ml_RX5_66 : Cond.methodLink RX5 66 yX5_tellsBeats ∈ WA := wa_of (k := 908) (by decide +kernel) rfl
theorem ml_RX5_70 : Cond.methodLink RX5 70 yX5_isFullOfMarks ∈ WA := wa_of (k := 573) (by decide +kernel) rfl
theorem ml_RX5_73 : Cond.methodLink RX5 73 yX5_setString ∈ WA := wa_of (k := 596) (by decide +kernel) rfl
theorem ml_RX5_77 : Cond.methodLink RX5 77 yX5_slotOf ∈ WA := wa_of (k := 600) (by decide +kernel) rfl
theorem ml_RX5_81 : Cond.methodLink RX5 81 yX5_barOfMark ∈ WA := wa_of (k := 565) (by decide +kernel) rfl
theorem ml_RX5_84 : Cond.methodLink RX5 84 yX5_hasTitle ∈ WA := wa_of (k := 844) (by decide +kernel) rfl
theorem ml_RX5_87 : Cond.methodLink RX5 87 yX5_barOf ∈ WA := wa_of (k := 840) (by decide +kernel) rfl
theorem ml_RX5_91 : Cond.methodLink RX5 91 yX5_endOf ∈ WA := wa_of (k := 845) (by decide +kernel) rfl
theorem ml_RX5_94 : Cond.methodLink RX5 94 yX5_hasCut ∈ WA := wa_of (k := 761) (by decide +kernel) rfl
theorem ml_RX7_30 : Cond.methodLink RX7 30 yX7_rowBegin ∈ WA := wa_of (k := 827) (by decide +kernel) rfl
theorem ml_RX7_34 : Cond.methodLink RX7 34 Lib.Math.max.name ∈ WA := wa_of (k := 831) (by decide +kernel) rfl
theorem ml_RX7_43 : Cond.methodLink RX7 43 yX7_rowLength ∈ WA := wa_of (k := 823) (by decide +kernel) rfl
theorem ml_RX8_9 : Cond.methodLink RX8 9 yX8_areWithin ∈ WA := wa_of (k := 589) (by decide +kernel) rfl
theorem ml_RX8_15 : Cond.methodLink RX8 15 yX8_leastRows ∈ WA := wa_of (k := 629) (by decide +kernel) rfl
theorem ml_RX9_35 : Cond.methodLink RX9 35 yX3_init ∈ WA := wa_of (k := 181) (by decide +kernel) rfl
theorem ml_RX9_44 : Cond.methodLink RX9 44 yX0_init ∈ WA := wa_of (k := 237) (by decide +kernel) rfl
theorem ml_RX9_51 : Cond.methodLink RX9 51 yX2_init ∈ WA := wa_of (k := 332) (by decide +kernel) rfl
theorem ml_RX9_58 : Cond.methodLink RX9 58 yX6_hasRoom ∈ WA := wa_of (k := 385) (by decide +kernel) rfl
theorem ml_RX9_62 : Cond.methodLink RX9 62 yX6_append ∈ WA := wa_of (k := 389) (by decide +kernel) rfl
theorem ml_RX9_70 : Cond.methodLink RX9 70 yX6_holds ∈ WA := wa_of (k := 397) (by decide +kernel) rfl
theorem ml_RX9_74 : Cond.methodLink RX9 74 yX3_read ∈ WA := wa_of (k := 401) (by decide +kernel) rfl
theorem ml_RX9_78 : Cond.methodLink RX9 78 yX9_takeDraft ∈ WA := wa_of (k := 650) (by decide +kernel) rfl
theorem ml_RX9_81 : Cond.methodLink RX9 81 yX0_useScript ∈ WA := wa_of (k := 654) (by decide +kernel) rfl
theorem ml_RX9_84 : Cond.methodLink RX9 84 yX2_start ∈ WA := wa_of (k := 724) (by decide +kernel) rfl
theorem ml_RX9_87 : Cond.methodLink RX9 87 yX6_clear ∈ WA := wa_of (k := 728) (by decide +kernel) rfl
theorem ml_RX9_99 : Cond.methodLink RX9 99 yX0_restoreAll ∈ WA := wa_of (k := 740) (by decide +kernel) rfl
theorem ml_RX9_102 : Cond.methodLink RX9 102 yX5_hasCut ∈ WA := wa_of (k := 748) (by decide +kernel) rfl
theorem ml_RX9_105 : Cond.methodLink RX9 105 yX2_switchCut ∈ WA := wa_of (k := 749) (by decide +kernel) rfl
theorem ml_RX9_109 : Cond.methodLink RX9 109 yX5_hasTitle ∈ WA := wa_of (k := 770) (by decide +kernel) rfl
theorem ml_RX9_112 : Cond.methodLink RX9 112 yX5_hasTongue ∈ WA := wa_of (k := 771) (by decide +kernel) rfl
theorem ml_RX9_115 : Cond.methodLink RX9 115 yX0_restore ∈ WA := wa_of (k := 772) (by decide +kernel) rfl
theorem ml_RX9_119 : Cond.methodLink RX9 119 yX8_areProper ∈ WA := wa_of (k := 773) (by decide +kernel) rfl
theorem ml_RX9_125 : Cond.methodLink RX9 125 yX5_widthOf ∈ WA := wa_of (k := 774) (by decide +kernel) rfl
theorem ml_RX9_129 : Cond.methodLink RX9 129 yX8_fit ∈ WA := wa_of (k := 775) (by decide +kernel) rfl
theorem ml_RX9_133 : Cond.methodLink RX9 133 yJ7_copyOf_9075b ∈ WA := wa_of (k := 776) (by decide +kernel) rfl
theorem ml_RX9_139 : Cond.methodLink RX9 139 yX0_replace ∈ WA := wa_of (k := 790) (by decide +kernel) rfl
theorem ml_RX9_147 : Cond.methodLink RX9 147 yX2_hear ∈ WA := wa_of (k := 798) (by decide +kernel) rfl
theorem ml_RX9_153 : Cond.methodLink RX9 153 yX2_lead ∈ WA := wa_of (k := 810) (by decide +kernel) rfl
theorem ml_RX9_163 : Cond.methodLink RX9 163 yX5_barOf ∈ WA := wa_of (k := 853) (by decide +kernel) rfl
theorem ml_RX9_166 : Cond.methodLink RX9 166 yX0_stepsOf ∈ WA := wa_of (k := 984) (by decide +kernel) rfl
theorem ml_RX9_169 : Cond.methodLink RX9 169 yX9_countedBarsOf ∈ WA := wa_of (k := 867) (by decide +kernel) rfl
theorem ml_RX9_172 : Cond.methodLink RX9 172 yX0_shortOf ∈ WA := wa_of (k := 985) (by decide +kernel) rfl
theorem ml_RX9_176 : Cond.methodLink RX9 176 yX0_isChanged ∈ WA := wa_of (k := 998) (by decide +kernel) rfl
theorem ml_RX9_184 : Cond.methodLink RX9 184 yX9_refuseUnknown ∈ WA := wa_of (k := 1025) (by decide +kernel) rfl
theorem ml_RX9_187 : Cond.methodLink RX9 187 yX0_wordingOf ∈ WA := wa_of (k := 818) (by decide +kernel) rfl
theorem ml_RX9_201 : Cond.methodLink RX9 201 yX7_signAt ∈ WA := wa_of (k := 819) (by decide +kernel) rfl
theorem ml_RX9_205 : Cond.methodLink RX9 205 yX5_titleAt ∈ WA := wa_of (k := 836) (by decide +kernel) rfl
theorem ml_RX9_208 : Cond.methodLink RX9 208 yX9_shownStep ∈ WA := wa_of (k := 849) (by decide +kernel) rfl
theorem ml_RX9_211 : Cond.methodLink RX9 211 yX9_shownPage ∈ WA := wa_of (k := 884) (by decide +kernel) rfl
theorem ml_RX9_223 : Cond.methodLink RX9 223 yX5_speedOf ∈ WA := wa_of (k := 900) (by decide +kernel) rfl
theorem ml_RX9_226 : Cond.methodLink RX9 226 yX5_beatsOfBar ∈ WA := wa_of (k := 904) (by decide +kernel) rfl
theorem ml_RX9_230 : Cond.methodLink RX9 230 yX5_endOf ∈ WA := wa_of (k := 871) (by decide +kernel) rfl
theorem ml_RX9_233 : Cond.methodLink RX9 233 yX2_countedBars ∈ WA := wa_of (k := 854) (by decide +kernel) rfl
theorem ml_RX9_236 : Cond.methodLink RX9 236 yX0_stepBehind ∈ WA := wa_of (k := 872) (by decide +kernel) rfl
theorem ml_RX9_239 : Cond.methodLink RX9 239 yX0_pageInStep ∈ WA := wa_of (k := 888) (by decide +kernel) rfl
theorem cn_RX1_76 : Cond.constant RX1 76 (1000000) ∈ WA := wa_of (k := 699) (by decide +kernel) rfl
theorem cn_RX10_41 : Cond.constant RX10 41 (80000) ∈ WA := wa_of (k := 1043) (by decide +kernel) rfl
theorem cn_RX10_136 : Cond.constant RX10 136 (1000000) ∈ WA := wa_of (k := 1302) (by decide +kernel) rfl
theorem cn_RX10_179 : Cond.constant RX10 179 (99999) ∈ WA := wa_of (k := 1245) (by decide +kernel) rfl
theorem cn_RX4_56 : Cond.constant RX4 56 (100000) ∈ WA := wa_of (k := 434) (by decide +kernel) rfl
theorem cd_X0_barsOfPage : Cond.code yX0_barsOfPage cX0_barsOfPage 6 (some .int) ∈ WA := wa_of (k := 997) (by decide +kernel) rfl
theorem sm_X0_barsOfPage : Cond.static yX0_barsOfPage ∈ WA := wa_of (k := 996) (by decide +kernel) rfl
theorem cd_X0_init : Cond.code yX0_init cX0_init 4 none ∈ WA := wa_of (k := 239) (by decide +kernel) rfl
theorem im_X0_init : Cond.instanceMethod yX0_init ∈ WA := wa_of (k := 238) (by decide +kernel) rfl
theorem cd_X0_isChanged : Cond.code yX0_isChanged cX0_isChanged 3 (some .boolean) ∈ WA := wa_of (k := 1001) (by decide +kernel) rfl
theorem im_X0_isChanged : Cond.instanceMethod yX0_isChanged ∈ WA := wa_of (k := 999) (by decide +kernel) rfl
theorem se_X0_isChanged : Cond.selects RX0 yX0_isChanged yX0_isChanged ∈ WA := wa_of (k := 1000) (by decide +kernel) rfl
theorem cd_X0_isThere : Cond.code yX0_isThere cX0_isThere 3 (some .boolean) ∈ WA := wa_of (k := 665) (by decide +kernel) rfl
theorem im_X0_isThere : Cond.instanceMethod yX0_isThere ∈ WA := wa_of (k := 664) (by decide +kernel) rfl
theorem se_X0_isThere : Cond.selects RX0 yX0_isThere yX0_isThere ∈ WA := wa_of (k := 19) (by decide +kernel) rfl
theorem cd_X0_pageInStep : Cond.code yX0_pageInStep cX0_pageInStep 4 (some .int) ∈ WA := wa_of (k := 891) (by decide +kernel) rfl
theorem im_X0_pageInStep : Cond.instanceMethod yX0_pageInStep ∈ WA := wa_of (k := 889) (by decide +kernel) rfl
theorem se_X0_pageInStep : Cond.selects RX0 yX0_pageInStep yX0_pageInStep ∈ WA := wa_of (k := 890) (by decide +kernel) rfl
theorem cd_X0_replace : Cond.code yX0_replace cX0_replace 5 none ∈ WA := wa_of (k := 793) (by decide +kernel) rfl
theorem im_X0_replace : Cond.instanceMethod yX0_replace ∈ WA := wa_of (k := 791) (by decide +kernel) rfl
theorem se_X0_replace : Cond.selects RX0 yX0_replace yX0_replace ∈ WA := wa_of (k := 792) (by decide +kernel) rfl
theorem cd_X0_restore : Cond.code yX0_restore cX0_restore 5 none ∈ WA := wa_of (k := 661) (by decide +kernel) rfl
theorem im_X0_restore : Cond.instanceMethod yX0_restore ∈ WA := wa_of (k := 659) (by decide +kernel) rfl
theorem se_X0_restore : Cond.selects RX0 yX0_restore yX0_restore ∈ WA := wa_of (k := 660) (by decide +kernel) rfl
theorem cd_X0_restoreAll : Cond.code yX0_restoreAll cX0_restoreAll 3 none ∈ WA := wa_of (k := 743) (by decide +kernel) rfl
theorem im_X0_restoreAll : Cond.instanceMethod yX0_restoreAll ∈ WA := wa_of (k := 741) (by decide +kernel) rfl
theorem se_X0_restoreAll : Cond.selects RX0 yX0_restoreAll yX0_restoreAll ∈ WA := wa_of (k := 742) (by decide +kernel) rfl
theorem cd_X0_shortOf : Cond.code yX0_shortOf cX0_shortOf 11 (some .int) ∈ WA := wa_of (k := 988) (by decide +kernel) rfl
theorem im_X0_shortOf : Cond.instanceMethod yX0_shortOf ∈ WA := wa_of (k := 986) (by decide +kernel) rfl
theorem se_X0_shortOf : Cond.selects RX0 yX0_shortOf yX0_shortOf ∈ WA := wa_of (k := 987) (by decide +kernel) rfl
theorem cd_X0_stepBehind : Cond.code yX0_stepBehind cX0_stepBehind 6 (some .int) ∈ WA := wa_of (k := 875) (by decide +kernel) rfl
theorem im_X0_stepBehind : Cond.instanceMethod yX0_stepBehind ∈ WA := wa_of (k := 873) (by decide +kernel) rfl
theorem se_X0_stepBehind : Cond.selects RX0 yX0_stepBehind yX0_stepBehind ∈ WA := wa_of (k := 874) (by decide +kernel) rfl
theorem cd_X0_stepsOf : Cond.code yX0_stepsOf cX0_stepsOf 4 (some .int) ∈ WA := wa_of (k := 879) (by decide +kernel) rfl
theorem im_X0_stepsOf : Cond.instanceMethod yX0_stepsOf ∈ WA := wa_of (k := 877) (by decide +kernel) rfl
theorem se_X0_stepsOf : Cond.selects RX0 yX0_stepsOf yX0_stepsOf ∈ WA := wa_of (k := 878) (by decide +kernel) rfl
theorem cd_X0_useScript : Cond.code yX0_useScript cX0_useScript 5 none ∈ WA := wa_of (k := 657) (by decide +kernel) rfl
theorem im_X0_useScript : Cond.instanceMethod yX0_useScript ∈ WA := wa_of (k := 655) (by decide +kernel) rfl
theorem se_X0_useScript : Cond.selects RX0 yX0_useScript yX0_useScript ∈ WA := wa_of (k := 656) (by decide +kernel) rfl
theorem cd_X0_wordingOf : Cond.code yX0_wordingOf cX0_wordingOf 3 (some (.object "TitleDesk$Wording")) ∈ WA := wa_of (k := 674) (by decide +kernel) rfl
theorem im_X0_wordingOf : Cond.instanceMethod yX0_wordingOf ∈ WA := wa_of (k := 672) (by decide +kernel) rfl
theorem se_X0_wordingOf : Cond.selects RX0 yX0_wordingOf yX0_wordingOf ∈ WA := wa_of (k := 673) (by decide +kernel) rfl
theorem cd_X10_areWords : Cond.code yX10_areWords cX10_areWords 4 (some .boolean) ∈ WA := wa_of (k := 1285) (by decide +kernel) rfl
theorem im_X10_areWords : Cond.instanceMethod yX10_areWords ∈ WA := wa_of (k := 1284) (by decide +kernel) rfl
theorem se_X10_areWords : Cond.selects RX10 yX10_areWords yX10_areWords ∈ WA := wa_of (k := 52) (by decide +kernel) rfl
theorem cd_X10_bar : Cond.code yX10_bar cX10_bar 2 (some .boolean) ∈ WA := wa_of (k := 1281) (by decide +kernel) rfl
theorem im_X10_bar : Cond.instanceMethod yX10_bar ∈ WA := wa_of (k := 1280) (by decide +kernel) rfl
theorem se_X10_bar : Cond.selects RX10 yX10_bar yX10_bar ∈ WA := wa_of (k := 51) (by decide +kernel) rfl
theorem cd_X10_bars : Cond.code yX10_bars cX10_bars 5 (some .int) ∈ WA := wa_of (k := 1378) (by decide +kernel) rfl
theorem im_X10_bars : Cond.instanceMethod yX10_bars ∈ WA := wa_of (k := 1377) (by decide +kernel) rfl
theorem se_X10_bars : Cond.selects RX10 yX10_bars yX10_bars ∈ WA := wa_of (k := 68) (by decide +kernel) rfl
theorem cd_X10_begin : Cond.code yX10_begin cX10_begin 1 none ∈ WA := wa_of (k := 1322) (by decide +kernel) rfl
theorem im_X10_begin : Cond.instanceMethod yX10_begin ∈ WA := wa_of (k := 1320) (by decide +kernel) rfl
theorem se_X10_begin : Cond.selects RX10 yX10_begin yX10_begin ∈ WA := wa_of (k := 1321) (by decide +kernel) rfl
theorem cd_X10_best : Cond.code yX10_best cX10_best 10 (some .int) ∈ WA := wa_of (k := 1306) (by decide +kernel) rfl
theorem im_X10_best : Cond.instanceMethod yX10_best ∈ WA := wa_of (k := 1305) (by decide +kernel) rfl
theorem se_X10_best : Cond.selects RX10 yX10_best yX10_best ∈ WA := wa_of (k := 57) (by decide +kernel) rfl
theorem cd_X10_change : Cond.code yX10_change cX10_change 6 (some .boolean) ∈ WA := wa_of (k := 1338) (by decide +kernel) rfl
theorem im_X10_change : Cond.instanceMethod yX10_change ∈ WA := wa_of (k := 1336) (by decide +kernel) rfl
theorem se_X10_change : Cond.selects RX10 yX10_change yX10_change ∈ WA := wa_of (k := 1337) (by decide +kernel) rfl
theorem cd_X10_count : Cond.code yX10_count cX10_count 2 (some .int) ∈ WA := wa_of (k := 1426) (by decide +kernel) rfl
theorem im_X10_count : Cond.instanceMethod yX10_count ∈ WA := wa_of (k := 1424) (by decide +kernel) rfl
theorem se_X10_count : Cond.selects RX10 yX10_count yX10_count ∈ WA := wa_of (k := 1425) (by decide +kernel) rfl
theorem cd_X10_cut : Cond.code yX10_cut cX10_cut 3 (some .boolean) ∈ WA := wa_of (k := 1326) (by decide +kernel) rfl
theorem im_X10_cut : Cond.instanceMethod yX10_cut ∈ WA := wa_of (k := 1324) (by decide +kernel) rfl
theorem se_X10_cut : Cond.selects RX10 yX10_cut yX10_cut ∈ WA := wa_of (k := 1325) (by decide +kernel) rfl
theorem cd_X10_cutItem : Cond.code yX10_cutItem cX10_cutItem 4 (some .boolean) ∈ WA := wa_of (k := 1273) (by decide +kernel) rfl
theorem im_X10_cutItem : Cond.instanceMethod yX10_cutItem ∈ WA := wa_of (k := 1272) (by decide +kernel) rfl
theorem se_X10_cutItem : Cond.selects RX10 yX10_cutItem yX10_cutItem ∈ WA := wa_of (k := 49) (by decide +kernel) rfl
theorem cd_X10_cutWords : Cond.code yX10_cutWords cX10_cutWords 4 none ∈ WA := wa_of (k := 1293) (by decide +kernel) rfl
theorem im_X10_cutWords : Cond.instanceMethod yX10_cutWords ∈ WA := wa_of (k := 1292) (by decide +kernel) rfl
theorem se_X10_cutWords : Cond.selects RX10 yX10_cutWords yX10_cutWords ∈ WA := wa_of (k := 54) (by decide +kernel) rfl
theorem cd_X10_endOf : Cond.code yX10_endOf cX10_endOf 2 (some .int) ∈ WA := wa_of (k := 1374) (by decide +kernel) rfl
theorem im_X10_endOf : Cond.instanceMethod yX10_endOf ∈ WA := wa_of (k := 1373) (by decide +kernel) rfl
theorem se_X10_endOf : Cond.selects RX10 yX10_endOf yX10_endOf ∈ WA := wa_of (k := 67) (by decide +kernel) rfl
theorem cd_X10_fails : Cond.code yX10_fails cX10_fails 2 (some .int) ∈ WA := wa_of (k := 1362) (by decide +kernel) rfl
theorem im_X10_fails : Cond.instanceMethod yX10_fails ∈ WA := wa_of (k := 1361) (by decide +kernel) rfl
theorem se_X10_fails : Cond.selects RX10 yX10_fails yX10_fails ∈ WA := wa_of (k := 64) (by decide +kernel) rfl
theorem cd_X10_fault : Cond.code yX10_fault cX10_fault 2 (some .int) ∈ WA := wa_of (k := 1318) (by decide +kernel) rfl
theorem im_X10_fault : Cond.instanceMethod yX10_fault ∈ WA := wa_of (k := 1316) (by decide +kernel) rfl
theorem se_X10_fault : Cond.selects RX10 yX10_fault yX10_fault ∈ WA := wa_of (k := 1317) (by decide +kernel) rfl
theorem cd_X10_feed : Cond.code yX10_feed cX10_feed 8 (some .int) ∈ WA := wa_of (k := 1220) (by decide +kernel) rfl
theorem im_X10_feed : Cond.instanceMethod yX10_feed ∈ WA := wa_of (k := 1218) (by decide +kernel) rfl
theorem se_X10_feed : Cond.selects RX10 yX10_feed yX10_feed ∈ WA := wa_of (k := 1219) (by decide +kernel) rfl
theorem cd_X10_fits : Cond.code yX10_fits cX10_fits 4 (some .int) ∈ WA := wa_of (k := 1297) (by decide +kernel) rfl
theorem im_X10_fits : Cond.instanceMethod yX10_fits ∈ WA := wa_of (k := 1296) (by decide +kernel) rfl
theorem se_X10_fits : Cond.selects RX10 yX10_fits yX10_fits ∈ WA := wa_of (k := 55) (by decide +kernel) rfl
theorem cd_X10_goesOn : Cond.code yX10_goesOn cX10_goesOn 1 none ∈ WA := wa_of (k := 1330) (by decide +kernel) rfl
theorem im_X10_goesOn : Cond.instanceMethod yX10_goesOn ∈ WA := wa_of (k := 1329) (by decide +kernel) rfl
theorem se_X10_goesOn : Cond.selects RX10 yX10_goesOn yX10_goesOn ∈ WA := wa_of (k := 60) (by decide +kernel) rfl
theorem cd_X10_hand : Cond.code yX10_hand cX10_hand 3 (some .int) ∈ WA := wa_of (k := 1354) (by decide +kernel) rfl
theorem im_X10_hand : Cond.instanceMethod yX10_hand ∈ WA := wa_of (k := 1352) (by decide +kernel) rfl
theorem se_X10_hand : Cond.selects RX10 yX10_hand yX10_hand ∈ WA := wa_of (k := 1353) (by decide +kernel) rfl
theorem cd_X10_heard : Cond.code yX10_heard cX10_heard 2 (some .int) ∈ WA := wa_of (k := 1350) (by decide +kernel) rfl
theorem im_X10_heard : Cond.instanceMethod yX10_heard ∈ WA := wa_of (k := 1348) (by decide +kernel) rfl
theorem se_X10_heard : Cond.selects RX10 yX10_heard yX10_heard ∈ WA := wa_of (k := 1349) (by decide +kernel) rfl
theorem cd_X10_init : Cond.code yX10_init cX10_init 1 none ∈ WA := wa_of (k := 1041) (by decide +kernel) rfl
theorem im_X10_init : Cond.instanceMethod yX10_init ∈ WA := wa_of (k := 1040) (by decide +kernel) rfl
theorem cd_X10_isCut : Cond.code yX10_isCut cX10_isCut 4 (some .boolean) ∈ WA := wa_of (k := 1334) (by decide +kernel) rfl
theorem im_X10_isCut : Cond.instanceMethod yX10_isCut ∈ WA := wa_of (k := 1333) (by decide +kernel) rfl
theorem se_X10_isCut : Cond.selects RX10 yX10_isCut yX10_isCut ∈ WA := wa_of (k := 61) (by decide +kernel) rfl
theorem cd_X10_isDigit : Cond.code yX10_isDigit cX10_isDigit 2 (some .boolean) ∈ WA := wa_of (k := 1244) (by decide +kernel) rfl
theorem im_X10_isDigit : Cond.instanceMethod yX10_isDigit ∈ WA := wa_of (k := 1243) (by decide +kernel) rfl
theorem se_X10_isDigit : Cond.selects RX10 yX10_isDigit yX10_isDigit ∈ WA := wa_of (k := 42) (by decide +kernel) rfl
theorem cd_X10_isSmall : Cond.code yX10_isSmall cX10_isSmall 2 (some .boolean) ∈ WA := wa_of (k := 1236) (by decide +kernel) rfl
theorem im_X10_isSmall : Cond.instanceMethod yX10_isSmall ∈ WA := wa_of (k := 1235) (by decide +kernel) rfl
theorem se_X10_isSmall : Cond.selects RX10 yX10_isSmall yX10_isSmall ∈ WA := wa_of (k := 40) (by decide +kernel) rfl
theorem cd_X10_isTitle : Cond.code yX10_isTitle cX10_isTitle 2 (some .boolean) ∈ WA := wa_of (k := 1342) (by decide +kernel) rfl
theorem im_X10_isTitle : Cond.instanceMethod yX10_isTitle ∈ WA := wa_of (k := 1341) (by decide +kernel) rfl
theorem se_X10_isTitle : Cond.selects RX10 yX10_isTitle yX10_isTitle ∈ WA := wa_of (k := 62) (by decide +kernel) rfl
theorem cd_X10_isTongue : Cond.code yX10_isTongue cX10_isTongue 2 (some .boolean) ∈ WA := wa_of (k := 1346) (by decide +kernel) rfl
theorem im_X10_isTongue : Cond.instanceMethod yX10_isTongue ∈ WA := wa_of (k := 1345) (by decide +kernel) rfl
theorem se_X10_isTongue : Cond.selects RX10 yX10_isTongue yX10_isTongue ∈ WA := wa_of (k := 63) (by decide +kernel) rfl
theorem cd_X10_item : Cond.code yX10_item cX10_item 2 (some .boolean) ∈ WA := wa_of (k := 1269) (by decide +kernel) rfl
theorem im_X10_item : Cond.instanceMethod yX10_item ∈ WA := wa_of (k := 1268) (by decide +kernel) rfl
theorem se_X10_item : Cond.selects RX10 yX10_item yX10_item ∈ WA := wa_of (k := 48) (by decide +kernel) rfl
theorem cd_X10_lay : Cond.code yX10_lay cX10_lay 10 (some .boolean) ∈ WA := wa_of (k := 1289) (by decide +kernel) rfl
theorem im_X10_lay : Cond.instanceMethod yX10_lay ∈ WA := wa_of (k := 1288) (by decide +kernel) rfl
theorem se_X10_lay : Cond.selects RX10 yX10_lay yX10_lay ∈ WA := wa_of (k := 53) (by decide +kernel) rfl
theorem cd_X10_layTongue : Cond.code yX10_layTongue cX10_layTongue 7 none ∈ WA := wa_of (k := 1370) (by decide +kernel) rfl
theorem im_X10_layTongue : Cond.instanceMethod yX10_layTongue ∈ WA := wa_of (k := 1369) (by decide +kernel) rfl
theorem se_X10_layTongue : Cond.selects RX10 yX10_layTongue yX10_layTongue ∈ WA := wa_of (k := 66) (by decide +kernel) rfl
theorem cd_X10_now : Cond.code yX10_now cX10_now 5 (some .int) ∈ WA := wa_of (k := 1422) (by decide +kernel) rfl
theorem im_X10_now : Cond.instanceMethod yX10_now ∈ WA := wa_of (k := 1420) (by decide +kernel) rfl
theorem se_X10_now : Cond.selects RX10 yX10_now yX10_now ∈ WA := wa_of (k := 1421) (by decide +kernel) rfl
theorem cd_X10_number : Cond.code yX10_number cX10_number 3 (some .boolean) ∈ WA := wa_of (k := 1257) (by decide +kernel) rfl
theorem im_X10_number : Cond.instanceMethod yX10_number ∈ WA := wa_of (k := 1256) (by decide +kernel) rfl
theorem se_X10_number : Cond.selects RX10 yX10_number yX10_number ∈ WA := wa_of (k := 45) (by decide +kernel) rfl
theorem cd_X10_opens : Cond.code yX10_opens cX10_opens 2 none ∈ WA := wa_of (k := 1314) (by decide +kernel) rfl
theorem im_X10_opens : Cond.instanceMethod yX10_opens ∈ WA := wa_of (k := 1313) (by decide +kernel) rfl
theorem se_X10_opens : Cond.selects RX10 yX10_opens yX10_opens ∈ WA := wa_of (k := 59) (by decide +kernel) rfl
theorem cd_X10_pageNow : Cond.code yX10_pageNow cX10_pageNow 5 (some .int) ∈ WA := wa_of (k := 1418) (by decide +kernel) rfl
theorem im_X10_pageNow : Cond.instanceMethod yX10_pageNow ∈ WA := wa_of (k := 1417) (by decide +kernel) rfl
theorem se_X10_pageNow : Cond.selects RX10 yX10_pageNow yX10_pageNow ∈ WA := wa_of (k := 74) (by decide +kernel) rfl
theorem cd_X10_pages : Cond.code yX10_pages cX10_pages 3 (some .int) ∈ WA := wa_of (k := 1390) (by decide +kernel) rfl
theorem im_X10_pages : Cond.instanceMethod yX10_pages ∈ WA := wa_of (k := 1388) (by decide +kernel) rfl
theorem se_X10_pages : Cond.selects RX10 yX10_pages yX10_pages ∈ WA := wa_of (k := 1389) (by decide +kernel) rfl
theorem cd_X10_paid : Cond.code yX10_paid cX10_paid 5 (some .int) ∈ WA := wa_of (k := 1310) (by decide +kernel) rfl
theorem im_X10_paid : Cond.instanceMethod yX10_paid ∈ WA := wa_of (k := 1309) (by decide +kernel) rfl
theorem se_X10_paid : Cond.selects RX10 yX10_paid yX10_paid ∈ WA := wa_of (k := 58) (by decide +kernel) rfl
theorem cd_X10_price : Cond.code yX10_price cX10_price 3 (some .int) ∈ WA := wa_of (k := 1394) (by decide +kernel) rfl
theorem im_X10_price : Cond.instanceMethod yX10_price ∈ WA := wa_of (k := 1392) (by decide +kernel) rfl
theorem se_X10_price : Cond.selects RX10 yX10_price yX10_price ∈ WA := wa_of (k := 1393) (by decide +kernel) rfl
theorem cd_X10_reads : Cond.code yX10_reads cX10_reads 2 (some .boolean) ∈ WA := wa_of (k := 1228) (by decide +kernel) rfl
theorem im_X10_reads : Cond.instanceMethod yX10_reads ∈ WA := wa_of (k := 1227) (by decide +kernel) rfl
theorem se_X10_reads : Cond.selects RX10 yX10_reads yX10_reads ∈ WA := wa_of (k := 38) (by decide +kernel) rfl
theorem cd_X10_rowLength : Cond.code yX10_rowLength cX10_rowLength 3 (some .int) ∈ WA := wa_of (k := 1301) (by decide +kernel) rfl
theorem im_X10_rowLength : Cond.instanceMethod yX10_rowLength ∈ WA := wa_of (k := 1300) (by decide +kernel) rfl
theorem se_X10_rowLength : Cond.selects RX10 yX10_rowLength yX10_rowLength ∈ WA := wa_of (k := 56) (by decide +kernel) rfl
theorem cd_X10_semi : Cond.code yX10_semi cX10_semi 1 (some .boolean) ∈ WA := wa_of (k := 1261) (by decide +kernel) rfl
theorem im_X10_semi : Cond.instanceMethod yX10_semi ∈ WA := wa_of (k := 1260) (by decide +kernel) rfl
theorem se_X10_semi : Cond.selects RX10 yX10_semi yX10_semi ∈ WA := wa_of (k := 46) (by decide +kernel) rfl
theorem cd_X10_setting : Cond.code yX10_setting cX10_setting 4 (some .boolean) ∈ WA := wa_of (k := 1265) (by decide +kernel) rfl
theorem im_X10_setting : Cond.instanceMethod yX10_setting ∈ WA := wa_of (k := 1264) (by decide +kernel) rfl
theorem se_X10_setting : Cond.selects RX10 yX10_setting yX10_setting ∈ WA := wa_of (k := 47) (by decide +kernel) rfl
theorem cd_X10_shortOf : Cond.code yX10_shortOf cX10_shortOf 12 (some .int) ∈ WA := wa_of (k := 1382) (by decide +kernel) rfl
theorem im_X10_shortOf : Cond.instanceMethod yX10_shortOf ∈ WA := wa_of (k := 1381) (by decide +kernel) rfl
theorem se_X10_shortOf : Cond.selects RX10 yX10_shortOf yX10_shortOf ∈ WA := wa_of (k := 69) (by decide +kernel) rfl
theorem cd_X10_shown : Cond.code yX10_shown cX10_shown 3 (some .int) ∈ WA := wa_of (k := 1406) (by decide +kernel) rfl
theorem im_X10_shown : Cond.instanceMethod yX10_shown ∈ WA := wa_of (k := 1404) (by decide +kernel) rfl
theorem se_X10_shown : Cond.selects RX10 yX10_shown yX10_shown ∈ WA := wa_of (k := 1405) (by decide +kernel) rfl
theorem cd_X10_sign : Cond.code yX10_sign cX10_sign 6 (some .int) ∈ WA := wa_of (k := 1398) (by decide +kernel) rfl
theorem im_X10_sign : Cond.instanceMethod yX10_sign ∈ WA := wa_of (k := 1396) (by decide +kernel) rfl
theorem se_X10_sign : Cond.selects RX10 yX10_sign yX10_sign ∈ WA := wa_of (k := 1397) (by decide +kernel) rfl
theorem cd_X10_signOf : Cond.code yX10_signOf cX10_signOf 8 (some .int) ∈ WA := wa_of (k := 1402) (by decide +kernel) rfl
theorem im_X10_signOf : Cond.instanceMethod yX10_signOf ∈ WA := wa_of (k := 1401) (by decide +kernel) rfl
theorem se_X10_signOf : Cond.selects RX10 yX10_signOf yX10_signOf ∈ WA := wa_of (k := 71) (by decide +kernel) rfl
theorem cd_X10_standing : Cond.code yX10_standing cX10_standing 3 (some .int) ∈ WA := wa_of (k := 1410) (by decide +kernel) rfl
theorem im_X10_standing : Cond.instanceMethod yX10_standing ∈ WA := wa_of (k := 1409) (by decide +kernel) rfl
theorem se_X10_standing : Cond.selects RX10 yX10_standing yX10_standing ∈ WA := wa_of (k := 72) (by decide +kernel) rfl
theorem cd_X10_stepAt : Cond.code yX10_stepAt cX10_stepAt 5 (some .int) ∈ WA := wa_of (k := 1386) (by decide +kernel) rfl
theorem im_X10_stepAt : Cond.instanceMethod yX10_stepAt ∈ WA := wa_of (k := 1385) (by decide +kernel) rfl
theorem se_X10_stepAt : Cond.selects RX10 yX10_stepAt yX10_stepAt ∈ WA := wa_of (k := 70) (by decide +kernel) rfl
theorem cd_X10_stepNow : Cond.code yX10_stepNow cX10_stepNow 2 (some .int) ∈ WA := wa_of (k := 1414) (by decide +kernel) rfl
theorem im_X10_stepNow : Cond.instanceMethod yX10_stepNow ∈ WA := wa_of (k := 1413) (by decide +kernel) rfl
theorem se_X10_stepNow : Cond.selects RX10 yX10_stepNow yX10_stepNow ∈ WA := wa_of (k := 73) (by decide +kernel) rfl
theorem cd_X10_steps : Cond.code yX10_steps cX10_steps 4 (some .int) ∈ WA := wa_of (k := 1366) (by decide +kernel) rfl
theorem im_X10_steps : Cond.instanceMethod yX10_steps ∈ WA := wa_of (k := 1365) (by decide +kernel) rfl
theorem se_X10_steps : Cond.selects RX10 yX10_steps yX10_steps ∈ WA := wa_of (k := 65) (by decide +kernel) rfl
theorem cd_X10_string : Cond.code yX10_string cX10_string 1 none ∈ WA := wa_of (k := 1249) (by decide +kernel) rfl
theorem im_X10_string : Cond.instanceMethod yX10_string ∈ WA := wa_of (k := 1248) (by decide +kernel) rfl
theorem se_X10_string : Cond.selects RX10 yX10_string yX10_string ∈ WA := wa_of (k := 43) (by decide +kernel) rfl
theorem cd_X10_take : Cond.code yX10_take cX10_take 2 none ∈ WA := wa_of (k := 1232) (by decide +kernel) rfl
theorem im_X10_take : Cond.instanceMethod yX10_take ∈ WA := wa_of (k := 1231) (by decide +kernel) rfl
theorem se_X10_take : Cond.selects RX10 yX10_take yX10_take ∈ WA := wa_of (k := 39) (by decide +kernel) rfl
theorem cd_X10_text : Cond.code yX10_text cX10_text 4 (some .int) ∈ WA := wa_of (k := 1224) (by decide +kernel) rfl
theorem im_X10_text : Cond.instanceMethod yX10_text ∈ WA := wa_of (k := 1222) (by decide +kernel) rfl
theorem se_X10_text : Cond.selects RX10 yX10_text yX10_text ∈ WA := wa_of (k := 1223) (by decide +kernel) rfl
theorem cd_X10_thrown : Cond.code yX10_thrown cX10_thrown 1 (some .int) ∈ WA := wa_of (k := 1216) (by decide +kernel) rfl
theorem im_X10_thrown : Cond.instanceMethod yX10_thrown ∈ WA := wa_of (k := 1214) (by decide +kernel) rfl
theorem se_X10_thrown : Cond.selects RX10 yX10_thrown yX10_thrown ∈ WA := wa_of (k := 1215) (by decide +kernel) rfl
theorem cd_X10_title : Cond.code yX10_title cX10_title 7 (some .boolean) ∈ WA := wa_of (k := 1277) (by decide +kernel) rfl
theorem im_X10_title : Cond.instanceMethod yX10_title ∈ WA := wa_of (k := 1276) (by decide +kernel) rfl
theorem se_X10_title : Cond.selects RX10 yX10_title yX10_title ∈ WA := wa_of (k := 50) (by decide +kernel) rfl
theorem cd_X10_title_ : Cond.code yX10_title_ cX10_title_ 3 (some .int) ∈ WA := wa_of (k := 1358) (by decide +kernel) rfl
theorem im_X10_title_ : Cond.instanceMethod yX10_title_ ∈ WA := wa_of (k := 1356) (by decide +kernel) rfl
theorem se_X10_title_ : Cond.selects RX10 yX10_title_ yX10_title_ ∈ WA := wa_of (k := 1357) (by decide +kernel) rfl
theorem cd_X10_wordAt : Cond.code yX10_wordAt cX10_wordAt 8 (some .int) ∈ WA := wa_of (k := 1240) (by decide +kernel) rfl
theorem im_X10_wordAt : Cond.instanceMethod yX10_wordAt ∈ WA := wa_of (k := 1239) (by decide +kernel) rfl
theorem se_X10_wordAt : Cond.selects RX10 yX10_wordAt yX10_wordAt ∈ WA := wa_of (k := 41) (by decide +kernel) rfl
theorem cd_X10_wrong : Cond.code yX10_wrong cX10_wrong 3 (some .boolean) ∈ WA := wa_of (k := 1253) (by decide +kernel) rfl
theorem im_X10_wrong : Cond.instanceMethod yX10_wrong ∈ WA := wa_of (k := 1252) (by decide +kernel) rfl
theorem se_X10_wrong : Cond.selects RX10 yX10_wrong yX10_wrong ∈ WA := wa_of (k := 44) (by decide +kernel) rfl
theorem cd_X1_fillRows : Cond.code yX1_fillRows cX1_fillRows 3 none ∈ WA := wa_of (k := 693) (by decide +kernel) rfl
theorem im_X1_fillRows : Cond.instanceMethod yX1_fillRows ∈ WA := wa_of (k := 692) (by decide +kernel) rfl
theorem se_X1_fillRows : Cond.selects RX1 yX1_fillRows yX1_fillRows ∈ WA := wa_of (k := 21) (by decide +kernel) rfl
theorem cd_X1_findWords : Cond.code yX1_findWords cX1_findWords 6 none ∈ WA := wa_of (k := 689) (by decide +kernel) rfl
theorem im_X1_findWords : Cond.instanceMethod yX1_findWords ∈ WA := wa_of (k := 688) (by decide +kernel) rfl
theorem se_X1_findWords : Cond.selects RX1 yX1_findWords yX1_findWords ∈ WA := wa_of (k := 20) (by decide +kernel) rfl
theorem cd_X1_forgetPrices : Cond.code yX1_forgetPrices cX1_forgetPrices 3 none ∈ WA := wa_of (k := 698) (by decide +kernel) rfl
theorem im_X1_forgetPrices : Cond.instanceMethod yX1_forgetPrices ∈ WA := wa_of (k := 697) (by decide +kernel) rfl
theorem se_X1_forgetPrices : Cond.selects RX1 yX1_forgetPrices yX1_forgetPrices ∈ WA := wa_of (k := 22) (by decide +kernel) rfl
theorem cd_X1_init : Cond.code yX1_init cX1_init 1 none ∈ WA := wa_of (k := 247) (by decide +kernel) rfl
theorem im_X1_init : Cond.instanceMethod yX1_init ∈ WA := wa_of (k := 246) (by decide +kernel) rfl
theorem cd_X1_layOut : Cond.code yX1_layOut cX1_layOut 4 none ∈ WA := wa_of (k := 685) (by decide +kernel) rfl
theorem im_X1_layOut : Cond.instanceMethod yX1_layOut ∈ WA := wa_of (k := 683) (by decide +kernel) rfl
theorem se_X1_layOut : Cond.selects RX1 yX1_layOut yX1_layOut ∈ WA := wa_of (k := 684) (by decide +kernel) rfl
theorem cd_X1_leastPrice : Cond.code yX1_leastPrice cX1_leastPrice 6 (some .int) ∈ WA := wa_of (k := 707) (by decide +kernel) rfl
theorem im_X1_leastPrice : Cond.instanceMethod yX1_leastPrice ∈ WA := wa_of (k := 706) (by decide +kernel) rfl
theorem se_X1_leastPrice : Cond.selects RX1 yX1_leastPrice yX1_leastPrice ∈ WA := wa_of (k := 24) (by decide +kernel) rfl
theorem cd_X1_longestStop : Cond.code yX1_longestStop cX1_longestStop 4 (some .int) ∈ WA := wa_of (k := 719) (by decide +kernel) rfl
theorem im_X1_longestStop : Cond.instanceMethod yX1_longestStop ∈ WA := wa_of (k := 718) (by decide +kernel) rfl
theorem se_X1_longestStop : Cond.selects RX1 yX1_longestStop yX1_longestStop ∈ WA := wa_of (k := 27) (by decide +kernel) rfl
theorem cd_X1_priceWays : Cond.code yX1_priceWays cX1_priceWays 3 none ∈ WA := wa_of (k := 703) (by decide +kernel) rfl
theorem im_X1_priceWays : Cond.instanceMethod yX1_priceWays ∈ WA := wa_of (k := 702) (by decide +kernel) rfl
theorem se_X1_priceWays : Cond.selects RX1 yX1_priceWays yX1_priceWays ∈ WA := wa_of (k := 23) (by decide +kernel) rfl
theorem cd_X1_priceWith : Cond.code yX1_priceWith cX1_priceWith 5 (some .int) ∈ WA := wa_of (k := 711) (by decide +kernel) rfl
theorem im_X1_priceWith : Cond.instanceMethod yX1_priceWith ∈ WA := wa_of (k := 710) (by decide +kernel) rfl
theorem se_X1_priceWith : Cond.selects RX1 yX1_priceWith yX1_priceWith ∈ WA := wa_of (k := 25) (by decide +kernel) rfl
theorem cd_X1_writeRows : Cond.code yX1_writeRows cX1_writeRows 4 none ∈ WA := wa_of (k := 715) (by decide +kernel) rfl
theorem im_X1_writeRows : Cond.instanceMethod yX1_writeRows ∈ WA := wa_of (k := 714) (by decide +kernel) rfl
theorem se_X1_writeRows : Cond.selects RX1 yX1_writeRows yX1_writeRows ∈ WA := wa_of (k := 26) (by decide +kernel) rfl
theorem cd_X2_behindCuts : Cond.code yX2_behindCuts cX2_behindCuts 5 (some .int) ∈ WA := wa_of (k := 756) (by decide +kernel) rfl
theorem im_X2_behindCuts : Cond.instanceMethod yX2_behindCuts ∈ WA := wa_of (k := 755) (by decide +kernel) rfl
theorem se_X2_behindCuts : Cond.selects RX2 yX2_behindCuts yX2_behindCuts ∈ WA := wa_of (k := 28) (by decide +kernel) rfl
theorem cd_X2_countedBars : Cond.code yX2_countedBars cX2_countedBars 8 (some .int) ∈ WA := wa_of (k := 857) (by decide +kernel) rfl
theorem im_X2_countedBars : Cond.instanceMethod yX2_countedBars ∈ WA := wa_of (k := 855) (by decide +kernel) rfl
theorem se_X2_countedBars : Cond.selects RX2 yX2_countedBars yX2_countedBars ∈ WA := wa_of (k := 856) (by decide +kernel) rfl
theorem cd_X2_goTo : Cond.code yX2_goTo cX2_goTo 2 none ∈ WA := wa_of (k := 805) (by decide +kernel) rfl
theorem im_X2_goTo : Cond.instanceMethod yX2_goTo ∈ WA := wa_of (k := 804) (by decide +kernel) rfl
theorem se_X2_goTo : Cond.selects RX2 yX2_goTo yX2_goTo ∈ WA := wa_of (k := 29) (by decide +kernel) rfl
theorem cd_X2_hear : Cond.code yX2_hear cX2_hear 2 none ∈ WA := wa_of (k := 801) (by decide +kernel) rfl
theorem im_X2_hear : Cond.instanceMethod yX2_hear ∈ WA := wa_of (k := 799) (by decide +kernel) rfl
theorem se_X2_hear : Cond.selects RX2 yX2_hear yX2_hear ∈ WA := wa_of (k := 800) (by decide +kernel) rfl
theorem cd_X2_init : Cond.code yX2_init cX2_init 2 none ∈ WA := wa_of (k := 334) (by decide +kernel) rfl
theorem im_X2_init : Cond.instanceMethod yX2_init ∈ WA := wa_of (k := 333) (by decide +kernel) rfl
theorem cd_X2_lead : Cond.code yX2_lead cX2_lead 3 none ∈ WA := wa_of (k := 813) (by decide +kernel) rfl
theorem im_X2_lead : Cond.instanceMethod yX2_lead ∈ WA := wa_of (k := 811) (by decide +kernel) rfl
theorem se_X2_lead : Cond.selects RX2 yX2_lead yX2_lead ∈ WA := wa_of (k := 812) (by decide +kernel) rfl
theorem cd_X2_nextCut : Cond.code yX2_nextCut cX2_nextCut 4 (some .int) ∈ WA := wa_of (k := 862) (by decide +kernel) rfl
theorem im_X2_nextCut : Cond.instanceMethod yX2_nextCut ∈ WA := wa_of (k := 861) (by decide +kernel) rfl
theorem se_X2_nextCut : Cond.selects RX2 yX2_nextCut yX2_nextCut ∈ WA := wa_of (k := 33) (by decide +kernel) rfl
theorem cd_X2_start : Cond.code yX2_start cX2_start 3 none ∈ WA := wa_of (k := 727) (by decide +kernel) rfl
theorem im_X2_start : Cond.instanceMethod yX2_start ∈ WA := wa_of (k := 725) (by decide +kernel) rfl
theorem se_X2_start : Cond.selects RX2 yX2_start yX2_start ∈ WA := wa_of (k := 726) (by decide +kernel) rfl
theorem cd_X2_switchCut : Cond.code yX2_switchCut cX2_switchCut 3 none ∈ WA := wa_of (k := 752) (by decide +kernel) rfl
theorem im_X2_switchCut : Cond.instanceMethod yX2_switchCut ∈ WA := wa_of (k := 750) (by decide +kernel) rfl
theorem se_X2_switchCut : Cond.selects RX2 yX2_switchCut yX2_switchCut ∈ WA := wa_of (k := 751) (by decide +kernel) rfl
theorem cd_X3_fail : Cond.code yX3_fail cX3_fail 3 (some .boolean) ∈ WA := wa_of (k := 503) (by decide +kernel) rfl
theorem im_X3_fail : Cond.instanceMethod yX3_fail ∈ WA := wa_of (k := 502) (by decide +kernel) rfl
theorem se_X3_fail : Cond.selects RX3 yX3_fail yX3_fail ∈ WA := wa_of (k := 5) (by decide +kernel) rfl
theorem cd_X3_init : Cond.code yX3_init cX3_init 3 none ∈ WA := wa_of (k := 183) (by decide +kernel) rfl
theorem im_X3_init : Cond.instanceMethod yX3_init ∈ WA := wa_of (k := 182) (by decide +kernel) rfl
theorem cd_X3_read : Cond.code yX3_read cX3_read 4 (some .boolean) ∈ WA := wa_of (k := 404) (by decide +kernel) rfl
theorem im_X3_read : Cond.instanceMethod yX3_read ∈ WA := wa_of (k := 402) (by decide +kernel) rfl
theorem se_X3_read : Cond.selects RX3 yX3_read yX3_read ∈ WA := wa_of (k := 403) (by decide +kernel) rfl
theorem cd_X3_readBeats : Cond.code yX3_readBeats cX3_readBeats 1 (some .boolean) ∈ WA := wa_of (k := 539) (by decide +kernel) rfl
theorem im_X3_readBeats : Cond.instanceMethod yX3_readBeats ∈ WA := wa_of (k := 538) (by decide +kernel) rfl
theorem se_X3_readBeats : Cond.selects RX3 yX3_readBeats yX3_readBeats ∈ WA := wa_of (k := 10) (by decide +kernel) rfl
theorem cd_X3_readCut : Cond.code yX3_readCut cX3_readCut 3 (some .boolean) ∈ WA := wa_of (k := 637) (by decide +kernel) rfl
theorem im_X3_readCut : Cond.instanceMethod yX3_readCut ∈ WA := wa_of (k := 636) (by decide +kernel) rfl
theorem se_X3_readCut : Cond.selects RX3 yX3_readCut yX3_readCut ∈ WA := wa_of (k := 17) (by decide +kernel) rfl
theorem cd_X3_readFurtherString : Cond.code yX3_readFurtherString cX3_readFurtherString 4 (some .boolean) ∈ WA := wa_of (k := 606) (by decide +kernel) rfl
theorem im_X3_readFurtherString : Cond.instanceMethod yX3_readFurtherString ∈ WA := wa_of (k := 605) (by decide +kernel) rfl
theorem se_X3_readFurtherString : Cond.selects RX3 yX3_readFurtherString yX3_readFurtherString ∈ WA := wa_of (k := 15) (by decide +kernel) rfl
theorem cd_X3_readItems : Cond.code yX3_readItems cX3_readItems 4 (some .boolean) ∈ WA := wa_of (k := 551) (by decide +kernel) rfl
theorem im_X3_readItems : Cond.instanceMethod yX3_readItems ∈ WA := wa_of (k := 550) (by decide +kernel) rfl
theorem se_X3_readItems : Cond.selects RX3 yX3_readItems yX3_readItems ∈ WA := wa_of (k := 11) (by decide +kernel) rfl
theorem cd_X3_readMark : Cond.code yX3_readMark cX3_readMark 1 (some .boolean) ∈ WA := wa_of (k := 556) (by decide +kernel) rfl
theorem im_X3_readMark : Cond.instanceMethod yX3_readMark ∈ WA := wa_of (k := 555) (by decide +kernel) rfl
theorem se_X3_readMark : Cond.selects RX3 yX3_readMark yX3_readMark ∈ WA := wa_of (k := 12) (by decide +kernel) rfl
theorem cd_X3_readNumber : Cond.code yX3_readNumber cX3_readNumber 3 (some .boolean) ∈ WA := wa_of (k := 508) (by decide +kernel) rfl
theorem im_X3_readNumber : Cond.instanceMethod yX3_readNumber ∈ WA := wa_of (k := 507) (by decide +kernel) rfl
theorem se_X3_readNumber : Cond.selects RX3 yX3_readNumber yX3_readNumber ∈ WA := wa_of (k := 6) (by decide +kernel) rfl
theorem cd_X3_readSemicolon : Cond.code yX3_readSemicolon cX3_readSemicolon 1 (some .boolean) ∈ WA := wa_of (k := 512) (by decide +kernel) rfl
theorem im_X3_readSemicolon : Cond.instanceMethod yX3_readSemicolon ∈ WA := wa_of (k := 511) (by decide +kernel) rfl
theorem se_X3_readSemicolon : Cond.selects RX3 yX3_readSemicolon yX3_readSemicolon ∈ WA := wa_of (k := 7) (by decide +kernel) rfl
theorem cd_X3_readSettings : Cond.code yX3_readSettings cX3_readSettings 4 (some .boolean) ∈ WA := wa_of (k := 516) (by decide +kernel) rfl
theorem im_X3_readSettings : Cond.instanceMethod yX3_readSettings ∈ WA := wa_of (k := 515) (by decide +kernel) rfl
theorem se_X3_readSettings : Cond.selects RX3 yX3_readSettings yX3_readSettings ∈ WA := wa_of (k := 8) (by decide +kernel) rfl
theorem cd_X3_readStrings : Cond.code yX3_readStrings cX3_readStrings 4 (some .boolean) ∈ WA := wa_of (k := 577) (by decide +kernel) rfl
theorem im_X3_readStrings : Cond.instanceMethod yX3_readStrings ∈ WA := wa_of (k := 576) (by decide +kernel) rfl
theorem se_X3_readStrings : Cond.selects RX3 yX3_readStrings yX3_readStrings ∈ WA := wa_of (k := 14) (by decide +kernel) rfl
theorem cd_X3_readTongueSetting : Cond.code yX3_readTongueSetting cX3_readTongueSetting 6 (some .boolean) ∈ WA := wa_of (k := 521) (by decide +kernel) rfl
theorem im_X3_readTongueSetting : Cond.instanceMethod yX3_readTongueSetting ∈ WA := wa_of (k := 520) (by decide +kernel) rfl
theorem se_X3_readTongueSetting : Cond.selects RX3 yX3_readTongueSetting yX3_readTongueSetting ∈ WA := wa_of (k := 9) (by decide +kernel) rfl
theorem cd_X3_readTongues : Cond.code yX3_readTongues cX3_readTongues 1 (some .boolean) ∈ WA := wa_of (k := 446) (by decide +kernel) rfl
theorem im_X3_readTongues : Cond.instanceMethod yX3_readTongues ∈ WA := wa_of (k := 445) (by decide +kernel) rfl
theorem se_X3_readTongues : Cond.selects RX3 yX3_readTongues yX3_readTongues ∈ WA := wa_of (k := 4) (by decide +kernel) rfl
theorem cd_X3_stringsFit : Cond.code yX3_stringsFit cX3_stringsFit 7 (some .boolean) ∈ WA := wa_of (k := 612) (by decide +kernel) rfl
theorem im_X3_stringsFit : Cond.instanceMethod yX3_stringsFit ∈ WA := wa_of (k := 611) (by decide +kernel) rfl
theorem se_X3_stringsFit : Cond.selects RX3 yX3_stringsFit yX3_stringsFit ∈ WA := wa_of (k := 16) (by decide +kernel) rfl
theorem cd_X4_init : Cond.code yX4_init cX4_init 2 none ∈ WA := wa_of (k := 189) (by decide +kernel) rfl
theorem im_X4_init : Cond.instanceMethod yX4_init ∈ WA := wa_of (k := 188) (by decide +kernel) rfl
theorem cd_X4_isWord : Cond.code yX4_isWord cX4_isWord 3 (some .boolean) ∈ WA := wa_of (k := 451) (by decide +kernel) rfl
theorem im_X4_isWord : Cond.instanceMethod yX4_isWord ∈ WA := wa_of (k := 449) (by decide +kernel) rfl
theorem se_X4_isWord : Cond.selects RX4 yX4_isWord yX4_isWord ∈ WA := wa_of (k := 450) (by decide +kernel) rfl
theorem cd_X4_open : Cond.code yX4_open cX4_open 3 none ∈ WA := wa_of (k := 415) (by decide +kernel) rfl
theorem im_X4_open : Cond.instanceMethod yX4_open ∈ WA := wa_of (k := 413) (by decide +kernel) rfl
theorem se_X4_open : Cond.selects RX4 yX4_open yX4_open ∈ WA := wa_of (k := 414) (by decide +kernel) rfl
theorem cd_X4_step : Cond.code yX4_step cX4_step 2 none ∈ WA := wa_of (k := 425) (by decide +kernel) rfl
theorem im_X4_step : Cond.instanceMethod yX4_step ∈ WA := wa_of (k := 423) (by decide +kernel) rfl
theorem se_X4_step : Cond.selects RX4 yX4_step yX4_step ∈ WA := wa_of (k := 424) (by decide +kernel) rfl
theorem cd_X4_stringFrom : Cond.code yX4_stringFrom cX4_stringFrom 1 (some .int) ∈ WA := wa_of (k := 581) (by decide +kernel) rfl
theorem im_X4_stringFrom : Cond.instanceMethod yX4_stringFrom ∈ WA := wa_of (k := 579) (by decide +kernel) rfl
theorem se_X4_stringFrom : Cond.selects RX4 yX4_stringFrom yX4_stringFrom ∈ WA := wa_of (k := 580) (by decide +kernel) rfl
theorem cd_X4_stringLength : Cond.code yX4_stringLength cX4_stringLength 1 (some .int) ∈ WA := wa_of (k := 585) (by decide +kernel) rfl
theorem im_X4_stringLength : Cond.instanceMethod yX4_stringLength ∈ WA := wa_of (k := 583) (by decide +kernel) rfl
theorem se_X4_stringLength : Cond.selects RX4 yX4_stringLength yX4_stringLength ∈ WA := wa_of (k := 584) (by decide +kernel) rfl
theorem cd_X4_takeNumber : Cond.code yX4_takeNumber cX4_takeNumber 1 none ∈ WA := wa_of (k := 433) (by decide +kernel) rfl
theorem im_X4_takeNumber : Cond.instanceMethod yX4_takeNumber ∈ WA := wa_of (k := 432) (by decide +kernel) rfl
theorem se_X4_takeNumber : Cond.selects RX4 yX4_takeNumber yX4_takeNumber ∈ WA := wa_of (k := 1) (by decide +kernel) rfl
theorem cd_X4_takeSingle : Cond.code yX4_takeSingle cX4_takeSingle 2 none ∈ WA := wa_of (k := 442) (by decide +kernel) rfl
theorem im_X4_takeSingle : Cond.instanceMethod yX4_takeSingle ∈ WA := wa_of (k := 441) (by decide +kernel) rfl
theorem se_X4_takeSingle : Cond.selects RX4 yX4_takeSingle yX4_takeSingle ∈ WA := wa_of (k := 3) (by decide +kernel) rfl
theorem cd_X4_takeString : Cond.code yX4_takeString cX4_takeString 2 none ∈ WA := wa_of (k := 438) (by decide +kernel) rfl
theorem im_X4_takeString : Cond.instanceMethod yX4_takeString ∈ WA := wa_of (k := 437) (by decide +kernel) rfl
theorem se_X4_takeString : Cond.selects RX4 yX4_takeString yX4_takeString ∈ WA := wa_of (k := 2) (by decide +kernel) rfl
theorem cd_X4_takeWord : Cond.code yX4_takeWord cX4_takeWord 1 none ∈ WA := wa_of (k := 429) (by decide +kernel) rfl
theorem im_X4_takeWord : Cond.instanceMethod yX4_takeWord ∈ WA := wa_of (k := 428) (by decide +kernel) rfl
theorem se_X4_takeWord : Cond.selects RX4 yX4_takeWord yX4_takeWord ∈ WA := wa_of (k := 0) (by decide +kernel) rfl
theorem cd_X5_addCut : Cond.code yX5_addCut cX5_addCut 4 none ∈ WA := wa_of (k := 649) (by decide +kernel) rfl
theorem im_X5_addCut : Cond.instanceMethod yX5_addCut ∈ WA := wa_of (k := 647) (by decide +kernel) rfl
theorem se_X5_addCut : Cond.selects RX5 yX5_addCut yX5_addCut ∈ WA := wa_of (k := 648) (by decide +kernel) rfl
theorem cd_X5_addMark : Cond.code yX5_addMark cX5_addMark 2 none ∈ WA := wa_of (k := 572) (by decide +kernel) rfl
theorem im_X5_addMark : Cond.instanceMethod yX5_addMark ∈ WA := wa_of (k := 570) (by decide +kernel) rfl
theorem se_X5_addMark : Cond.selects RX5 yX5_addMark yX5_addMark ∈ WA := wa_of (k := 571) (by decide +kernel) rfl
theorem cd_X5_addTitle : Cond.code yX5_addTitle cX5_addTitle 4 none ∈ WA := wa_of (k := 595) (by decide +kernel) rfl
theorem im_X5_addTitle : Cond.instanceMethod yX5_addTitle ∈ WA := wa_of (k := 593) (by decide +kernel) rfl
theorem se_X5_addTitle : Cond.selects RX5 yX5_addTitle yX5_addTitle ∈ WA := wa_of (k := 594) (by decide +kernel) rfl
theorem cd_X5_barOf : Cond.code yX5_barOf cX5_barOf 2 (some .int) ∈ WA := wa_of (k := 843) (by decide +kernel) rfl
theorem im_X5_barOf : Cond.instanceMethod yX5_barOf ∈ WA := wa_of (k := 841) (by decide +kernel) rfl
theorem se_X5_barOf : Cond.selects RX5 yX5_barOf yX5_barOf ∈ WA := wa_of (k := 842) (by decide +kernel) rfl
theorem cd_X5_barOfMark : Cond.code yX5_barOfMark cX5_barOfMark 3 (some .int) ∈ WA := wa_of (k := 568) (by decide +kernel) rfl
theorem im_X5_barOfMark : Cond.instanceMethod yX5_barOfMark ∈ WA := wa_of (k := 567) (by decide +kernel) rfl
theorem se_X5_barOfMark : Cond.selects RX5 yX5_barOfMark yX5_barOfMark ∈ WA := wa_of (k := 13) (by decide +kernel) rfl
theorem cd_X5_beatsOfBar : Cond.code yX5_beatsOfBar cX5_beatsOfBar 1 (some .int) ∈ WA := wa_of (k := 907) (by decide +kernel) rfl
theorem im_X5_beatsOfBar : Cond.instanceMethod yX5_beatsOfBar ∈ WA := wa_of (k := 905) (by decide +kernel) rfl
theorem se_X5_beatsOfBar : Cond.selects RX5 yX5_beatsOfBar yX5_beatsOfBar ∈ WA := wa_of (k := 906) (by decide +kernel) rfl
theorem cd_X5_clear : Cond.code yX5_clear cX5_clear 1 none ∈ WA := wa_of (k := 408) (by decide +kernel) rfl
theorem im_X5_clear : Cond.instanceMethod yX5_clear ∈ WA := wa_of (k := 406) (by decide +kernel) rfl
theorem se_X5_clear : Cond.selects RX5 yX5_clear yX5_clear ∈ WA := wa_of (k := 407) (by decide +kernel) rfl
theorem cd_X5_cutBehind : Cond.code yX5_cutBehind cX5_cutBehind 2 (some .int) ∈ WA := wa_of (k := 765) (by decide +kernel) rfl
theorem im_X5_cutBehind : Cond.instanceMethod yX5_cutBehind ∈ WA := wa_of (k := 763) (by decide +kernel) rfl
theorem se_X5_cutBehind : Cond.selects RX5 yX5_cutBehind yX5_cutBehind ∈ WA := wa_of (k := 764) (by decide +kernel) rfl
theorem cd_X5_cutFirst : Cond.code yX5_cutFirst cX5_cutFirst 2 (some .int) ∈ WA := wa_of (k := 866) (by decide +kernel) rfl
theorem im_X5_cutFirst : Cond.instanceMethod yX5_cutFirst ∈ WA := wa_of (k := 864) (by decide +kernel) rfl
theorem se_X5_cutFirst : Cond.selects RX5 yX5_cutFirst yX5_cutFirst ∈ WA := wa_of (k := 865) (by decide +kernel) rfl
theorem cd_X5_cutTakes : Cond.code yX5_cutTakes cX5_cutTakes 3 (some .boolean) ∈ WA := wa_of (k := 760) (by decide +kernel) rfl
theorem im_X5_cutTakes : Cond.instanceMethod yX5_cutTakes ∈ WA := wa_of (k := 758) (by decide +kernel) rfl
theorem se_X5_cutTakes : Cond.selects RX5 yX5_cutTakes yX5_cutTakes ∈ WA := wa_of (k := 759) (by decide +kernel) rfl
theorem cd_X5_endOf : Cond.code yX5_endOf cX5_endOf 2 (some .int) ∈ WA := wa_of (k := 848) (by decide +kernel) rfl
theorem im_X5_endOf : Cond.instanceMethod yX5_endOf ∈ WA := wa_of (k := 846) (by decide +kernel) rfl
theorem se_X5_endOf : Cond.selects RX5 yX5_endOf yX5_endOf ∈ WA := wa_of (k := 847) (by decide +kernel) rfl
theorem cd_X5_hasCut : Cond.code yX5_hasCut cX5_hasCut 2 (some .boolean) ∈ WA := wa_of (k := 645) (by decide +kernel) rfl
theorem im_X5_hasCut : Cond.instanceMethod yX5_hasCut ∈ WA := wa_of (k := 643) (by decide +kernel) rfl
theorem se_X5_hasCut : Cond.selects RX5 yX5_hasCut yX5_hasCut ∈ WA := wa_of (k := 644) (by decide +kernel) rfl
theorem cd_X5_hasTitle : Cond.code yX5_hasTitle cX5_hasTitle 2 (some .boolean) ∈ WA := wa_of (k := 669) (by decide +kernel) rfl
theorem im_X5_hasTitle : Cond.instanceMethod yX5_hasTitle ∈ WA := wa_of (k := 667) (by decide +kernel) rfl
theorem se_X5_hasTitle : Cond.selects RX5 yX5_hasTitle yX5_hasTitle ∈ WA := wa_of (k := 668) (by decide +kernel) rfl
theorem cd_X5_hasTongue : Cond.code yX5_hasTongue cX5_hasTongue 2 (some .boolean) ∈ WA := wa_of (k := 529) (by decide +kernel) rfl
theorem im_X5_hasTongue : Cond.instanceMethod yX5_hasTongue ∈ WA := wa_of (k := 527) (by decide +kernel) rfl
theorem se_X5_hasTongue : Cond.selects RX5 yX5_hasTongue yX5_hasTongue ∈ WA := wa_of (k := 528) (by decide +kernel) rfl
theorem cd_X5_init : Cond.code yX5_init cX5_init 1 none ∈ WA := wa_of (k := 127) (by decide +kernel) rfl
theorem im_X5_init : Cond.instanceMethod yX5_init ∈ WA := wa_of (k := 126) (by decide +kernel) rfl
theorem cd_X5_isFullOfCuts : Cond.code yX5_isFullOfCuts cX5_isFullOfCuts 1 (some .boolean) ∈ WA := wa_of (k := 641) (by decide +kernel) rfl
theorem im_X5_isFullOfCuts : Cond.instanceMethod yX5_isFullOfCuts ∈ WA := wa_of (k := 639) (by decide +kernel) rfl
theorem se_X5_isFullOfCuts : Cond.selects RX5 yX5_isFullOfCuts yX5_isFullOfCuts ∈ WA := wa_of (k := 640) (by decide +kernel) rfl
theorem cd_X5_isFullOfMarks : Cond.code yX5_isFullOfMarks cX5_isFullOfMarks 1 (some .boolean) ∈ WA := wa_of (k := 560) (by decide +kernel) rfl
theorem im_X5_isFullOfMarks : Cond.instanceMethod yX5_isFullOfMarks ∈ WA := wa_of (k := 558) (by decide +kernel) rfl
theorem se_X5_isFullOfMarks : Cond.selects RX5 yX5_isFullOfMarks yX5_isFullOfMarks ∈ WA := wa_of (k := 559) (by decide +kernel) rfl
theorem cd_X5_latestBar : Cond.code yX5_latestBar cX5_latestBar 1 (some .int) ∈ WA := wa_of (k := 564) (by decide +kernel) rfl
theorem im_X5_latestBar : Cond.instanceMethod yX5_latestBar ∈ WA := wa_of (k := 562) (by decide +kernel) rfl
theorem se_X5_latestBar : Cond.selects RX5 yX5_latestBar yX5_latestBar ∈ WA := wa_of (k := 563) (by decide +kernel) rfl
theorem cd_X5_setString : Cond.code yX5_setString cX5_setString 5 none ∈ WA := wa_of (k := 599) (by decide +kernel) rfl
theorem im_X5_setString : Cond.instanceMethod yX5_setString ∈ WA := wa_of (k := 597) (by decide +kernel) rfl
theorem se_X5_setString : Cond.selects RX5 yX5_setString yX5_setString ∈ WA := wa_of (k := 598) (by decide +kernel) rfl
theorem cd_X5_slotOf : Cond.code yX5_slotOf cX5_slotOf 2 (some .int) ∈ WA := wa_of (k := 602) (by decide +kernel) rfl
theorem sm_X5_slotOf : Cond.static yX5_slotOf ∈ WA := wa_of (k := 601) (by decide +kernel) rfl
theorem cd_X5_speedOf : Cond.code yX5_speedOf cX5_speedOf 2 (some .int) ∈ WA := wa_of (k := 903) (by decide +kernel) rfl
theorem im_X5_speedOf : Cond.instanceMethod yX5_speedOf ∈ WA := wa_of (k := 901) (by decide +kernel) rfl
theorem se_X5_speedOf : Cond.selects RX5 yX5_speedOf yX5_speedOf ∈ WA := wa_of (k := 902) (by decide +kernel) rfl
theorem cd_X5_stringFrom : Cond.code yX5_stringFrom cX5_stringFrom 4 (some .int) ∈ WA := wa_of (k := 616) (by decide +kernel) rfl
theorem im_X5_stringFrom : Cond.instanceMethod yX5_stringFrom ∈ WA := wa_of (k := 614) (by decide +kernel) rfl
theorem se_X5_stringFrom : Cond.selects RX5 yX5_stringFrom yX5_stringFrom ∈ WA := wa_of (k := 615) (by decide +kernel) rfl
theorem cd_X5_stringLength : Cond.code yX5_stringLength cX5_stringLength 4 (some .int) ∈ WA := wa_of (k := 620) (by decide +kernel) rfl
theorem im_X5_stringLength : Cond.instanceMethod yX5_stringLength ∈ WA := wa_of (k := 618) (by decide +kernel) rfl
theorem se_X5_stringLength : Cond.selects RX5 yX5_stringLength yX5_stringLength ∈ WA := wa_of (k := 619) (by decide +kernel) rfl
theorem cd_X5_tell : Cond.code yX5_tell cX5_tell 4 none ∈ WA := wa_of (k := 533) (by decide +kernel) rfl
theorem im_X5_tell : Cond.instanceMethod yX5_tell ∈ WA := wa_of (k := 531) (by decide +kernel) rfl
theorem se_X5_tell : Cond.selects RX5 yX5_tell yX5_tell ∈ WA := wa_of (k := 532) (by decide +kernel) rfl
theorem cd_X5_tellBeats : Cond.code yX5_tellBeats cX5_tellBeats 2 none ∈ WA := wa_of (k := 547) (by decide +kernel) rfl
theorem im_X5_tellBeats : Cond.instanceMethod yX5_tellBeats ∈ WA := wa_of (k := 545) (by decide +kernel) rfl
theorem se_X5_tellBeats : Cond.selects RX5 yX5_tellBeats yX5_tellBeats ∈ WA := wa_of (k := 546) (by decide +kernel) rfl
theorem cd_X5_tells : Cond.code yX5_tells cX5_tells 3 (some .boolean) ∈ WA := wa_of (k := 525) (by decide +kernel) rfl
theorem im_X5_tells : Cond.instanceMethod yX5_tells ∈ WA := wa_of (k := 523) (by decide +kernel) rfl
theorem se_X5_tells : Cond.selects RX5 yX5_tells yX5_tells ∈ WA := wa_of (k := 524) (by decide +kernel) rfl
theorem cd_X5_tellsBeats : Cond.code yX5_tellsBeats cX5_tellsBeats 1 (some .boolean) ∈ WA := wa_of (k := 543) (by decide +kernel) rfl
theorem im_X5_tellsBeats : Cond.instanceMethod yX5_tellsBeats ∈ WA := wa_of (k := 541) (by decide +kernel) rfl
theorem se_X5_tellsBeats : Cond.selects RX5 yX5_tellsBeats yX5_tellsBeats ∈ WA := wa_of (k := 542) (by decide +kernel) rfl
theorem cd_X5_titleAt : Cond.code yX5_titleAt cX5_titleAt 3 (some .int) ∈ WA := wa_of (k := 839) (by decide +kernel) rfl
theorem im_X5_titleAt : Cond.instanceMethod yX5_titleAt ∈ WA := wa_of (k := 837) (by decide +kernel) rfl
theorem se_X5_titleAt : Cond.selects RX5 yX5_titleAt yX5_titleAt ∈ WA := wa_of (k := 838) (by decide +kernel) rfl
theorem cd_X5_widthOf : Cond.code yX5_widthOf cX5_widthOf 2 (some .int) ∈ WA := wa_of (k := 624) (by decide +kernel) rfl
theorem im_X5_widthOf : Cond.instanceMethod yX5_widthOf ∈ WA := wa_of (k := 622) (by decide +kernel) rfl
theorem se_X5_widthOf : Cond.selects RX5 yX5_widthOf yX5_widthOf ∈ WA := wa_of (k := 623) (by decide +kernel) rfl
theorem cd_X6_append : Cond.code yX6_append cX6_append 3 none ∈ WA := wa_of (k := 392) (by decide +kernel) rfl
theorem im_X6_append : Cond.instanceMethod yX6_append ∈ WA := wa_of (k := 390) (by decide +kernel) rfl
theorem se_X6_append : Cond.selects RX6 yX6_append yX6_append ∈ WA := wa_of (k := 391) (by decide +kernel) rfl
theorem cd_X6_clear : Cond.code yX6_clear cX6_clear 1 none ∈ WA := wa_of (k := 731) (by decide +kernel) rfl
theorem im_X6_clear : Cond.instanceMethod yX6_clear ∈ WA := wa_of (k := 729) (by decide +kernel) rfl
theorem se_X6_clear : Cond.selects RX6 yX6_clear yX6_clear ∈ WA := wa_of (k := 730) (by decide +kernel) rfl
theorem cd_X6_hasRoom : Cond.code yX6_hasRoom cX6_hasRoom 1 (some .boolean) ∈ WA := wa_of (k := 388) (by decide +kernel) rfl
theorem im_X6_hasRoom : Cond.instanceMethod yX6_hasRoom ∈ WA := wa_of (k := 386) (by decide +kernel) rfl
theorem se_X6_hasRoom : Cond.selects RX6 yX6_hasRoom yX6_hasRoom ∈ WA := wa_of (k := 387) (by decide +kernel) rfl
theorem cd_X6_holds : Cond.code yX6_holds cX6_holds 2 (some .boolean) ∈ WA := wa_of (k := 400) (by decide +kernel) rfl
theorem im_X6_holds : Cond.instanceMethod yX6_holds ∈ WA := wa_of (k := 398) (by decide +kernel) rfl
theorem se_X6_holds : Cond.selects RX6 yX6_holds yX6_holds ∈ WA := wa_of (k := 399) (by decide +kernel) rfl
theorem cd_X6_init : Cond.code yX6_init cX6_init 1 none ∈ WA := wa_of (k := 111) (by decide +kernel) rfl
theorem im_X6_init : Cond.instanceMethod yX6_init ∈ WA := wa_of (k := 110) (by decide +kernel) rfl
theorem cd_X7_init : Cond.code yX7_init cX7_init 2 none ∈ WA := wa_of (k := 282) (by decide +kernel) rfl
theorem im_X7_init : Cond.instanceMethod yX7_init ∈ WA := wa_of (k := 281) (by decide +kernel) rfl
theorem cd_X7_rowBegin : Cond.code yX7_rowBegin cX7_rowBegin 2 (some .int) ∈ WA := wa_of (k := 830) (by decide +kernel) rfl
theorem im_X7_rowBegin : Cond.instanceMethod yX7_rowBegin ∈ WA := wa_of (k := 829) (by decide +kernel) rfl
theorem se_X7_rowBegin : Cond.selects RX7 yX7_rowBegin yX7_rowBegin ∈ WA := wa_of (k := 31) (by decide +kernel) rfl
theorem cd_X7_rowLength : Cond.code yX7_rowLength cX7_rowLength 2 (some .int) ∈ WA := wa_of (k := 826) (by decide +kernel) rfl
theorem im_X7_rowLength : Cond.instanceMethod yX7_rowLength ∈ WA := wa_of (k := 825) (by decide +kernel) rfl
theorem se_X7_rowLength : Cond.selects RX7 yX7_rowLength yX7_rowLength ∈ WA := wa_of (k := 30) (by decide +kernel) rfl
theorem cd_X7_setRowEnd : Cond.code yX7_setRowEnd cX7_setRowEnd 3 none ∈ WA := wa_of (k := 723) (by decide +kernel) rfl
theorem im_X7_setRowEnd : Cond.instanceMethod yX7_setRowEnd ∈ WA := wa_of (k := 721) (by decide +kernel) rfl
theorem se_X7_setRowEnd : Cond.selects RX7 yX7_setRowEnd yX7_setRowEnd ∈ WA := wa_of (k := 722) (by decide +kernel) rfl
theorem cd_X7_setString : Cond.code yX7_setString cX7_setString 5 none ∈ WA := wa_of (k := 680) (by decide +kernel) rfl
theorem im_X7_setString : Cond.instanceMethod yX7_setString ∈ WA := wa_of (k := 678) (by decide +kernel) rfl
theorem se_X7_setString : Cond.selects RX7 yX7_setString yX7_setString ∈ WA := wa_of (k := 679) (by decide +kernel) rfl
theorem cd_X7_signAt : Cond.code yX7_signAt cX7_signAt 6 (some .int) ∈ WA := wa_of (k := 822) (by decide +kernel) rfl
theorem im_X7_signAt : Cond.instanceMethod yX7_signAt ∈ WA := wa_of (k := 820) (by decide +kernel) rfl
theorem se_X7_signAt : Cond.selects RX7 yX7_signAt yX7_signAt ∈ WA := wa_of (k := 821) (by decide +kernel) rfl
theorem cd_X7_signsOf : Cond.code yX7_signsOf cX7_signsOf 2 (some .int) ∈ WA := wa_of (k := 993) (by decide +kernel) rfl
theorem im_X7_signsOf : Cond.instanceMethod yX7_signsOf ∈ WA := wa_of (k := 991) (by decide +kernel) rfl
theorem se_X7_signsOf : Cond.selects RX7 yX7_signsOf yX7_signsOf ∈ WA := wa_of (k := 992) (by decide +kernel) rfl
theorem cd_X8_areProper : Cond.code yX8_areProper cX8_areProper 6 (some .boolean) ∈ WA := wa_of (k := 588) (by decide +kernel) rfl
theorem sm_X8_areProper : Cond.static yX8_areProper ∈ WA := wa_of (k := 587) (by decide +kernel) rfl
theorem cd_X8_areWithin : Cond.code yX8_areWithin cX8_areWithin 3 (some .boolean) ∈ WA := wa_of (k := 591) (by decide +kernel) rfl
theorem sm_X8_areWithin : Cond.static yX8_areWithin ∈ WA := wa_of (k := 590) (by decide +kernel) rfl
theorem cd_X8_fit : Cond.code yX8_fit cX8_fit 5 (some .boolean) ∈ WA := wa_of (k := 628) (by decide +kernel) rfl
theorem sm_X8_fit : Cond.static yX8_fit ∈ WA := wa_of (k := 627) (by decide +kernel) rfl
theorem cd_X8_leastRows : Cond.code yX8_leastRows cX8_leastRows 8 (some .int) ∈ WA := wa_of (k := 631) (by decide +kernel) rfl
theorem sm_X8_leastRows : Cond.static yX8_leastRows ∈ WA := wa_of (k := 630) (by decide +kernel) rfl
theorem cd_X9_begin : Cond.code yX9_begin cX9_begin 1 none ∈ WA := wa_of (k := 739) (by decide +kernel) rfl
theorem im_X9_begin : Cond.instanceMethod yX9_begin ∈ WA := wa_of (k := 737) (by decide +kernel) rfl
theorem se_X9_begin : Cond.selects RX9 yX9_begin yX9_begin ∈ WA := wa_of (k := 738) (by decide +kernel) rfl
theorem cd_X9_change : Cond.code yX9_change cX9_change 4 (some .boolean) ∈ WA := wa_of (k := 769) (by decide +kernel) rfl
theorem im_X9_change : Cond.instanceMethod yX9_change ∈ WA := wa_of (k := 767) (by decide +kernel) rfl
theorem se_X9_change : Cond.selects RX9 yX9_change yX9_change ∈ WA := wa_of (k := 768) (by decide +kernel) rfl
theorem cd_X9_count : Cond.code yX9_count cX9_count 2 (some .int) ∈ WA := wa_of (k := 899) (by decide +kernel) rfl
theorem im_X9_count : Cond.instanceMethod yX9_count ∈ WA := wa_of (k := 897) (by decide +kernel) rfl
theorem se_X9_count : Cond.selects RX9 yX9_count yX9_count ∈ WA := wa_of (k := 898) (by decide +kernel) rfl
theorem cd_X9_countedBarsOf : Cond.code yX9_countedBarsOf cX9_countedBarsOf 2 (some .int) ∈ WA := wa_of (k := 870) (by decide +kernel) rfl
theorem im_X9_countedBarsOf : Cond.instanceMethod yX9_countedBarsOf ∈ WA := wa_of (k := 869) (by decide +kernel) rfl
theorem se_X9_countedBarsOf : Cond.selects RX9 yX9_countedBarsOf yX9_countedBarsOf ∈ WA := wa_of (k := 34) (by decide +kernel) rfl
theorem cd_X9_cut : Cond.code yX9_cut cX9_cut 3 (some .boolean) ∈ WA := wa_of (k := 747) (by decide +kernel) rfl
theorem im_X9_cut : Cond.instanceMethod yX9_cut ∈ WA := wa_of (k := 745) (by decide +kernel) rfl
theorem se_X9_cut : Cond.selects RX9 yX9_cut yX9_cut ∈ WA := wa_of (k := 746) (by decide +kernel) rfl
theorem cd_X9_fault : Cond.code yX9_fault cX9_fault 2 (some .int) ∈ WA := wa_of (k := 735) (by decide +kernel) rfl
theorem im_X9_fault : Cond.instanceMethod yX9_fault ∈ WA := wa_of (k := 733) (by decide +kernel) rfl
theorem se_X9_fault : Cond.selects RX9 yX9_fault yX9_fault ∈ WA := wa_of (k := 734) (by decide +kernel) rfl
theorem cd_X9_feed : Cond.code yX9_feed cX9_feed 6 (some .int) ∈ WA := wa_of (k := 384) (by decide +kernel) rfl
theorem im_X9_feed : Cond.instanceMethod yX9_feed ∈ WA := wa_of (k := 382) (by decide +kernel) rfl
theorem se_X9_feed : Cond.selects RX9 yX9_feed yX9_feed ∈ WA := wa_of (k := 383) (by decide +kernel) rfl
theorem cd_X9_hand : Cond.code yX9_hand cX9_hand 3 (some .int) ∈ WA := wa_of (k := 809) (by decide +kernel) rfl
theorem im_X9_hand : Cond.instanceMethod yX9_hand ∈ WA := wa_of (k := 807) (by decide +kernel) rfl
theorem se_X9_hand : Cond.selects RX9 yX9_hand yX9_hand ∈ WA := wa_of (k := 808) (by decide +kernel) rfl
theorem cd_X9_heard : Cond.code yX9_heard cX9_heard 2 (some .int) ∈ WA := wa_of (k := 797) (by decide +kernel) rfl
theorem im_X9_heard : Cond.instanceMethod yX9_heard ∈ WA := wa_of (k := 795) (by decide +kernel) rfl
theorem se_X9_heard : Cond.selects RX9 yX9_heard yX9_heard ∈ WA := wa_of (k := 796) (by decide +kernel) rfl
theorem cd_X9_init : Cond.code yX9_init cX9_init 1 none ∈ WA := wa_of (k := 103) (by decide +kernel) rfl
theorem im_X9_init : Cond.instanceMethod yX9_init ∈ WA := wa_of (k := 102) (by decide +kernel) rfl
theorem cd_X9_now : Cond.code yX9_now cX9_now 6 (some .int) ∈ WA := wa_of (k := 895) (by decide +kernel) rfl
theorem im_X9_now : Cond.instanceMethod yX9_now ∈ WA := wa_of (k := 893) (by decide +kernel) rfl
theorem se_X9_now : Cond.selects RX9 yX9_now yX9_now ∈ WA := wa_of (k := 894) (by decide +kernel) rfl
theorem cd_X9_pages : Cond.code yX9_pages cX9_pages 3 (some .int) ∈ WA := wa_of (k := 1024) (by decide +kernel) rfl
theorem im_X9_pages : Cond.instanceMethod yX9_pages ∈ WA := wa_of (k := 1022) (by decide +kernel) rfl
theorem se_X9_pages : Cond.selects RX9 yX9_pages yX9_pages ∈ WA := wa_of (k := 1023) (by decide +kernel) rfl
theorem cd_X9_price : Cond.code yX9_price cX9_price 3 (some .int) ∈ WA := wa_of (k := 1036) (by decide +kernel) rfl
theorem im_X9_price : Cond.instanceMethod yX9_price ∈ WA := wa_of (k := 1034) (by decide +kernel) rfl
theorem se_X9_price : Cond.selects RX9 yX9_price yX9_price ∈ WA := wa_of (k := 1035) (by decide +kernel) rfl
theorem cd_X9_refuseUnknown : Cond.code yX9_refuseUnknown cX9_refuseUnknown 3 none ∈ WA := wa_of (k := 1028) (by decide +kernel) rfl
theorem im_X9_refuseUnknown : Cond.instanceMethod yX9_refuseUnknown ∈ WA := wa_of (k := 1027) (by decide +kernel) rfl
theorem se_X9_refuseUnknown : Cond.selects RX9 yX9_refuseUnknown yX9_refuseUnknown ∈ WA := wa_of (k := 37) (by decide +kernel) rfl
theorem cd_X9_share : Cond.code yX9_share cX9_share 3 (some .int) ∈ WA := wa_of (k := 883) (by decide +kernel) rfl
theorem sm_X9_share : Cond.static yX9_share ∈ WA := wa_of (k := 882) (by decide +kernel) rfl
theorem cd_X9_shown : Cond.code yX9_shown cX9_shown 3 (some .int) ∈ WA := wa_of (k := 835) (by decide +kernel) rfl
theorem im_X9_shown : Cond.instanceMethod yX9_shown ∈ WA := wa_of (k := 833) (by decide +kernel) rfl
theorem se_X9_shown : Cond.selects RX9 yX9_shown yX9_shown ∈ WA := wa_of (k := 834) (by decide +kernel) rfl
theorem cd_X9_shownPage : Cond.code yX9_shownPage cX9_shownPage 4 (some .int) ∈ WA := wa_of (k := 887) (by decide +kernel) rfl
theorem im_X9_shownPage : Cond.instanceMethod yX9_shownPage ∈ WA := wa_of (k := 886) (by decide +kernel) rfl
theorem se_X9_shownPage : Cond.selects RX9 yX9_shownPage yX9_shownPage ∈ WA := wa_of (k := 35) (by decide +kernel) rfl
theorem cd_X9_shownStep : Cond.code yX9_shownStep cX9_shownStep 3 (some .int) ∈ WA := wa_of (k := 852) (by decide +kernel) rfl
theorem im_X9_shownStep : Cond.instanceMethod yX9_shownStep ∈ WA := wa_of (k := 851) (by decide +kernel) rfl
theorem se_X9_shownStep : Cond.selects RX9 yX9_shownStep yX9_shownStep ∈ WA := wa_of (k := 32) (by decide +kernel) rfl
theorem cd_X9_sign : Cond.code yX9_sign cX9_sign 6 (some .int) ∈ WA := wa_of (k := 817) (by decide +kernel) rfl
theorem im_X9_sign : Cond.instanceMethod yX9_sign ∈ WA := wa_of (k := 815) (by decide +kernel) rfl
theorem se_X9_sign : Cond.selects RX9 yX9_sign yX9_sign ∈ WA := wa_of (k := 816) (by decide +kernel) rfl
theorem cd_X9_takeDraft : Cond.code yX9_takeDraft cX9_takeDraft 3 none ∈ WA := wa_of (k := 653) (by decide +kernel) rfl
theorem im_X9_takeDraft : Cond.instanceMethod yX9_takeDraft ∈ WA := wa_of (k := 652) (by decide +kernel) rfl
theorem se_X9_takeDraft : Cond.selects RX9 yX9_takeDraft yX9_takeDraft ∈ WA := wa_of (k := 18) (by decide +kernel) rfl
theorem cd_X9_text : Cond.code yX9_text cX9_text 3 (some .int) ∈ WA := wa_of (k := 396) (by decide +kernel) rfl
theorem im_X9_text : Cond.instanceMethod yX9_text ∈ WA := wa_of (k := 394) (by decide +kernel) rfl
theorem se_X9_text : Cond.selects RX9 yX9_text yX9_text ∈ WA := wa_of (k := 395) (by decide +kernel) rfl
theorem cd_X9_title : Cond.code yX9_title cX9_title 3 (some .int) ∈ WA := wa_of (k := 917) (by decide +kernel) rfl
theorem im_X9_title : Cond.instanceMethod yX9_title ∈ WA := wa_of (k := 915) (by decide +kernel) rfl
theorem se_X9_title : Cond.selects RX9 yX9_title yX9_title ∈ WA := wa_of (k := 916) (by decide +kernel) rfl
theorem in_RJ0 : Cond.initialized RJ0 ∈ WA := wa_of (k := 88) (by decide +kernel) rfl
theorem in_RJ1 : Cond.initialized RJ1 ∈ WA := wa_of (k := 89) (by decide +kernel) rfl
theorem in_RJ10 : Cond.initialized RJ10 ∈ WA := wa_of (k := 93) (by decide +kernel) rfl
theorem in_RJ2 : Cond.initialized RJ2 ∈ WA := wa_of (k := 91) (by decide +kernel) rfl
theorem in_RJ3 : Cond.initialized RJ3 ∈ WA := wa_of (k := 90) (by decide +kernel) rfl
theorem in_RJ7 : Cond.initialized RJ7 ∈ WA := wa_of (k := 86) (by decide +kernel) rfl
theorem in_RJ9 : Cond.initialized RJ9 ∈ WA := wa_of (k := 87) (by decide +kernel) rfl
theorem in_RL : Cond.initialized RL ∈ WA := wa_of (k := 75) (by decide +kernel) rfl
theorem in_RX0 : Cond.initialized RX0 ∈ WA := wa_of (k := 81) (by decide +kernel) rfl
theorem in_RX1 : Cond.initialized RX1 ∈ WA := wa_of (k := 82) (by decide +kernel) rfl
theorem in_RX10 : Cond.initialized RX10 ∈ WA := wa_of (k := 85) (by decide +kernel) rfl
theorem in_RX2 : Cond.initialized RX2 ∈ WA := wa_of (k := 84) (by decide +kernel) rfl
theorem in_RX3 : Cond.initialized RX3 ∈ WA := wa_of (k := 79) (by decide +kernel) rfl
theorem in_RX4 : Cond.initialized RX4 ∈ WA := wa_of (k := 80) (by decide +kernel) rfl
theorem in_RX5 : Cond.initialized RX5 ∈ WA := wa_of (k := 78) (by decide +kernel) rfl
theorem in_RX6 : Cond.initialized RX6 ∈ WA := wa_of (k := 77) (by decide +kernel) rfl
theorem in_RX7 : Cond.initialized RX7 ∈ WA := wa_of (k := 83) (by decide +kernel) rfl
theorem in_RX8 : Cond.initialized RX8 ∈ WA := wa_of (k := 92) (by decide +kernel) rfl
theorem in_RX9 : Cond.initialized RX9 ∈ WA := wa_of (k := 76) (by decide +kernel) rfl
theorem in_Math : Cond.initialized "java/lang/Math" ∈ WA := wa_of (k := 87) (by decide +kernel) rfl
theorem sm_max : Cond.static Lib.Math.max.name ∈ WA := wa_of (k := 420) (by decide +kernel) rfl
theorem cd_max : Cond.code Lib.Math.max.name Lib.Math.max.code 2 (some .int) ∈ WA := wa_of (k := 421) (by decide +kernel) rfl
theorem sm_min : Cond.static Lib.Math.min.name ∈ WA := wa_of (k := 417) (by decide +kernel) rfl
theorem cd_min : Cond.code Lib.Math.min.name Lib.Math.min.code 2 (some .int) ∈ WA := wa_of (k := 418) (by decide +kernel) rfl
theorem inX0 : ∀ w ∈ wsX00, w ∈ WA := by
  have h : (wsX00).all goodWord = true := by decide +kernel
  have e : wsX00 = [319, 321, 323, 325, 327].filterMap (fun i => lw_tbl[i]?) := by decide +kernel
  intro w hw
  refine List.mem_filter.mpr ⟨?_, List.all_eq_true.mp h w hw⟩
  rw [e] at hw
  obtain ⟨i, -, hi⟩ := List.mem_filterMap.mp hw
  exact List.mem_of_getElem? hi
theorem inX1 : ∀ w ∈ wsX10, w ∈ WA := by
  have h : (wsX10).all goodWord = true := by decide +kernel
  have e : wsX10 = [260, 262, 264, 266, 268, 270, 272, 274, 276].filterMap (fun i => lw_tbl[i]?) := by decide +kernel
  intro w hw
  refine List.mem_filter.mpr ⟨?_, List.all_eq_true.mp h w hw⟩
  rw [e] at hw
  obtain ⟨i, -, hi⟩ := List.mem_filterMap.mp hw
  exact List.mem_of_getElem? hi
theorem inX2 : ∀ w ∈ wsX20, w ∈ WA := by
  have h : (wsX20).all goodWord = true := by decide +kernel
  have e : wsX20 = [345, 347, 349, 351, 353, 355].filterMap (fun i => lw_tbl[i]?) := by decide +kernel
  intro w hw
  refine List.mem_filter.mpr ⟨?_, List.all_eq_true.mp h w hw⟩
  rw [e] at hw
  obtain ⟨i, -, hi⟩ := List.mem_filterMap.mp hw
  exact List.mem_of_getElem? hi
theorem inX3 : ∀ w ∈ wsX30, w ∈ WA := by
  have h : (wsX30).all goodWord = true := by decide +kernel
  have e : wsX30 = [222, 224, 226, 228, 230, 232].filterMap (fun i => lw_tbl[i]?) := by decide +kernel
  intro w hw
  refine List.mem_filter.mpr ⟨?_, List.all_eq_true.mp h w hw⟩
  rw [e] at hw
  obtain ⟨i, -, hi⟩ := List.mem_filterMap.mp hw
  exact List.mem_of_getElem? hi
theorem inX4 : ∀ w ∈ wsX40, w ∈ WA := by
  have h : (wsX40).all goodWord = true := by decide +kernel
  have e : wsX40 = [201, 203, 205, 207, 209, 211].filterMap (fun i => lw_tbl[i]?) := by decide +kernel
  intro w hw
  refine List.mem_filter.mpr ⟨?_, List.all_eq_true.mp h w hw⟩
  rw [e] at hw
  obtain ⟨i, -, hi⟩ := List.mem_filterMap.mp hw
  exact List.mem_of_getElem? hi
theorem inX5 : ∀ w ∈ wsX50, w ∈ WA := by
  have h : (wsX50).all goodWord = true := by decide +kernel
  have e : wsX50 = [151, 153, 155, 157, 159, 161, 163, 165, 167, 169, 171, 173, 175].filterMap (fun i => lw_tbl[i]?) := by decide +kernel
  intro w hw
  refine List.mem_filter.mpr ⟨?_, List.all_eq_true.mp h w hw⟩
  rw [e] at hw
  obtain ⟨i, -, hi⟩ := List.mem_filterMap.mp hw
  exact List.mem_of_getElem? hi
theorem inX6 : ∀ w ∈ wsX60, w ∈ WA := by
  have h : (wsX60).all goodWord = true := by decide +kernel
  have e : wsX60 = [117, 119].filterMap (fun i => lw_tbl[i]?) := by decide +kernel
  intro w hw
  refine List.mem_filter.mpr ⟨?_, List.all_eq_true.mp h w hw⟩
  rw [e] at hw
  obtain ⟨i, -, hi⟩ := List.mem_filterMap.mp hw
  exact List.mem_of_getElem? hi
theorem inX7 : ∀ w ∈ wsX70, w ∈ WA := by
  have h : (wsX70).all goodWord = true := by decide +kernel
  have e : wsX70 = [299, 301, 303, 305, 307, 309, 311].filterMap (fun i => lw_tbl[i]?) := by decide +kernel
  intro w hw
  refine List.mem_filter.mpr ⟨?_, List.all_eq_true.mp h w hw⟩
  rw [e] at hw
  obtain ⟨i, -, hi⟩ := List.mem_filterMap.mp hw
  exact List.mem_of_getElem? hi
theorem inX9 : ∀ w ∈ wsX90, w ∈ WA := by
  have h : (wsX90).all goodWord = true := by decide +kernel
  have e : wsX90 = [366, 368, 370, 372, 374, 376, 378].filterMap (fun i => lw_tbl[i]?) := by decide +kernel
  intro w hw
  refine List.mem_filter.mpr ⟨?_, List.all_eq_true.mp h w hw⟩
  rw [e] at hw
  obtain ⟨i, -, hi⟩ := List.mem_filterMap.mp hw
  exact List.mem_of_getElem? hi
theorem inX10 : ∀ w ∈ wsX100, w ∈ WA := by
  have h : (wsX100).all goodWord = true := by decide +kernel
  have e : wsX100 = [1100, 1102, 1104, 1106, 1108, 1110, 1112, 1114, 1116, 1118, 1120, 1122, 1124, 1126, 1128, 1130, 1132, 1134, 1136, 1138, 1140, 1142, 1144, 1146, 1148, 1150, 1152, 1154, 1156, 1158, 1160, 1162, 1164, 1166, 1168, 1170, 1172, 1174, 1176, 1178, 1180, 1182, 1184, 1186, 1188, 1190, 1192, 1194, 1196, 1198, 1200, 1202, 1204, 1206, 1208, 1210].filterMap (fun i => lw_tbl[i]?) := by decide +kernel
  intro w hw
  refine List.mem_filter.mpr ⟨?_, List.all_eq_true.mp h w hw⟩
  rw [e] at hw
  obtain ⟨i, -, hi⟩ := List.mem_filterMap.mp hw
  exact List.mem_of_getElem? hi
