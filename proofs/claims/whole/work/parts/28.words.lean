theorem wd_0 : Cond.code yX9_text cX9_text 3 (some .int) ∈ lw_tbl := List.mem_append_right _ (List.mem_append_right _ (List.mem_append_left _ (List.mem_of_getElem? (i := 17) (rfl))))
theorem wd_1 : Cond.code yX9_isWithin cX9_isWithin 3 (some .boolean) ∈ lw_tbl := List.mem_append_right _ (List.mem_append_right _ (List.mem_append_left _ (List.mem_of_getElem? (i := 30) (rfl))))
theorem wd_2 : Cond.initialized RX9 ∈ lw_tbl := List.mem_append_right _ (List.mem_append_left _ (List.mem_of_getElem? (i := 1) (rfl)))
theorem wd_3 : Cond.static yX9_isWithin ∈ lw_tbl := List.mem_append_right _ (List.mem_append_right _ (List.mem_append_left _ (List.mem_of_getElem? (i := 29) (rfl))))
theorem wd_4 : Cond.code yX6_isAllowed cX6_isAllowed 1 (some .boolean) ∈ lw_tbl := List.mem_append_right _ (List.mem_append_right _ (List.mem_append_left _ (List.mem_of_getElem? (i := 27) (rfl))))
theorem wd_5 : Cond.static yX6_isAllowed ∈ lw_tbl := List.mem_append_right _ (List.mem_append_right _ (List.mem_append_left _ (List.mem_of_getElem? (i := 26) (rfl))))
theorem wd_6 : Cond.methodLink RX6 23 yX6_isAllowed ∈ lw_tbl := List.mem_append_right _ (List.mem_append_right _ (List.mem_append_left _ (List.mem_of_getElem? (i := 25) (rfl))))
theorem wd_7 : Cond.code yX6_byteOf cX6_byteOf 3 (some .int) ∈ lw_tbl := List.mem_append_right _ (List.mem_append_right _ (List.mem_append_left _ (List.mem_of_getElem? (i := 24) (rfl))))
theorem wd_8 : Cond.static yX6_byteOf ∈ lw_tbl := List.mem_append_right _ (List.mem_append_right _ (List.mem_append_left _ (List.mem_of_getElem? (i := 23) (rfl))))
theorem wd_9 : Cond.methodLink RX6 19 yX6_byteOf ∈ lw_tbl := List.mem_append_right _ (List.mem_append_right _ (List.mem_append_left _ (List.mem_of_getElem? (i := 22) (rfl))))
theorem wd_10 : Cond.fieldLink RX6 9 "GrammarTunes$Script" "characters" "[C" ∈ lw_tbl := List.mem_append_right _ (List.mem_append_left _ (List.mem_of_getElem? (i := 29) (rfl)))
theorem wd_11 : Cond.fieldLink RX6 15 "GrammarTunes$Script" "length" "I" ∈ lw_tbl := List.mem_append_right _ (List.mem_append_left _ (List.mem_of_getElem? (i := 31) (rfl)))
theorem wd_12 : Cond.code yX6_append cX6_append 6 (some .int) ∈ lw_tbl := List.mem_append_right _ (List.mem_append_right _ (List.mem_append_left _ (List.mem_of_getElem? (i := 21) (rfl))))
theorem wd_13 : Cond.initialized RX6 ∈ lw_tbl := List.mem_append_right _ (List.mem_append_left _ (List.mem_of_getElem? (i := 2) (rfl)))
theorem wd_14 : Cond.selects RX6 yX6_append yX6_append ∈ lw_tbl := List.mem_append_right _ (List.mem_append_right _ (List.mem_append_left _ (List.mem_of_getElem? (i := 20) (rfl))))
theorem wd_15 : Cond.instanceMethod yX6_append ∈ lw_tbl := List.mem_append_right _ (List.mem_append_right _ (List.mem_append_left _ (List.mem_of_getElem? (i := 19) (rfl))))
theorem wd_16 : Cond.methodLink RX9 71 yX6_append ∈ lw_tbl := List.mem_append_right _ (List.mem_append_right _ (List.mem_append_left _ (List.mem_of_getElem? (i := 18) (rfl))))
theorem wd_17 : Cond.fieldLink RX9 12 "GrammarTunes" "script" "LGrammarTunes$Script;" ∈ lw_tbl := List.mem_append_right _ (List.mem_append_left _ (List.mem_of_getElem? (i := 226) (rfl)))
theorem wd_18 : Cond.laysFinal RX9 "GrammarTunes" "toneRow" "LGrammarTunes$ToneRow;" ∈ lw_tbl := List.mem_append_right _ (List.mem_append_right _ (List.mem_append_left _ (List.mem_of_getElem? (i := 11) (rfl))))
theorem wd_19 : Cond.laysFinal RX9 "GrammarTunes" "chain" "LGrammarTunes$Chain;" ∈ lw_tbl := List.mem_append_right _ (List.mem_append_right _ (List.mem_append_left _ (List.mem_of_getElem? (i := 9) (rfl))))
theorem wd_20 : Cond.lays RX9 "GrammarTunes" "latestTries" "I" ∈ lw_tbl := List.mem_append_right _ (List.mem_append_right _ (List.mem_append_left _ (List.mem_of_getElem? (i := 7) (rfl))))
theorem wd_21 : Cond.laysFinal RX9 "GrammarTunes" "places" "LGrammarTunes$Places;" ∈ lw_tbl := List.mem_append_right _ (List.mem_append_right _ (List.mem_append_left _ (List.mem_of_getElem? (i := 5) (rfl))))
theorem wd_22 : Cond.laysFinal RX9 "GrammarTunes" "tune" "LGrammarTunes$Tune;" ∈ lw_tbl := List.mem_append_right _ (List.mem_append_right _ (List.mem_append_left _ (List.mem_of_getElem? (i := 3) (rfl))))
theorem wd_23 : Cond.laysFinal RX9 "GrammarTunes" "wanted" "[I" ∈ lw_tbl := List.mem_append_right _ (List.mem_append_right _ (List.mem_append_left _ (List.mem_of_getElem? (i := 1) (rfl))))
theorem wd_24 : Cond.lays RX9 "GrammarTunes" "spare" "LGrammarTunes$Grammar;" ∈ lw_tbl := List.mem_append_right _ (List.mem_append_left _ (List.mem_of_getElem? (i := 239) (rfl)))
theorem wd_25 : Cond.lays RX9 "GrammarTunes" "grammar" "LGrammarTunes$Grammar;" ∈ lw_tbl := List.mem_append_right _ (List.mem_append_left _ (List.mem_of_getElem? (i := 237) (rfl)))
theorem wd_26 : Cond.laysFinal RX9 "GrammarTunes" "script" "LGrammarTunes$Script;" ∈ lw_tbl := List.mem_append_right _ (List.mem_append_left _ (List.mem_of_getElem? (i := 235) (rfl)))
set_option maxRecDepth 20000 in
theorem us_X9 : ∀ w ∈ u_ws RX9 TX9 9, w ∈ lw_tbl := (show ∀ w ∈ ([Cond.laysFinal RX9 "GrammarTunes" "script" "LGrammarTunes$Script;", Cond.lays RX9 "GrammarTunes" "grammar" "LGrammarTunes$Grammar;", Cond.lays RX9 "GrammarTunes" "spare" "LGrammarTunes$Grammar;", Cond.laysFinal RX9 "GrammarTunes" "wanted" "[I", Cond.laysFinal RX9 "GrammarTunes" "tune" "LGrammarTunes$Tune;", Cond.laysFinal RX9 "GrammarTunes" "places" "LGrammarTunes$Places;", Cond.lays RX9 "GrammarTunes" "latestTries" "I", Cond.laysFinal RX9 "GrammarTunes" "chain" "LGrammarTunes$Chain;", Cond.laysFinal RX9 "GrammarTunes" "toneRow" "LGrammarTunes$ToneRow;"] : List Cond), w ∈ lw_tbl from (List.forall_mem_cons.mpr ⟨wd_26, (List.forall_mem_cons.mpr ⟨wd_25, (List.forall_mem_cons.mpr ⟨wd_24, (List.forall_mem_cons.mpr ⟨wd_23, (List.forall_mem_cons.mpr ⟨wd_22, (List.forall_mem_cons.mpr ⟨wd_21, (List.forall_mem_cons.mpr ⟨wd_20, (List.forall_mem_cons.mpr ⟨wd_19, (List.forall_mem_cons.mpr ⟨wd_18, (fun _ h => absurd h List.not_mem_nil)⟩)⟩)⟩)⟩)⟩)⟩)⟩)⟩)⟩))
theorem wd_27 : Cond.lays RX6 "GrammarTunes$Script" "length" "I" ∈ lw_tbl := List.mem_append_right _ (List.mem_append_left _ (List.mem_of_getElem? (i := 36) (rfl)))
theorem wd_28 : Cond.laysFinal RX6 "GrammarTunes$Script" "characters" "[C" ∈ lw_tbl := List.mem_append_right _ (List.mem_append_left _ (List.mem_of_getElem? (i := 34) (rfl)))
set_option maxRecDepth 20000 in
theorem us_X6 : ∀ w ∈ u_ws RX6 TX6 2, w ∈ lw_tbl := (show ∀ w ∈ ([Cond.laysFinal RX6 "GrammarTunes$Script" "characters" "[C", Cond.lays RX6 "GrammarTunes$Script" "length" "I"] : List Cond), w ∈ lw_tbl from (List.forall_mem_cons.mpr ⟨wd_28, (List.forall_mem_cons.mpr ⟨wd_27, (fun _ h => absurd h List.not_mem_nil)⟩)⟩))
set_option maxRecDepth 20000 in
theorem in_wsX9_text : ∀ w ∈ wsX9_text, w ∈ lw_tbl := by
  unfold wsX9_text
  exact (List.forall_mem_cons.mpr ⟨wd_0, (List.forall_mem_append.mpr ⟨(List.forall_mem_append.mpr ⟨(List.forall_mem_cons.mpr ⟨wd_17, (List.forall_mem_cons.mpr ⟨wd_16, (List.forall_mem_cons.mpr ⟨wd_15, (List.forall_mem_cons.mpr ⟨wd_14, (List.forall_mem_cons.mpr ⟨wd_13, (List.forall_mem_cons.mpr ⟨wd_12, (List.forall_mem_cons.mpr ⟨wd_11, (List.forall_mem_cons.mpr ⟨wd_10, (List.forall_mem_cons.mpr ⟨wd_9, (List.forall_mem_cons.mpr ⟨wd_8, (List.forall_mem_cons.mpr ⟨wd_7, (List.forall_mem_cons.mpr ⟨wd_6, (List.forall_mem_cons.mpr ⟨wd_5, (List.forall_mem_cons.mpr ⟨wd_4, (List.forall_mem_cons.mpr ⟨wd_3, (List.forall_mem_cons.mpr ⟨wd_2, (List.forall_mem_cons.mpr ⟨wd_1, (fun _ h => absurd h List.not_mem_nil)⟩)⟩)⟩)⟩)⟩)⟩)⟩)⟩)⟩)⟩)⟩)⟩)⟩)⟩)⟩)⟩)⟩), us_X9⟩), us_X6⟩)⟩)
theorem wd_29 : Cond.selects RX9 yX9_text yX9_text ∈ lw_tbl := List.mem_append_right _ (List.mem_append_right _ (List.mem_append_left _ (List.mem_of_getElem? (i := 16) (rfl))))
theorem wd_30 : Cond.instanceMethod yX9_text ∈ lw_tbl := List.mem_append_right _ (List.mem_append_right _ (List.mem_append_left _ (List.mem_of_getElem? (i := 15) (rfl))))
theorem wd_31 : Cond.methodLink RL 15 yX9_text ∈ lw_tbl := List.mem_append_right _ (List.mem_append_right _ (List.mem_append_left _ (List.mem_of_getElem? (i := 14) (rfl))))
theorem wd_32 : Cond.code yX10_text cX10_text 6 (some .int) ∈ lw_tbl := List.mem_append_right _ (List.mem_append_right _ (List.mem_append_right _ (List.mem_append_right _ (List.mem_append_left _ (List.mem_of_getElem? (i := 130) (rfl))))))
theorem wd_33 : Cond.fieldLink RX10 13 "GrammarTunesModel" "text" "[I" ∈ lw_tbl := List.mem_append_right _ (List.mem_append_right _ (List.mem_append_right _ (List.mem_append_left _ (List.mem_of_getElem? (i := 208) (rfl)))))
theorem wd_34 : Cond.fieldLink RX10 120 "GrammarTunesModel" "size" "I" ∈ lw_tbl := List.mem_append_right _ (List.mem_append_right _ (List.mem_append_right _ (List.mem_append_left _ (List.mem_of_getElem? (i := 209) (rfl)))))
theorem wd_35 : Cond.laysFinal RX10 "GrammarTunesModel" "row" "[I" ∈ lw_tbl := List.mem_append_right _ (List.mem_append_right _ (List.mem_append_right _ (List.mem_append_right _ (List.mem_append_left _ (List.mem_of_getElem? (i := 124) (rfl))))))
theorem wd_36 : Cond.lays RX10 "GrammarTunesModel" "walkedSize" "I" ∈ lw_tbl := List.mem_append_right _ (List.mem_append_right _ (List.mem_append_right _ (List.mem_append_right _ (List.mem_append_left _ (List.mem_of_getElem? (i := 122) (rfl))))))
theorem wd_37 : Cond.laysFinal RX10 "GrammarTunesModel" "walked" "[I" ∈ lw_tbl := List.mem_append_right _ (List.mem_append_right _ (List.mem_append_right _ (List.mem_append_right _ (List.mem_append_left _ (List.mem_of_getElem? (i := 120) (rfl))))))
theorem wd_38 : Cond.lays RX10 "GrammarTunesModel" "numbers" "I" ∈ lw_tbl := List.mem_append_right _ (List.mem_append_right _ (List.mem_append_right _ (List.mem_append_right _ (List.mem_append_left _ (List.mem_of_getElem? (i := 118) (rfl))))))
theorem wd_39 : Cond.laysFinal RX10 "GrammarTunesModel" "corpus" "[I" ∈ lw_tbl := List.mem_append_right _ (List.mem_append_right _ (List.mem_append_right _ (List.mem_append_right _ (List.mem_append_left _ (List.mem_of_getElem? (i := 116) (rfl))))))
theorem wd_40 : Cond.lays RX10 "GrammarTunesModel" "depth" "I" ∈ lw_tbl := List.mem_append_right _ (List.mem_append_right _ (List.mem_append_right _ (List.mem_append_right _ (List.mem_append_left _ (List.mem_of_getElem? (i := 114) (rfl))))))
theorem wd_41 : Cond.laysFinal RX10 "GrammarTunesModel" "atTried" "[J" ∈ lw_tbl := List.mem_append_right _ (List.mem_append_right _ (List.mem_append_right _ (List.mem_append_right _ (List.mem_append_left _ (List.mem_of_getElem? (i := 112) (rfl))))))
theorem wd_42 : Cond.laysFinal RX10 "GrammarTunesModel" "atCells" "[I" ∈ lw_tbl := List.mem_append_right _ (List.mem_append_right _ (List.mem_append_right _ (List.mem_append_right _ (List.mem_append_left _ (List.mem_of_getElem? (i := 110) (rfl))))))
theorem wd_43 : Cond.laysFinal RX10 "GrammarTunesModel" "atRun" "[I" ∈ lw_tbl := List.mem_append_right _ (List.mem_append_right _ (List.mem_append_right _ (List.mem_append_right _ (List.mem_append_left _ (List.mem_of_getElem? (i := 108) (rfl))))))
theorem wd_44 : Cond.laysFinal RX10 "GrammarTunesModel" "atDegree" "[I" ∈ lw_tbl := List.mem_append_right _ (List.mem_append_right _ (List.mem_append_right _ (List.mem_append_right _ (List.mem_append_left _ (List.mem_of_getElem? (i := 106) (rfl))))))
theorem wd_45 : Cond.laysFinal RX10 "GrammarTunesModel" "atPitch" "[I" ∈ lw_tbl := List.mem_append_right _ (List.mem_append_right _ (List.mem_append_right _ (List.mem_append_right _ (List.mem_append_left _ (List.mem_of_getElem? (i := 104) (rfl))))))
theorem wd_46 : Cond.laysFinal RX10 "GrammarTunesModel" "atItems" "[I" ∈ lw_tbl := List.mem_append_right _ (List.mem_append_right _ (List.mem_append_right _ (List.mem_append_right _ (List.mem_append_left _ (List.mem_of_getElem? (i := 102) (rfl))))))
theorem wd_47 : Cond.laysFinal RX10 "GrammarTunesModel" "atTime" "[I" ∈ lw_tbl := List.mem_append_right _ (List.mem_append_right _ (List.mem_append_right _ (List.mem_append_right _ (List.mem_append_left _ (List.mem_of_getElem? (i := 100) (rfl))))))
theorem wd_48 : Cond.laysFinal RX10 "GrammarTunesModel" "atCount" "[I" ∈ lw_tbl := List.mem_append_right _ (List.mem_append_right _ (List.mem_append_right _ (List.mem_append_right _ (List.mem_append_left _ (List.mem_of_getElem? (i := 98) (rfl))))))
theorem wd_49 : Cond.laysFinal RX10 "GrammarTunesModel" "atHead" "[I" ∈ lw_tbl := List.mem_append_right _ (List.mem_append_right _ (List.mem_append_right _ (List.mem_append_right _ (List.mem_append_left _ (List.mem_of_getElem? (i := 96) (rfl))))))
theorem wd_50 : Cond.laysFinal RX10 "GrammarTunesModel" "atLetter" "[I" ∈ lw_tbl := List.mem_append_right _ (List.mem_append_right _ (List.mem_append_right _ (List.mem_append_right _ (List.mem_append_left _ (List.mem_of_getElem? (i := 94) (rfl))))))
theorem wd_51 : Cond.lays RX10 "GrammarTunesModel" "run" "I" ∈ lw_tbl := List.mem_append_right _ (List.mem_append_right _ (List.mem_append_right _ (List.mem_append_right _ (List.mem_append_left _ (List.mem_of_getElem? (i := 92) (rfl))))))
theorem wd_52 : Cond.lays RX10 "GrammarTunesModel" "lastDegree" "I" ∈ lw_tbl := List.mem_append_right _ (List.mem_append_right _ (List.mem_append_right _ (List.mem_append_right _ (List.mem_append_left _ (List.mem_of_getElem? (i := 90) (rfl))))))
theorem wd_53 : Cond.lays RX10 "GrammarTunesModel" "lastPitch" "I" ∈ lw_tbl := List.mem_append_right _ (List.mem_append_right _ (List.mem_append_right _ (List.mem_append_right _ (List.mem_append_left _ (List.mem_of_getElem? (i := 88) (rfl))))))
theorem wd_54 : Cond.lays RX10 "GrammarTunesModel" "items" "I" ∈ lw_tbl := List.mem_append_right _ (List.mem_append_right _ (List.mem_append_right _ (List.mem_append_right _ (List.mem_append_left _ (List.mem_of_getElem? (i := 86) (rfl))))))
theorem wd_55 : Cond.lays RX10 "GrammarTunesModel" "time" "I" ∈ lw_tbl := List.mem_append_right _ (List.mem_append_right _ (List.mem_append_right _ (List.mem_append_right _ (List.mem_append_left _ (List.mem_of_getElem? (i := 84) (rfl))))))
theorem wd_56 : Cond.lays RX10 "GrammarTunesModel" "count" "I" ∈ lw_tbl := List.mem_append_right _ (List.mem_append_right _ (List.mem_append_right _ (List.mem_append_right _ (List.mem_append_left _ (List.mem_of_getElem? (i := 82) (rfl))))))
theorem wd_57 : Cond.lays RX10 "GrammarTunesModel" "head" "I" ∈ lw_tbl := List.mem_append_right _ (List.mem_append_right _ (List.mem_append_right _ (List.mem_append_right _ (List.mem_append_left _ (List.mem_of_getElem? (i := 80) (rfl))))))
theorem wd_58 : Cond.lays RX10 "GrammarTunesModel" "cells" "I" ∈ lw_tbl := List.mem_append_right _ (List.mem_append_right _ (List.mem_append_right _ (List.mem_append_right _ (List.mem_append_left _ (List.mem_of_getElem? (i := 78) (rfl))))))
theorem wd_59 : Cond.laysFinal RX10 "GrammarTunesModel" "cellNext" "[I" ∈ lw_tbl := List.mem_append_right _ (List.mem_append_right _ (List.mem_append_right _ (List.mem_append_right _ (List.mem_append_left _ (List.mem_of_getElem? (i := 76) (rfl))))))
theorem wd_60 : Cond.laysFinal RX10 "GrammarTunesModel" "cellSign" "[I" ∈ lw_tbl := List.mem_append_right _ (List.mem_append_right _ (List.mem_append_right _ (List.mem_append_right _ (List.mem_append_left _ (List.mem_of_getElem? (i := 74) (rfl))))))
theorem wd_61 : Cond.lays RX10 "GrammarTunesModel" "state" "J" ∈ lw_tbl := List.mem_append_right _ (List.mem_append_right _ (List.mem_append_right _ (List.mem_append_right _ (List.mem_append_left _ (List.mem_of_getElem? (i := 72) (rfl))))))
theorem wd_62 : Cond.lays RX10 "GrammarTunesModel" "tries" "I" ∈ lw_tbl := List.mem_append_right _ (List.mem_append_right _ (List.mem_append_right _ (List.mem_append_right _ (List.mem_append_left _ (List.mem_of_getElem? (i := 70) (rfl))))))
theorem wd_63 : Cond.lays RX10 "GrammarTunesModel" "tune" "I" ∈ lw_tbl := List.mem_append_right _ (List.mem_append_right _ (List.mem_append_right _ (List.mem_append_right _ (List.mem_append_left _ (List.mem_of_getElem? (i := 68) (rfl))))))
theorem wd_64 : Cond.laysFinal RX10 "GrammarTunesModel" "degree" "[I" ∈ lw_tbl := List.mem_append_right _ (List.mem_append_right _ (List.mem_append_right _ (List.mem_append_right _ (List.mem_append_left _ (List.mem_of_getElem? (i := 66) (rfl))))))
theorem wd_65 : Cond.laysFinal RX10 "GrammarTunesModel" "begin" "[I" ∈ lw_tbl := List.mem_append_right _ (List.mem_append_right _ (List.mem_append_right _ (List.mem_append_right _ (List.mem_append_left _ (List.mem_of_getElem? (i := 64) (rfl))))))
theorem wd_66 : Cond.laysFinal RX10 "GrammarTunesModel" "length" "[I" ∈ lw_tbl := List.mem_append_right _ (List.mem_append_right _ (List.mem_append_right _ (List.mem_append_right _ (List.mem_append_left _ (List.mem_of_getElem? (i := 62) (rfl))))))
theorem wd_67 : Cond.laysFinal RX10 "GrammarTunesModel" "pitch" "[I" ∈ lw_tbl := List.mem_append_right _ (List.mem_append_right _ (List.mem_append_right _ (List.mem_append_right _ (List.mem_append_left _ (List.mem_of_getElem? (i := 60) (rfl))))))
theorem wd_68 : Cond.laysFinal RX10 "GrammarTunesModel" "wanted" "[I" ∈ lw_tbl := List.mem_append_right _ (List.mem_append_right _ (List.mem_append_right _ (List.mem_append_right _ (List.mem_append_left _ (List.mem_of_getElem? (i := 58) (rfl))))))
theorem wd_69 : Cond.lays RX10 "GrammarTunesModel" "fault" "I" ∈ lw_tbl := List.mem_append_right _ (List.mem_append_right _ (List.mem_append_right _ (List.mem_append_right _ (List.mem_append_left _ (List.mem_of_getElem? (i := 56) (rfl))))))
theorem wd_70 : Cond.lays RX10 "GrammarTunesModel" "p" "I" ∈ lw_tbl := List.mem_append_right _ (List.mem_append_right _ (List.mem_append_right _ (List.mem_append_right _ (List.mem_append_left _ (List.mem_of_getElem? (i := 54) (rfl))))))
theorem wd_71 : Cond.laysFinal RX10 "GrammarTunesModel" "firstLetter" "[I" ∈ lw_tbl := List.mem_append_right _ (List.mem_append_right _ (List.mem_append_right _ (List.mem_append_right _ (List.mem_append_left _ (List.mem_of_getElem? (i := 52) (rfl))))))
theorem wd_72 : Cond.laysFinal RX10 "GrammarTunesModel" "allSigns" "[I" ∈ lw_tbl := List.mem_append_right _ (List.mem_append_right _ (List.mem_append_right _ (List.mem_append_right _ (List.mem_append_left _ (List.mem_of_getElem? (i := 50) (rfl))))))
theorem wd_73 : Cond.laysFinal RX10 "GrammarTunesModel" "allAlternatives" "[I" ∈ lw_tbl := List.mem_append_right _ (List.mem_append_right _ (List.mem_append_right _ (List.mem_append_right _ (List.mem_append_left _ (List.mem_of_getElem? (i := 48) (rfl))))))
theorem wd_74 : Cond.laysFinal RX10 "GrammarTunesModel" "rules" "[I" ∈ lw_tbl := List.mem_append_right _ (List.mem_append_right _ (List.mem_append_right _ (List.mem_append_right _ (List.mem_append_left _ (List.mem_of_getElem? (i := 46) (rfl))))))
theorem wd_75 : Cond.laysFinal RX10 "GrammarTunesModel" "signPlace" "[I" ∈ lw_tbl := List.mem_append_right _ (List.mem_append_right _ (List.mem_append_right _ (List.mem_append_right _ (List.mem_append_left _ (List.mem_of_getElem? (i := 44) (rfl))))))
theorem wd_76 : Cond.laysFinal RX10 "GrammarTunesModel" "signLength" "[I" ∈ lw_tbl := List.mem_append_right _ (List.mem_append_right _ (List.mem_append_right _ (List.mem_append_right _ (List.mem_append_left _ (List.mem_of_getElem? (i := 42) (rfl))))))
theorem wd_77 : Cond.laysFinal RX10 "GrammarTunesModel" "signOctave" "[I" ∈ lw_tbl := List.mem_append_right _ (List.mem_append_right _ (List.mem_append_right _ (List.mem_append_right _ (List.mem_append_left _ (List.mem_of_getElem? (i := 40) (rfl))))))
theorem wd_78 : Cond.laysFinal RX10 "GrammarTunesModel" "signWhat" "[I" ∈ lw_tbl := List.mem_append_right _ (List.mem_append_right _ (List.mem_append_right _ (List.mem_append_right _ (List.mem_append_left _ (List.mem_of_getElem? (i := 38) (rfl))))))
theorem wd_79 : Cond.laysFinal RX10 "GrammarTunesModel" "signKind" "[I" ∈ lw_tbl := List.mem_append_right _ (List.mem_append_right _ (List.mem_append_right _ (List.mem_append_right _ (List.mem_append_left _ (List.mem_of_getElem? (i := 36) (rfl))))))
theorem wd_80 : Cond.laysFinal RX10 "GrammarTunesModel" "signCount" "[I" ∈ lw_tbl := List.mem_append_right _ (List.mem_append_right _ (List.mem_append_right _ (List.mem_append_right _ (List.mem_append_left _ (List.mem_of_getElem? (i := 34) (rfl))))))
theorem wd_81 : Cond.laysFinal RX10 "GrammarTunesModel" "firstSign" "[I" ∈ lw_tbl := List.mem_append_right _ (List.mem_append_right _ (List.mem_append_right _ (List.mem_append_right _ (List.mem_append_left _ (List.mem_of_getElem? (i := 32) (rfl))))))
theorem wd_82 : Cond.laysFinal RX10 "GrammarTunesModel" "weight" "[I" ∈ lw_tbl := List.mem_append_right _ (List.mem_append_right _ (List.mem_append_right _ (List.mem_append_right _ (List.mem_append_left _ (List.mem_of_getElem? (i := 30) (rfl))))))
theorem wd_83 : Cond.laysFinal RX10 "GrammarTunesModel" "alternatives" "[I" ∈ lw_tbl := List.mem_append_right _ (List.mem_append_right _ (List.mem_append_right _ (List.mem_append_right _ (List.mem_append_left _ (List.mem_of_getElem? (i := 28) (rfl))))))
theorem wd_84 : Cond.laysFinal RX10 "GrammarTunesModel" "firstAlternative" "[I" ∈ lw_tbl := List.mem_append_right _ (List.mem_append_right _ (List.mem_append_right _ (List.mem_append_right _ (List.mem_append_left _ (List.mem_of_getElem? (i := 26) (rfl))))))
theorem wd_85 : Cond.lays RX10 "GrammarTunesModel" "size" "I" ∈ lw_tbl := List.mem_append_right _ (List.mem_append_right _ (List.mem_append_right _ (List.mem_append_right _ (List.mem_append_left _ (List.mem_of_getElem? (i := 24) (rfl))))))
theorem wd_86 : Cond.laysFinal RX10 "GrammarTunesModel" "text" "[I" ∈ lw_tbl := List.mem_append_right _ (List.mem_append_right _ (List.mem_append_right _ (List.mem_append_right _ (List.mem_append_left _ (List.mem_of_getElem? (i := 22) (rfl))))))
theorem wd_87 : Cond.laysFinal RX10 "GrammarTunesModel" "degrees" "[I" ∈ lw_tbl := List.mem_append_right _ (List.mem_append_right _ (List.mem_append_right _ (List.mem_append_right _ (List.mem_append_left _ (List.mem_of_getElem? (i := 20) (rfl))))))
set_option maxRecDepth 20000 in
theorem us_X10 : ∀ w ∈ u_ws RX10 TX10 53, w ∈ lw_tbl := (show ∀ w ∈ ([Cond.laysFinal RX10 "GrammarTunesModel" "degrees" "[I", Cond.laysFinal RX10 "GrammarTunesModel" "text" "[I", Cond.lays RX10 "GrammarTunesModel" "size" "I", Cond.laysFinal RX10 "GrammarTunesModel" "firstAlternative" "[I", Cond.laysFinal RX10 "GrammarTunesModel" "alternatives" "[I", Cond.laysFinal RX10 "GrammarTunesModel" "weight" "[I", Cond.laysFinal RX10 "GrammarTunesModel" "firstSign" "[I", Cond.laysFinal RX10 "GrammarTunesModel" "signCount" "[I", Cond.laysFinal RX10 "GrammarTunesModel" "signKind" "[I", Cond.laysFinal RX10 "GrammarTunesModel" "signWhat" "[I", Cond.laysFinal RX10 "GrammarTunesModel" "signOctave" "[I", Cond.laysFinal RX10 "GrammarTunesModel" "signLength" "[I", Cond.laysFinal RX10 "GrammarTunesModel" "signPlace" "[I", Cond.laysFinal RX10 "GrammarTunesModel" "rules" "[I", Cond.laysFinal RX10 "GrammarTunesModel" "allAlternatives" "[I", Cond.laysFinal RX10 "GrammarTunesModel" "allSigns" "[I", Cond.laysFinal RX10 "GrammarTunesModel" "firstLetter" "[I", Cond.lays RX10 "GrammarTunesModel" "p" "I", Cond.lays RX10 "GrammarTunesModel" "fault" "I", Cond.laysFinal RX10 "GrammarTunesModel" "wanted" "[I", Cond.laysFinal RX10 "GrammarTunesModel" "pitch" "[I", Cond.laysFinal RX10 "GrammarTunesModel" "length" "[I", Cond.laysFinal RX10 "GrammarTunesModel" "begin" "[I", Cond.laysFinal RX10 "GrammarTunesModel" "degree" "[I", Cond.lays RX10 "GrammarTunesModel" "tune" "I", Cond.lays RX10 "GrammarTunesModel" "tries" "I", Cond.lays RX10 "GrammarTunesModel" "state" "J", Cond.laysFinal RX10 "GrammarTunesModel" "cellSign" "[I", Cond.laysFinal RX10 "GrammarTunesModel" "cellNext" "[I", Cond.lays RX10 "GrammarTunesModel" "cells" "I", Cond.lays RX10 "GrammarTunesModel" "head" "I", Cond.lays RX10 "GrammarTunesModel" "count" "I", Cond.lays RX10 "GrammarTunesModel" "time" "I", Cond.lays RX10 "GrammarTunesModel" "items" "I", Cond.lays RX10 "GrammarTunesModel" "lastPitch" "I", Cond.lays RX10 "GrammarTunesModel" "lastDegree" "I", Cond.lays RX10 "GrammarTunesModel" "run" "I", Cond.laysFinal RX10 "GrammarTunesModel" "atLetter" "[I", Cond.laysFinal RX10 "GrammarTunesModel" "atHead" "[I", Cond.laysFinal RX10 "GrammarTunesModel" "atCount" "[I", Cond.laysFinal RX10 "GrammarTunesModel" "atTime" "[I", Cond.laysFinal RX10 "GrammarTunesModel" "atItems" "[I", Cond.laysFinal RX10 "GrammarTunesModel" "atPitch" "[I", Cond.laysFinal RX10 "GrammarTunesModel" "atDegree" "[I", Cond.laysFinal RX10 "GrammarTunesModel" "atRun" "[I", Cond.laysFinal RX10 "GrammarTunesModel" "atCells" "[I", Cond.laysFinal RX10 "GrammarTunesModel" "atTried" "[J", Cond.lays RX10 "GrammarTunesModel" "depth" "I", Cond.laysFinal RX10 "GrammarTunesModel" "corpus" "[I", Cond.lays RX10 "GrammarTunesModel" "numbers" "I", Cond.laysFinal RX10 "GrammarTunesModel" "walked" "[I", Cond.lays RX10 "GrammarTunesModel" "walkedSize" "I", Cond.laysFinal RX10 "GrammarTunesModel" "row" "[I"] : List Cond), w ∈ lw_tbl from (List.forall_mem_cons.mpr ⟨wd_87, (List.forall_mem_cons.mpr ⟨wd_86, (List.forall_mem_cons.mpr ⟨wd_85, (List.forall_mem_cons.mpr ⟨wd_84, (List.forall_mem_cons.mpr ⟨wd_83, (List.forall_mem_cons.mpr ⟨wd_82, (List.forall_mem_cons.mpr ⟨wd_81, (List.forall_mem_cons.mpr ⟨wd_80, (List.forall_mem_cons.mpr ⟨wd_79, (List.forall_mem_cons.mpr ⟨wd_78, (List.forall_mem_cons.mpr ⟨wd_77, (List.forall_mem_cons.mpr ⟨wd_76, (List.forall_mem_cons.mpr ⟨wd_75, (List.forall_mem_cons.mpr ⟨wd_74, (List.forall_mem_cons.mpr ⟨wd_73, (List.forall_mem_cons.mpr ⟨wd_72, (List.forall_mem_cons.mpr ⟨wd_71, (List.forall_mem_cons.mpr ⟨wd_70, (List.forall_mem_cons.mpr ⟨wd_69, (List.forall_mem_cons.mpr ⟨wd_68, (List.forall_mem_cons.mpr ⟨wd_67, (List.forall_mem_cons.mpr ⟨wd_66, (List.forall_mem_cons.mpr ⟨wd_65, (List.forall_mem_cons.mpr ⟨wd_64, (List.forall_mem_cons.mpr ⟨wd_63, (List.forall_mem_cons.mpr ⟨wd_62, (List.forall_mem_cons.mpr ⟨wd_61, (List.forall_mem_cons.mpr ⟨wd_60, (List.forall_mem_cons.mpr ⟨wd_59, (List.forall_mem_cons.mpr ⟨wd_58, (List.forall_mem_cons.mpr ⟨wd_57, (List.forall_mem_cons.mpr ⟨wd_56, (List.forall_mem_cons.mpr ⟨wd_55, (List.forall_mem_cons.mpr ⟨wd_54, (List.forall_mem_cons.mpr ⟨wd_53, (List.forall_mem_cons.mpr ⟨wd_52, (List.forall_mem_cons.mpr ⟨wd_51, (List.forall_mem_cons.mpr ⟨wd_50, (List.forall_mem_cons.mpr ⟨wd_49, (List.forall_mem_cons.mpr ⟨wd_48, (List.forall_mem_cons.mpr ⟨wd_47, (List.forall_mem_cons.mpr ⟨wd_46, (List.forall_mem_cons.mpr ⟨wd_45, (List.forall_mem_cons.mpr ⟨wd_44, (List.forall_mem_cons.mpr ⟨wd_43, (List.forall_mem_cons.mpr ⟨wd_42, (List.forall_mem_cons.mpr ⟨wd_41, (List.forall_mem_cons.mpr ⟨wd_40, (List.forall_mem_cons.mpr ⟨wd_39, (List.forall_mem_cons.mpr ⟨wd_38, (List.forall_mem_cons.mpr ⟨wd_37, (List.forall_mem_cons.mpr ⟨wd_36, (List.forall_mem_cons.mpr ⟨wd_35, (fun _ h => absurd h List.not_mem_nil)⟩)⟩)⟩)⟩)⟩)⟩)⟩)⟩)⟩)⟩)⟩)⟩)⟩)⟩)⟩)⟩)⟩)⟩)⟩)⟩)⟩)⟩)⟩)⟩)⟩)⟩)⟩)⟩)⟩)⟩)⟩)⟩)⟩)⟩)⟩)⟩)⟩)⟩)⟩)⟩)⟩)⟩)⟩)⟩)⟩)⟩)⟩)⟩)⟩)⟩)⟩)⟩)⟩))
set_option maxRecDepth 20000 in
theorem in_wsX10_text : ∀ w ∈ wsX10_text, w ∈ lw_tbl := by
  unfold wsX10_text
  exact (List.forall_mem_cons.mpr ⟨wd_32, (List.forall_mem_append.mpr ⟨(List.forall_mem_cons.mpr ⟨wd_34, (List.forall_mem_cons.mpr ⟨wd_33, (fun _ h => absurd h List.not_mem_nil)⟩)⟩), us_X10⟩)⟩)
theorem wd_88 : Cond.initialized RX10 ∈ lw_tbl := List.mem_append_right _ (List.mem_append_left _ (List.mem_of_getElem? (i := 9) (rfl)))
theorem wd_89 : Cond.selects RX10 yX10_text yX10_text ∈ lw_tbl := List.mem_append_right _ (List.mem_append_right _ (List.mem_append_right _ (List.mem_append_right _ (List.mem_append_left _ (List.mem_of_getElem? (i := 129) (rfl))))))
theorem wd_90 : Cond.instanceMethod yX10_text ∈ lw_tbl := List.mem_append_right _ (List.mem_append_right _ (List.mem_append_right _ (List.mem_append_right _ (List.mem_append_left _ (List.mem_of_getElem? (i := 128) (rfl))))))
theorem wd_91 : Cond.methodLink RL 19 yX10_text ∈ lw_tbl := List.mem_append_right _ (List.mem_append_right _ (List.mem_append_right _ (List.mem_append_right _ (List.mem_append_left _ (List.mem_of_getElem? (i := 127) (rfl))))))
theorem wd_92 : Cond.code yX9_cut cX9_cut 2 (some .int) ∈ lw_tbl := List.mem_append_right _ (List.mem_append_right _ (List.mem_append_left _ (List.mem_of_getElem? (i := 34) (rfl))))
theorem wd_93 : Cond.code yX6_shorten cX6_shorten 3 (some .int) ∈ lw_tbl := List.mem_append_right _ (List.mem_append_right _ (List.mem_append_left _ (List.mem_of_getElem? (i := 38) (rfl))))
theorem wd_94 : Cond.selects RX6 yX6_shorten yX6_shorten ∈ lw_tbl := List.mem_append_right _ (List.mem_append_right _ (List.mem_append_left _ (List.mem_of_getElem? (i := 37) (rfl))))
theorem wd_95 : Cond.instanceMethod yX6_shorten ∈ lw_tbl := List.mem_append_right _ (List.mem_append_right _ (List.mem_append_left _ (List.mem_of_getElem? (i := 36) (rfl))))
theorem wd_96 : Cond.methodLink RX9 75 yX6_shorten ∈ lw_tbl := List.mem_append_right _ (List.mem_append_right _ (List.mem_append_left _ (List.mem_of_getElem? (i := 35) (rfl))))
set_option maxRecDepth 20000 in
theorem in_wsX9_cut : ∀ w ∈ wsX9_cut, w ∈ lw_tbl := by
  unfold wsX9_cut
  exact (List.forall_mem_cons.mpr ⟨wd_92, (List.forall_mem_append.mpr ⟨(List.forall_mem_append.mpr ⟨(List.forall_mem_cons.mpr ⟨wd_17, (List.forall_mem_cons.mpr ⟨wd_96, (List.forall_mem_cons.mpr ⟨wd_95, (List.forall_mem_cons.mpr ⟨wd_94, (List.forall_mem_cons.mpr ⟨wd_13, (List.forall_mem_cons.mpr ⟨wd_93, (List.forall_mem_cons.mpr ⟨wd_11, (List.forall_mem_cons.mpr ⟨wd_3, (List.forall_mem_cons.mpr ⟨wd_2, (List.forall_mem_cons.mpr ⟨wd_1, (fun _ h => absurd h List.not_mem_nil)⟩)⟩)⟩)⟩)⟩)⟩)⟩)⟩)⟩)⟩), us_X9⟩), us_X6⟩)⟩)
theorem wd_97 : Cond.selects RX9 yX9_cut yX9_cut ∈ lw_tbl := List.mem_append_right _ (List.mem_append_right _ (List.mem_append_left _ (List.mem_of_getElem? (i := 33) (rfl))))
theorem wd_98 : Cond.instanceMethod yX9_cut ∈ lw_tbl := List.mem_append_right _ (List.mem_append_right _ (List.mem_append_left _ (List.mem_of_getElem? (i := 32) (rfl))))
theorem wd_99 : Cond.methodLink RL 20 yX9_cut ∈ lw_tbl := List.mem_append_right _ (List.mem_append_right _ (List.mem_append_left _ (List.mem_of_getElem? (i := 31) (rfl))))
theorem wd_100 : Cond.code yX10_cut cX10_cut 3 (some .int) ∈ lw_tbl := List.mem_append_right _ (List.mem_append_right _ (List.mem_append_right _ (List.mem_append_right _ (List.mem_append_left _ (List.mem_of_getElem? (i := 134) (rfl))))))
set_option maxRecDepth 20000 in
theorem in_wsX10_cut : ∀ w ∈ wsX10_cut, w ∈ lw_tbl := by
  unfold wsX10_cut
  exact (List.forall_mem_cons.mpr ⟨wd_100, (List.forall_mem_append.mpr ⟨(List.forall_mem_cons.mpr ⟨wd_34, (fun _ h => absurd h List.not_mem_nil)⟩), us_X10⟩)⟩)
theorem wd_101 : Cond.selects RX10 yX10_cut yX10_cut ∈ lw_tbl := List.mem_append_right _ (List.mem_append_right _ (List.mem_append_right _ (List.mem_append_right _ (List.mem_append_left _ (List.mem_of_getElem? (i := 133) (rfl))))))
theorem wd_102 : Cond.instanceMethod yX10_cut ∈ lw_tbl := List.mem_append_right _ (List.mem_append_right _ (List.mem_append_right _ (List.mem_append_right _ (List.mem_append_left _ (List.mem_of_getElem? (i := 132) (rfl))))))
theorem wd_103 : Cond.methodLink RL 24 yX10_cut ∈ lw_tbl := List.mem_append_right _ (List.mem_append_right _ (List.mem_append_right _ (List.mem_append_right _ (List.mem_append_left _ (List.mem_of_getElem? (i := 131) (rfl))))))
theorem wd_104 : Cond.code yX9_read cX9_read 3 (some .int) ∈ lw_tbl := List.mem_append_right _ (List.mem_append_right _ (List.mem_append_left _ (List.mem_of_getElem? (i := 42) (rfl))))
theorem wd_105 : Cond.initialized RX2 ∈ lw_tbl := List.mem_append_right _ (List.mem_append_left _ (List.mem_of_getElem? (i := 3) (rfl)))
theorem wd_106 : Cond.selects RX2 yX2_clear yX2_clear ∈ lw_tbl := List.mem_append_right _ (List.mem_append_right _ (List.mem_append_left _ (List.mem_of_getElem? (i := 68) (rfl))))
theorem wd_107 : Cond.instanceMethod yX2_clear ∈ lw_tbl := List.mem_append_right _ (List.mem_append_right _ (List.mem_append_left _ (List.mem_of_getElem? (i := 67) (rfl))))
theorem wd_108 : Cond.methodLink RX5 26 yX2_clear ∈ lw_tbl := List.mem_append_right _ (List.mem_append_right _ (List.mem_append_left _ (List.mem_of_getElem? (i := 66) (rfl))))
theorem wd_109 : Cond.code yX5_readAll cX5_readAll 2 (some .int) ∈ lw_tbl := List.mem_append_right _ (List.mem_append_right _ (List.mem_append_left _ (List.mem_of_getElem? (i := 65) (rfl))))
theorem wd_110 : Cond.selects RX5 yX5_readAll yX5_readAll ∈ lw_tbl := List.mem_append_right _ (List.mem_append_right _ (List.mem_append_left _ (List.mem_of_getElem? (i := 64) (rfl))))
theorem wd_111 : Cond.instanceMethod yX5_readAll ∈ lw_tbl := List.mem_append_right _ (List.mem_append_right _ (List.mem_append_left _ (List.mem_of_getElem? (i := 63) (rfl))))
theorem wd_112 : Cond.methodLink RX9 84 yX5_readAll ∈ lw_tbl := List.mem_append_right _ (List.mem_append_right _ (List.mem_append_left _ (List.mem_of_getElem? (i := 62) (rfl))))
theorem wd_113 : Cond.fieldLink RX5 22 "GrammarTunes$Reader" "into" "LGrammarTunes$Grammar;" ∈ lw_tbl := List.mem_append_right _ (List.mem_append_right _ (List.mem_append_left _ (List.mem_of_getElem? (i := 50) (rfl))))
theorem wd_114 : Cond.fieldLink RX5 18 "GrammarTunes$Reader" "script" "LGrammarTunes$Script;" ∈ lw_tbl := List.mem_append_right _ (List.mem_append_right _ (List.mem_append_left _ (List.mem_of_getElem? (i := 49) (rfl))))
theorem wd_115 : Cond.fieldLink RX5 15 "GrammarTunes$Reader" "fault" "I" ∈ lw_tbl := List.mem_append_right _ (List.mem_append_right _ (List.mem_append_left _ (List.mem_of_getElem? (i := 52) (rfl))))
theorem wd_116 : Cond.fieldLink RX5 9 "GrammarTunes$Reader" "at" "I" ∈ lw_tbl := List.mem_append_right _ (List.mem_append_right _ (List.mem_append_left _ (List.mem_of_getElem? (i := 51) (rfl))))
theorem wd_117 : Cond.code objectInit ⟨#[0xb1]⟩ 1 none ∈ lw_tbl := List.mem_append_right _ (List.mem_append_left _ (List.mem_of_getElem? (i := 22) (rfl)))
theorem wd_118 : Cond.instanceMethod objectInit ∈ lw_tbl := List.mem_append_right _ (List.mem_append_left _ (List.mem_of_getElem? (i := 21) (rfl)))
theorem wd_119 : Cond.methodLink RX5 3 objectInit ∈ lw_tbl := List.mem_append_right _ (List.mem_append_right _ (List.mem_append_left _ (List.mem_of_getElem? (i := 48) (rfl))))
theorem wd_120 : Cond.code yX5_init cX5_init 3 none ∈ lw_tbl := List.mem_append_right _ (List.mem_append_right _ (List.mem_append_left _ (List.mem_of_getElem? (i := 47) (rfl))))
theorem wd_121 : Cond.instanceMethod yX5_init ∈ lw_tbl := List.mem_append_right _ (List.mem_append_right _ (List.mem_append_left _ (List.mem_of_getElem? (i := 46) (rfl))))
theorem wd_122 : Cond.methodLink RX9 81 yX5_init ∈ lw_tbl := List.mem_append_right _ (List.mem_append_right _ (List.mem_append_left _ (List.mem_of_getElem? (i := 45) (rfl))))
theorem wd_123 : Cond.fieldLink RX9 19 "GrammarTunes" "grammar" "LGrammarTunes$Grammar;" ∈ lw_tbl := List.mem_append_right _ (List.mem_append_left _ (List.mem_of_getElem? (i := 227) (rfl)))
theorem wd_124 : Cond.fieldLink RX9 23 "GrammarTunes" "spare" "LGrammarTunes$Grammar;" ∈ lw_tbl := List.mem_append_right _ (List.mem_append_left _ (List.mem_of_getElem? (i := 228) (rfl)))
theorem wd_125 : Cond.initialized RX5 ∈ lw_tbl := List.mem_append_right _ (List.mem_append_left _ (List.mem_of_getElem? (i := 10) (rfl)))
theorem wd_126 : Cond.instantiable RX5 4 ∈ lw_tbl := List.mem_append_right _ (List.mem_append_right _ (List.mem_append_left _ (List.mem_of_getElem? (i := 44) (rfl))))
theorem wd_127 : Cond.classLink RX9 79 RX5 ∈ lw_tbl := List.mem_append_right _ (List.mem_append_right _ (List.mem_append_left _ (List.mem_of_getElem? (i := 43) (rfl))))
set_option maxRecDepth 20000 in
theorem in_wsX9_read_r1 : ∀ w ∈ wsX9_read_r1, w ∈ lw_tbl := by
  unfold wsX9_read_r1
  exact (List.forall_mem_cons.mpr ⟨wd_127, (List.forall_mem_cons.mpr ⟨wd_126, (List.forall_mem_cons.mpr ⟨wd_125, (List.forall_mem_cons.mpr ⟨wd_17, (List.forall_mem_cons.mpr ⟨wd_124, (List.forall_mem_cons.mpr ⟨wd_123, (List.forall_mem_cons.mpr ⟨wd_122, (List.forall_mem_cons.mpr ⟨wd_121, (List.forall_mem_cons.mpr ⟨wd_120, (List.forall_mem_cons.mpr ⟨wd_119, (List.forall_mem_cons.mpr ⟨wd_118, (List.forall_mem_cons.mpr ⟨wd_117, (List.forall_mem_cons.mpr ⟨wd_116, (List.forall_mem_cons.mpr ⟨wd_115, (List.forall_mem_cons.mpr ⟨wd_114, (List.forall_mem_cons.mpr ⟨wd_113, (List.forall_mem_cons.mpr ⟨wd_112, (List.forall_mem_cons.mpr ⟨wd_111, (List.forall_mem_cons.mpr ⟨wd_110, (List.forall_mem_cons.mpr ⟨wd_109, (List.forall_mem_cons.mpr ⟨wd_108, (List.forall_mem_cons.mpr ⟨wd_107, (List.forall_mem_cons.mpr ⟨wd_106, (List.forall_mem_cons.mpr ⟨wd_105, (fun _ h => absurd h List.not_mem_nil)⟩)⟩)⟩)⟩)⟩)⟩)⟩)⟩)⟩)⟩)⟩)⟩)⟩)⟩)⟩)⟩)⟩)⟩)⟩)⟩)⟩)⟩)⟩)⟩)
theorem wd_128 : Cond.static yX9_isBlank ∈ lw_tbl := List.mem_append_right _ (List.mem_append_right _ (List.mem_append_left _ (List.mem_of_getElem? (i := 82) (rfl))))
theorem wd_129 : Cond.code yX6_at cX6_at 2 (some .int) ∈ lw_tbl := List.mem_append_right _ (List.mem_append_right _ (List.mem_append_left _ (List.mem_of_getElem? (i := 80) (rfl))))
theorem wd_130 : Cond.selects RX6 yX6_at yX6_at ∈ lw_tbl := List.mem_append_right _ (List.mem_append_right _ (List.mem_append_left _ (List.mem_of_getElem? (i := 79) (rfl))))
theorem wd_131 : Cond.instanceMethod yX6_at ∈ lw_tbl := List.mem_append_right _ (List.mem_append_right _ (List.mem_append_left _ (List.mem_of_getElem? (i := 78) (rfl))))
theorem wd_132 : Cond.methodLink RX6 31 yX6_at ∈ lw_tbl := List.mem_append_right _ (List.mem_append_right _ (List.mem_append_left _ (List.mem_of_getElem? (i := 77) (rfl))))
theorem wd_133 : Cond.code yX6_skipBlanks cX6_skipBlanks 3 (some .int) ∈ lw_tbl := List.mem_append_right _ (List.mem_append_right _ (List.mem_append_left _ (List.mem_of_getElem? (i := 76) (rfl))))
theorem wd_134 : Cond.selects RX6 yX6_skipBlanks yX6_skipBlanks ∈ lw_tbl := List.mem_append_right _ (List.mem_append_right _ (List.mem_append_left _ (List.mem_of_getElem? (i := 75) (rfl))))
theorem wd_135 : Cond.instanceMethod yX6_skipBlanks ∈ lw_tbl := List.mem_append_right _ (List.mem_append_right _ (List.mem_append_left _ (List.mem_of_getElem? (i := 74) (rfl))))
theorem wd_136 : Cond.methodLink RX5 31 yX6_skipBlanks ∈ lw_tbl := List.mem_append_right _ (List.mem_append_right _ (List.mem_append_left _ (List.mem_of_getElem? (i := 73) (rfl))))
theorem wd_137 : Cond.code yJ7_fill_53178 cJ7_fill_53178 4 none ∈ lw_tbl := List.mem_append_right _ (List.mem_append_right _ (List.mem_append_left _ (List.mem_of_getElem? (i := 72) (rfl))))
theorem wd_138 : Cond.initialized RJ7 ∈ lw_tbl := List.mem_append_right _ (List.mem_append_left _ (List.mem_of_getElem? (i := 11) (rfl)))
theorem wd_139 : Cond.static yJ7_fill_53178 ∈ lw_tbl := List.mem_append_right _ (List.mem_append_right _ (List.mem_append_left _ (List.mem_of_getElem? (i := 71) (rfl))))
theorem wd_140 : Cond.methodLink RX2 61 yJ7_fill_53178 ∈ lw_tbl := List.mem_append_right _ (List.mem_append_right _ (List.mem_append_left _ (List.mem_of_getElem? (i := 70) (rfl))))
theorem wd_141 : Cond.fieldLink RX2 21 "GrammarTunes$Grammar" "firstUseOf" "[I" ∈ lw_tbl := List.mem_append_right _ (List.mem_append_left _ (List.mem_of_getElem? (i := 54) (rfl)))
theorem wd_142 : Cond.fieldLink RX2 18 "GrammarTunes$Grammar" "weightsOf" "[I" ∈ lw_tbl := List.mem_append_right _ (List.mem_append_left _ (List.mem_of_getElem? (i := 51) (rfl)))
theorem wd_143 : Cond.fieldLink RX2 15 "GrammarTunes$Grammar" "alternativesOf" "[I" ∈ lw_tbl := List.mem_append_right _ (List.mem_append_left _ (List.mem_of_getElem? (i := 48) (rfl)))
theorem wd_144 : Cond.fieldLink RX2 52 "GrammarTunes$Grammar" "signs" "I" ∈ lw_tbl := List.mem_append_right _ (List.mem_append_left _ (List.mem_of_getElem? (i := 73) (rfl)))
theorem wd_145 : Cond.fieldLink RX2 49 "GrammarTunes$Grammar" "alternatives" "I" ∈ lw_tbl := List.mem_append_right _ (List.mem_append_left _ (List.mem_of_getElem? (i := 71) (rfl)))
theorem wd_146 : Cond.fieldLink RX2 45 "GrammarTunes$Grammar" "rules" "I" ∈ lw_tbl := List.mem_append_right _ (List.mem_append_left _ (List.mem_of_getElem? (i := 69) (rfl)))
theorem wd_147 : Cond.code yX2_clear cX2_clear 1 none ∈ lw_tbl := List.mem_append_right _ (List.mem_append_right _ (List.mem_append_left _ (List.mem_of_getElem? (i := 69) (rfl))))
set_option maxRecDepth 20000 in
theorem in_wsX9_read_r2 : ∀ w ∈ wsX9_read_r2, w ∈ lw_tbl := by
  unfold wsX9_read_r2
  exact (List.forall_mem_cons.mpr ⟨wd_147, (List.forall_mem_cons.mpr ⟨wd_146, (List.forall_mem_cons.mpr ⟨wd_145, (List.forall_mem_cons.mpr ⟨wd_144, (List.forall_mem_cons.mpr ⟨wd_143, (List.forall_mem_cons.mpr ⟨wd_142, (List.forall_mem_cons.mpr ⟨wd_141, (List.forall_mem_cons.mpr ⟨wd_140, (List.forall_mem_cons.mpr ⟨wd_139, (List.forall_mem_cons.mpr ⟨wd_138, (List.forall_mem_cons.mpr ⟨wd_137, (List.forall_mem_cons.mpr ⟨wd_136, (List.forall_mem_cons.mpr ⟨wd_135, (List.forall_mem_cons.mpr ⟨wd_134, (List.forall_mem_cons.mpr ⟨wd_13, (List.forall_mem_cons.mpr ⟨wd_133, (List.forall_mem_cons.mpr ⟨wd_11, (List.forall_mem_cons.mpr ⟨wd_132, (List.forall_mem_cons.mpr ⟨wd_131, (List.forall_mem_cons.mpr ⟨wd_130, (List.forall_mem_cons.mpr ⟨wd_129, (List.forall_mem_cons.mpr ⟨wd_10, (List.forall_mem_cons.mpr ⟨wd_128, (List.forall_mem_cons.mpr ⟨wd_2, (fun _ h => absurd h List.not_mem_nil)⟩)⟩)⟩)⟩)⟩)⟩)⟩)⟩)⟩)⟩)⟩)⟩)⟩)⟩)⟩)⟩)⟩)⟩)⟩)⟩)⟩)⟩)⟩)⟩)
theorem wd_148 : Cond.methodLink RX5 62 yX5_failAt ∈ lw_tbl := List.mem_append_right _ (List.mem_append_right _ (List.mem_append_left _ (List.mem_of_getElem? (i := 105) (rfl))))
theorem wd_149 : Cond.code yX2_canOpenRule cX2_canOpenRule 2 (some .boolean) ∈ lw_tbl := List.mem_append_right _ (List.mem_append_right _ (List.mem_append_left _ (List.mem_of_getElem? (i := 104) (rfl))))
theorem wd_150 : Cond.selects RX2 yX2_canOpenRule yX2_canOpenRule ∈ lw_tbl := List.mem_append_right _ (List.mem_append_right _ (List.mem_append_left _ (List.mem_of_getElem? (i := 103) (rfl))))
theorem wd_151 : Cond.instanceMethod yX2_canOpenRule ∈ lw_tbl := List.mem_append_right _ (List.mem_append_right _ (List.mem_append_left _ (List.mem_of_getElem? (i := 102) (rfl))))
theorem wd_152 : Cond.methodLink RX5 58 yX2_canOpenRule ∈ lw_tbl := List.mem_append_right _ (List.mem_append_right _ (List.mem_append_left _ (List.mem_of_getElem? (i := 101) (rfl))))
theorem wd_153 : Cond.code yX5_readHead cX5_readHead 2 (some .boolean) ∈ lw_tbl := List.mem_append_right _ (List.mem_append_right _ (List.mem_append_left _ (List.mem_of_getElem? (i := 100) (rfl))))
theorem wd_154 : Cond.selects RX5 yX5_readHead yX5_readHead ∈ lw_tbl := List.mem_append_left _ (List.mem_of_getElem? (i := 1) rfl)
theorem wd_155 : Cond.instanceMethod yX5_readHead ∈ lw_tbl := List.mem_append_right _ (List.mem_append_right _ (List.mem_append_left _ (List.mem_of_getElem? (i := 99) (rfl))))
theorem wd_156 : Cond.methodLink RX5 44 yX5_readHead ∈ lw_tbl := List.mem_append_right _ (List.mem_append_right _ (List.mem_append_left _ (List.mem_of_getElem? (i := 97) (rfl))))
theorem wd_157 : Cond.code yX2_hasRule cX2_hasRule 2 (some .boolean) ∈ lw_tbl := List.mem_append_right _ (List.mem_append_right _ (List.mem_append_left _ (List.mem_of_getElem? (i := 95) (rfl))))
theorem wd_158 : Cond.selects RX2 yX2_hasRule yX2_hasRule ∈ lw_tbl := List.mem_append_right _ (List.mem_append_right _ (List.mem_append_left _ (List.mem_of_getElem? (i := 94) (rfl))))
theorem wd_159 : Cond.instanceMethod yX2_hasRule ∈ lw_tbl := List.mem_append_right _ (List.mem_append_right _ (List.mem_append_left _ (List.mem_of_getElem? (i := 93) (rfl))))
theorem wd_160 : Cond.methodLink RX2 71 yX2_hasRule ∈ lw_tbl := List.mem_append_right _ (List.mem_append_right _ (List.mem_append_left _ (List.mem_of_getElem? (i := 92) (rfl))))
theorem wd_161 : Cond.code yX2_firstUseWithoutRule cX2_firstUseWithoutRule 4 (some .int) ∈ lw_tbl := List.mem_append_right _ (List.mem_append_right _ (List.mem_append_left _ (List.mem_of_getElem? (i := 91) (rfl))))
theorem wd_162 : Cond.selects RX2 yX2_firstUseWithoutRule yX2_firstUseWithoutRule ∈ lw_tbl := List.mem_append_right _ (List.mem_append_right _ (List.mem_append_left _ (List.mem_of_getElem? (i := 90) (rfl))))
theorem wd_163 : Cond.instanceMethod yX2_firstUseWithoutRule ∈ lw_tbl := List.mem_append_right _ (List.mem_append_right _ (List.mem_append_left _ (List.mem_of_getElem? (i := 89) (rfl))))
theorem wd_164 : Cond.methodLink RX5 41 yX2_firstUseWithoutRule ∈ lw_tbl := List.mem_append_right _ (List.mem_append_right _ (List.mem_append_left _ (List.mem_of_getElem? (i := 88) (rfl))))
theorem wd_165 : Cond.code yX5_here cX5_here 1 (some .int) ∈ lw_tbl := List.mem_append_right _ (List.mem_append_right _ (List.mem_append_left _ (List.mem_of_getElem? (i := 87) (rfl))))
theorem wd_166 : Cond.selects RX5 yX5_here yX5_here ∈ lw_tbl := List.mem_append_left _ (List.mem_of_getElem? (i := 0) rfl)
theorem wd_167 : Cond.instanceMethod yX5_here ∈ lw_tbl := List.mem_append_right _ (List.mem_append_right _ (List.mem_append_left _ (List.mem_of_getElem? (i := 86) (rfl))))
theorem wd_168 : Cond.methodLink RX5 37 yX5_here ∈ lw_tbl := List.mem_append_right _ (List.mem_append_right _ (List.mem_append_left _ (List.mem_of_getElem? (i := 84) (rfl))))
theorem wd_169 : Cond.code yX9_isBlank cX9_isBlank 1 (some .boolean) ∈ lw_tbl := List.mem_append_right _ (List.mem_append_right _ (List.mem_append_left _ (List.mem_of_getElem? (i := 83) (rfl))))
set_option maxRecDepth 20000 in
theorem in_wsX9_read_r3 : ∀ w ∈ wsX9_read_r3, w ∈ lw_tbl := by
  unfold wsX9_read_r3
  exact (List.forall_mem_cons.mpr ⟨wd_169, (List.forall_mem_cons.mpr ⟨wd_168, (List.forall_mem_cons.mpr ⟨wd_167, (List.forall_mem_cons.mpr ⟨wd_166, (List.forall_mem_cons.mpr ⟨wd_165, (List.forall_mem_cons.mpr ⟨wd_164, (List.forall_mem_cons.mpr ⟨wd_163, (List.forall_mem_cons.mpr ⟨wd_162, (List.forall_mem_cons.mpr ⟨wd_161, (List.forall_mem_cons.mpr ⟨wd_160, (List.forall_mem_cons.mpr ⟨wd_159, (List.forall_mem_cons.mpr ⟨wd_158, (List.forall_mem_cons.mpr ⟨wd_157, (List.forall_mem_cons.mpr ⟨wd_3, (List.forall_mem_cons.mpr ⟨wd_1, (List.forall_mem_cons.mpr ⟨wd_156, (List.forall_mem_cons.mpr ⟨wd_155, (List.forall_mem_cons.mpr ⟨wd_154, (List.forall_mem_cons.mpr ⟨wd_153, (List.forall_mem_cons.mpr ⟨wd_152, (List.forall_mem_cons.mpr ⟨wd_151, (List.forall_mem_cons.mpr ⟨wd_150, (List.forall_mem_cons.mpr ⟨wd_149, (List.forall_mem_cons.mpr ⟨wd_148, (fun _ h => absurd h List.not_mem_nil)⟩)⟩)⟩)⟩)⟩)⟩)⟩)⟩)⟩)⟩)⟩)⟩)⟩)⟩)⟩)⟩)⟩)⟩)⟩)⟩)⟩)⟩)⟩)⟩)
theorem wd_170 : Cond.code yX2_canOpenAlternative cX2_canOpenAlternative 1 (some .boolean) ∈ lw_tbl := List.mem_append_right _ (List.mem_append_right _ (List.mem_append_left _ (List.mem_of_getElem? (i := 127) (rfl))))
theorem wd_171 : Cond.selects RX2 yX2_canOpenAlternative yX2_canOpenAlternative ∈ lw_tbl := List.mem_append_right _ (List.mem_append_right _ (List.mem_append_left _ (List.mem_of_getElem? (i := 126) (rfl))))
theorem wd_172 : Cond.instanceMethod yX2_canOpenAlternative ∈ lw_tbl := List.mem_append_right _ (List.mem_append_right _ (List.mem_append_left _ (List.mem_of_getElem? (i := 125) (rfl))))
theorem wd_173 : Cond.methodLink RX5 78 yX2_canOpenAlternative ∈ lw_tbl := List.mem_append_right _ (List.mem_append_right _ (List.mem_append_left _ (List.mem_of_getElem? (i := 124) (rfl))))
theorem wd_174 : Cond.code yX9_isDigit cX9_isDigit 1 (some .boolean) ∈ lw_tbl := List.mem_append_right _ (List.mem_append_right _ (List.mem_append_left _ (List.mem_of_getElem? (i := 123) (rfl))))
theorem wd_175 : Cond.static yX9_isDigit ∈ lw_tbl := List.mem_append_right _ (List.mem_append_right _ (List.mem_append_left _ (List.mem_of_getElem? (i := 122) (rfl))))
theorem wd_176 : Cond.code yX5_readWeight cX5_readWeight 3 (some .boolean) ∈ lw_tbl := List.mem_append_right _ (List.mem_append_right _ (List.mem_append_left _ (List.mem_of_getElem? (i := 120) (rfl))))
theorem wd_177 : Cond.selects RX5 yX5_readWeight yX5_readWeight ∈ lw_tbl := List.mem_append_left _ (List.mem_of_getElem? (i := 4) rfl)
theorem wd_178 : Cond.instanceMethod yX5_readWeight ∈ lw_tbl := List.mem_append_right _ (List.mem_append_right _ (List.mem_append_left _ (List.mem_of_getElem? (i := 119) (rfl))))
theorem wd_179 : Cond.methodLink RX5 69 yX5_readWeight ∈ lw_tbl := List.mem_append_right _ (List.mem_append_right _ (List.mem_append_left _ (List.mem_of_getElem? (i := 117) (rfl))))
theorem wd_180 : Cond.code yX5_readAlternatives cX5_readAlternatives 2 (some .boolean) ∈ lw_tbl := List.mem_append_right _ (List.mem_append_right _ (List.mem_append_left _ (List.mem_of_getElem? (i := 116) (rfl))))
theorem wd_181 : Cond.selects RX5 yX5_readAlternatives yX5_readAlternatives ∈ lw_tbl := List.mem_append_left _ (List.mem_of_getElem? (i := 3) rfl)
theorem wd_182 : Cond.instanceMethod yX5_readAlternatives ∈ lw_tbl := List.mem_append_right _ (List.mem_append_right _ (List.mem_append_left _ (List.mem_of_getElem? (i := 115) (rfl))))
theorem wd_183 : Cond.methodLink RX5 48 yX5_readAlternatives ∈ lw_tbl := List.mem_append_right _ (List.mem_append_right _ (List.mem_append_left _ (List.mem_of_getElem? (i := 113) (rfl))))
theorem wd_184 : Cond.fieldLink RX2 9 "GrammarTunes$Grammar" "firstOf" "[I" ∈ lw_tbl := List.mem_append_right _ (List.mem_append_left _ (List.mem_of_getElem? (i := 46) (rfl)))
theorem wd_185 : Cond.fieldLink RX2 58 "GrammarTunes$Grammar" "openLetter" "I" ∈ lw_tbl := List.mem_append_right _ (List.mem_append_left _ (List.mem_of_getElem? (i := 77) (rfl)))
theorem wd_186 : Cond.fieldLink RX2 55 "GrammarTunes$Grammar" "startLetter" "I" ∈ lw_tbl := List.mem_append_right _ (List.mem_append_left _ (List.mem_of_getElem? (i := 75) (rfl)))
theorem wd_187 : Cond.code yX2_openRule cX2_openRule 2 none ∈ lw_tbl := List.mem_append_right _ (List.mem_append_right _ (List.mem_append_left _ (List.mem_of_getElem? (i := 112) (rfl))))
theorem wd_188 : Cond.selects RX2 yX2_openRule yX2_openRule ∈ lw_tbl := List.mem_append_right _ (List.mem_append_right _ (List.mem_append_left _ (List.mem_of_getElem? (i := 111) (rfl))))
theorem wd_189 : Cond.instanceMethod yX2_openRule ∈ lw_tbl := List.mem_append_right _ (List.mem_append_right _ (List.mem_append_left _ (List.mem_of_getElem? (i := 110) (rfl))))
theorem wd_190 : Cond.methodLink RX5 65 yX2_openRule ∈ lw_tbl := List.mem_append_right _ (List.mem_append_right _ (List.mem_append_left _ (List.mem_of_getElem? (i := 109) (rfl))))
theorem wd_191 : Cond.code yX5_failAt cX5_failAt 2 (some .boolean) ∈ lw_tbl := List.mem_append_right _ (List.mem_append_right _ (List.mem_append_left _ (List.mem_of_getElem? (i := 108) (rfl))))
theorem wd_192 : Cond.selects RX5 yX5_failAt yX5_failAt ∈ lw_tbl := List.mem_append_left _ (List.mem_of_getElem? (i := 2) rfl)
theorem wd_193 : Cond.instanceMethod yX5_failAt ∈ lw_tbl := List.mem_append_right _ (List.mem_append_right _ (List.mem_append_left _ (List.mem_of_getElem? (i := 107) (rfl))))
set_option maxRecDepth 20000 in
theorem in_wsX9_read_r4 : ∀ w ∈ wsX9_read_r4, w ∈ lw_tbl := by
  unfold wsX9_read_r4
  exact (List.forall_mem_cons.mpr ⟨wd_193, (List.forall_mem_cons.mpr ⟨wd_192, (List.forall_mem_cons.mpr ⟨wd_191, (List.forall_mem_cons.mpr ⟨wd_190, (List.forall_mem_cons.mpr ⟨wd_189, (List.forall_mem_cons.mpr ⟨wd_188, (List.forall_mem_cons.mpr ⟨wd_187, (List.forall_mem_cons.mpr ⟨wd_186, (List.forall_mem_cons.mpr ⟨wd_185, (List.forall_mem_cons.mpr ⟨wd_184, (List.forall_mem_cons.mpr ⟨wd_183, (List.forall_mem_cons.mpr ⟨wd_182, (List.forall_mem_cons.mpr ⟨wd_181, (List.forall_mem_cons.mpr ⟨wd_180, (List.forall_mem_cons.mpr ⟨wd_179, (List.forall_mem_cons.mpr ⟨wd_178, (List.forall_mem_cons.mpr ⟨wd_177, (List.forall_mem_cons.mpr ⟨wd_176, (List.forall_mem_cons.mpr ⟨wd_175, (List.forall_mem_cons.mpr ⟨wd_174, (List.forall_mem_cons.mpr ⟨wd_173, (List.forall_mem_cons.mpr ⟨wd_172, (List.forall_mem_cons.mpr ⟨wd_171, (List.forall_mem_cons.mpr ⟨wd_170, (fun _ h => absurd h List.not_mem_nil)⟩)⟩)⟩)⟩)⟩)⟩)⟩)⟩)⟩)⟩)⟩)⟩)⟩)⟩)⟩)⟩)⟩)⟩)⟩)⟩)⟩)⟩)⟩)⟩)
theorem wd_194 : Cond.instanceMethod yX5_readSign ∈ lw_tbl := List.mem_append_right _ (List.mem_append_right _ (List.mem_append_left _ (List.mem_of_getElem? (i := 150) (rfl))))
theorem wd_195 : Cond.methodLink RX5 90 yX5_readSign ∈ lw_tbl := List.mem_append_right _ (List.mem_append_right _ (List.mem_append_left _ (List.mem_of_getElem? (i := 148) (rfl))))
theorem wd_196 : Cond.code yX2_canAddSign cX2_canAddSign 1 (some .boolean) ∈ lw_tbl := List.mem_append_right _ (List.mem_append_right _ (List.mem_append_left _ (List.mem_of_getElem? (i := 147) (rfl))))
theorem wd_197 : Cond.selects RX2 yX2_canAddSign yX2_canAddSign ∈ lw_tbl := List.mem_append_right _ (List.mem_append_right _ (List.mem_append_left _ (List.mem_of_getElem? (i := 146) (rfl))))
theorem wd_198 : Cond.instanceMethod yX2_canAddSign ∈ lw_tbl := List.mem_append_right _ (List.mem_append_right _ (List.mem_append_left _ (List.mem_of_getElem? (i := 145) (rfl))))
theorem wd_199 : Cond.methodLink RX5 87 yX2_canAddSign ∈ lw_tbl := List.mem_append_right _ (List.mem_append_right _ (List.mem_append_left _ (List.mem_of_getElem? (i := 144) (rfl))))
theorem wd_200 : Cond.methodLink RX5 96 yX6_at ∈ lw_tbl := List.mem_append_right _ (List.mem_append_right _ (List.mem_append_left _ (List.mem_of_getElem? (i := 143) (rfl))))
theorem wd_201 : Cond.code yX9_isLetter cX9_isLetter 1 (some .boolean) ∈ lw_tbl := List.mem_append_right _ (List.mem_append_right _ (List.mem_append_left _ (List.mem_of_getElem? (i := 142) (rfl))))
theorem wd_202 : Cond.static yX9_isLetter ∈ lw_tbl := List.mem_append_right _ (List.mem_append_right _ (List.mem_append_left _ (List.mem_of_getElem? (i := 141) (rfl))))
theorem wd_203 : Cond.code yX5_isLetterOfRule cX5_isLetterOfRule 1 (some .boolean) ∈ lw_tbl := List.mem_append_right _ (List.mem_append_right _ (List.mem_append_left _ (List.mem_of_getElem? (i := 139) (rfl))))
theorem wd_204 : Cond.selects RX5 yX5_isLetterOfRule yX5_isLetterOfRule ∈ lw_tbl := List.mem_append_left _ (List.mem_of_getElem? (i := 6) rfl)
theorem wd_205 : Cond.instanceMethod yX5_isLetterOfRule ∈ lw_tbl := List.mem_append_right _ (List.mem_append_right _ (List.mem_append_left _ (List.mem_of_getElem? (i := 138) (rfl))))
theorem wd_206 : Cond.methodLink RX5 84 yX5_isLetterOfRule ∈ lw_tbl := List.mem_append_right _ (List.mem_append_right _ (List.mem_append_left _ (List.mem_of_getElem? (i := 136) (rfl))))
theorem wd_207 : Cond.code yX5_readSigns cX5_readSigns 2 (some .boolean) ∈ lw_tbl := List.mem_append_right _ (List.mem_append_right _ (List.mem_append_left _ (List.mem_of_getElem? (i := 135) (rfl))))
theorem wd_208 : Cond.selects RX5 yX5_readSigns yX5_readSigns ∈ lw_tbl := List.mem_append_left _ (List.mem_of_getElem? (i := 5) rfl)
theorem wd_209 : Cond.instanceMethod yX5_readSigns ∈ lw_tbl := List.mem_append_right _ (List.mem_append_right _ (List.mem_append_left _ (List.mem_of_getElem? (i := 134) (rfl))))
theorem wd_210 : Cond.methodLink RX5 72 yX5_readSigns ∈ lw_tbl := List.mem_append_right _ (List.mem_append_right _ (List.mem_append_left _ (List.mem_of_getElem? (i := 132) (rfl))))
theorem wd_211 : Cond.fieldLink RX2 30 "GrammarTunes$Grammar" "endSign" "[I" ∈ lw_tbl := List.mem_append_right _ (List.mem_append_left _ (List.mem_of_getElem? (i := 59) (rfl)))
theorem wd_212 : Cond.fieldLink RX2 27 "GrammarTunes$Grammar" "firstSign" "[I" ∈ lw_tbl := List.mem_append_right _ (List.mem_append_left _ (List.mem_of_getElem? (i := 57) (rfl)))
theorem wd_213 : Cond.fieldLink RX2 24 "GrammarTunes$Grammar" "weight" "[I" ∈ lw_tbl := List.mem_append_right _ (List.mem_append_left _ (List.mem_of_getElem? (i := 55) (rfl)))
theorem wd_214 : Cond.code yX2_openAlternative cX2_openAlternative 2 none ∈ lw_tbl := List.mem_append_right _ (List.mem_append_right _ (List.mem_append_left _ (List.mem_of_getElem? (i := 131) (rfl))))
theorem wd_215 : Cond.selects RX2 yX2_openAlternative yX2_openAlternative ∈ lw_tbl := List.mem_append_right _ (List.mem_append_right _ (List.mem_append_left _ (List.mem_of_getElem? (i := 130) (rfl))))
theorem wd_216 : Cond.instanceMethod yX2_openAlternative ∈ lw_tbl := List.mem_append_right _ (List.mem_append_right _ (List.mem_append_left _ (List.mem_of_getElem? (i := 129) (rfl))))
theorem wd_217 : Cond.methodLink RX5 81 yX2_openAlternative ∈ lw_tbl := List.mem_append_right _ (List.mem_append_right _ (List.mem_append_left _ (List.mem_of_getElem? (i := 128) (rfl))))
set_option maxRecDepth 20000 in
theorem in_wsX9_read_r5 : ∀ w ∈ wsX9_read_r5, w ∈ lw_tbl := by
  unfold wsX9_read_r5
  exact (List.forall_mem_cons.mpr ⟨wd_217, (List.forall_mem_cons.mpr ⟨wd_216, (List.forall_mem_cons.mpr ⟨wd_215, (List.forall_mem_cons.mpr ⟨wd_214, (List.forall_mem_cons.mpr ⟨wd_213, (List.forall_mem_cons.mpr ⟨wd_212, (List.forall_mem_cons.mpr ⟨wd_211, (List.forall_mem_cons.mpr ⟨wd_210, (List.forall_mem_cons.mpr ⟨wd_209, (List.forall_mem_cons.mpr ⟨wd_208, (List.forall_mem_cons.mpr ⟨wd_207, (List.forall_mem_cons.mpr ⟨wd_206, (List.forall_mem_cons.mpr ⟨wd_205, (List.forall_mem_cons.mpr ⟨wd_204, (List.forall_mem_cons.mpr ⟨wd_203, (List.forall_mem_cons.mpr ⟨wd_202, (List.forall_mem_cons.mpr ⟨wd_201, (List.forall_mem_cons.mpr ⟨wd_200, (List.forall_mem_cons.mpr ⟨wd_199, (List.forall_mem_cons.mpr ⟨wd_198, (List.forall_mem_cons.mpr ⟨wd_197, (List.forall_mem_cons.mpr ⟨wd_196, (List.forall_mem_cons.mpr ⟨wd_195, (List.forall_mem_cons.mpr ⟨wd_194, (fun _ h => absurd h List.not_mem_nil)⟩)⟩)⟩)⟩)⟩)⟩)⟩)⟩)⟩)⟩)⟩)⟩)⟩)⟩)⟩)⟩)⟩)⟩)⟩)⟩)⟩)⟩)⟩)⟩)
theorem wd_218 : Cond.code yX5_readLength cX5_readLength 2 (some .int) ∈ lw_tbl := List.mem_append_right _ (List.mem_append_right _ (List.mem_append_left _ (List.mem_of_getElem? (i := 170) (rfl))))
theorem wd_219 : Cond.selects RX5 yX5_readLength yX5_readLength ∈ lw_tbl := List.mem_append_left _ (List.mem_of_getElem? (i := 10) rfl)
theorem wd_220 : Cond.instanceMethod yX5_readLength ∈ lw_tbl := List.mem_append_right _ (List.mem_append_right _ (List.mem_append_left _ (List.mem_of_getElem? (i := 169) (rfl))))
theorem wd_221 : Cond.methodLink RX5 108 yX5_readLength ∈ lw_tbl := List.mem_append_right _ (List.mem_append_right _ (List.mem_append_left _ (List.mem_of_getElem? (i := 167) (rfl))))
theorem wd_222 : Cond.code yX5_readOctave cX5_readOctave 3 (some .int) ∈ lw_tbl := List.mem_append_right _ (List.mem_append_right _ (List.mem_append_left _ (List.mem_of_getElem? (i := 166) (rfl))))
theorem wd_223 : Cond.selects RX5 yX5_readOctave yX5_readOctave ∈ lw_tbl := List.mem_append_left _ (List.mem_of_getElem? (i := 9) rfl)
theorem wd_224 : Cond.instanceMethod yX5_readOctave ∈ lw_tbl := List.mem_append_right _ (List.mem_append_right _ (List.mem_append_left _ (List.mem_of_getElem? (i := 165) (rfl))))
theorem wd_225 : Cond.methodLink RX5 105 yX5_readOctave ∈ lw_tbl := List.mem_append_right _ (List.mem_append_right _ (List.mem_append_left _ (List.mem_of_getElem? (i := 163) (rfl))))
theorem wd_226 : Cond.code yX9_isDegree cX9_isDegree 1 (some .boolean) ∈ lw_tbl := List.mem_append_right _ (List.mem_append_right _ (List.mem_append_left _ (List.mem_of_getElem? (i := 162) (rfl))))
theorem wd_227 : Cond.static yX9_isDegree ∈ lw_tbl := List.mem_append_right _ (List.mem_append_right _ (List.mem_append_left _ (List.mem_of_getElem? (i := 161) (rfl))))
theorem wd_228 : Cond.fieldLink RX2 42 "GrammarTunes$Grammar" "length" "[I" ∈ lw_tbl := List.mem_append_right _ (List.mem_append_left _ (List.mem_of_getElem? (i := 67) (rfl)))
theorem wd_229 : Cond.fieldLink RX2 39 "GrammarTunes$Grammar" "octave" "[I" ∈ lw_tbl := List.mem_append_right _ (List.mem_append_left _ (List.mem_of_getElem? (i := 65) (rfl)))
theorem wd_230 : Cond.fieldLink RX2 36 "GrammarTunes$Grammar" "degree" "[I" ∈ lw_tbl := List.mem_append_right _ (List.mem_append_left _ (List.mem_of_getElem? (i := 63) (rfl)))
theorem wd_231 : Cond.fieldLink RX2 33 "GrammarTunes$Grammar" "letter" "[I" ∈ lw_tbl := List.mem_append_right _ (List.mem_append_left _ (List.mem_of_getElem? (i := 61) (rfl)))
theorem wd_232 : Cond.code yX2_addSign cX2_addSign 5 none ∈ lw_tbl := List.mem_append_right _ (List.mem_append_right _ (List.mem_append_left _ (List.mem_of_getElem? (i := 159) (rfl))))
theorem wd_233 : Cond.selects RX2 yX2_addSign yX2_addSign ∈ lw_tbl := List.mem_append_left _ (List.mem_of_getElem? (i := 8) rfl)
theorem wd_234 : Cond.instanceMethod yX2_addSign ∈ lw_tbl := List.mem_append_right _ (List.mem_append_right _ (List.mem_append_left _ (List.mem_of_getElem? (i := 158) (rfl))))
theorem wd_235 : Cond.methodLink RX2 75 yX2_addSign ∈ lw_tbl := List.mem_append_right _ (List.mem_append_right _ (List.mem_append_left _ (List.mem_of_getElem? (i := 156) (rfl))))
theorem wd_236 : Cond.code yX2_addLetter cX2_addLetter 3 none ∈ lw_tbl := List.mem_append_right _ (List.mem_append_right _ (List.mem_append_left _ (List.mem_of_getElem? (i := 155) (rfl))))
theorem wd_237 : Cond.selects RX2 yX2_addLetter yX2_addLetter ∈ lw_tbl := List.mem_append_right _ (List.mem_append_right _ (List.mem_append_left _ (List.mem_of_getElem? (i := 154) (rfl))))
theorem wd_238 : Cond.instanceMethod yX2_addLetter ∈ lw_tbl := List.mem_append_right _ (List.mem_append_right _ (List.mem_append_left _ (List.mem_of_getElem? (i := 153) (rfl))))
theorem wd_239 : Cond.methodLink RX5 98 yX2_addLetter ∈ lw_tbl := List.mem_append_right _ (List.mem_append_right _ (List.mem_append_left _ (List.mem_of_getElem? (i := 152) (rfl))))
theorem wd_240 : Cond.code yX5_readSign cX5_readSign 4 (some .boolean) ∈ lw_tbl := List.mem_append_right _ (List.mem_append_right _ (List.mem_append_left _ (List.mem_of_getElem? (i := 151) (rfl))))
theorem wd_241 : Cond.selects RX5 yX5_readSign yX5_readSign ∈ lw_tbl := List.mem_append_left _ (List.mem_of_getElem? (i := 7) rfl)
set_option maxRecDepth 20000 in
theorem in_wsX9_read_r6 : ∀ w ∈ wsX9_read_r6, w ∈ lw_tbl := by
  unfold wsX9_read_r6
  exact (List.forall_mem_cons.mpr ⟨wd_241, (List.forall_mem_cons.mpr ⟨wd_240, (List.forall_mem_cons.mpr ⟨wd_239, (List.forall_mem_cons.mpr ⟨wd_238, (List.forall_mem_cons.mpr ⟨wd_237, (List.forall_mem_cons.mpr ⟨wd_236, (List.forall_mem_cons.mpr ⟨wd_235, (List.forall_mem_cons.mpr ⟨wd_234, (List.forall_mem_cons.mpr ⟨wd_233, (List.forall_mem_cons.mpr ⟨wd_232, (List.forall_mem_cons.mpr ⟨wd_231, (List.forall_mem_cons.mpr ⟨wd_230, (List.forall_mem_cons.mpr ⟨wd_229, (List.forall_mem_cons.mpr ⟨wd_228, (List.forall_mem_cons.mpr ⟨wd_227, (List.forall_mem_cons.mpr ⟨wd_226, (List.forall_mem_cons.mpr ⟨wd_225, (List.forall_mem_cons.mpr ⟨wd_224, (List.forall_mem_cons.mpr ⟨wd_223, (List.forall_mem_cons.mpr ⟨wd_222, (List.forall_mem_cons.mpr ⟨wd_221, (List.forall_mem_cons.mpr ⟨wd_220, (List.forall_mem_cons.mpr ⟨wd_219, (List.forall_mem_cons.mpr ⟨wd_218, (fun _ h => absurd h List.not_mem_nil)⟩)⟩)⟩)⟩)⟩)⟩)⟩)⟩)⟩)⟩)⟩)⟩)⟩)⟩)⟩)⟩)⟩)⟩)⟩)⟩)⟩)⟩)⟩)⟩)
theorem wd_242 : Cond.code yX2_addSound cX2_addSound 4 none ∈ lw_tbl := List.mem_append_right _ (List.mem_append_right _ (List.mem_append_left _ (List.mem_of_getElem? (i := 174) (rfl))))
theorem wd_243 : Cond.selects RX2 yX2_addSound yX2_addSound ∈ lw_tbl := List.mem_append_right _ (List.mem_append_right _ (List.mem_append_left _ (List.mem_of_getElem? (i := 173) (rfl))))
theorem wd_244 : Cond.instanceMethod yX2_addSound ∈ lw_tbl := List.mem_append_right _ (List.mem_append_right _ (List.mem_append_left _ (List.mem_of_getElem? (i := 172) (rfl))))
theorem wd_245 : Cond.methodLink RX5 111 yX2_addSound ∈ lw_tbl := List.mem_append_right _ (List.mem_append_right _ (List.mem_append_left _ (List.mem_of_getElem? (i := 171) (rfl))))
set_option maxRecDepth 20000 in
theorem in_wsX9_read_r7 : ∀ w ∈ wsX9_read_r7, w ∈ lw_tbl := by
  unfold wsX9_read_r7
  exact (List.forall_mem_cons.mpr ⟨wd_245, (List.forall_mem_cons.mpr ⟨wd_244, (List.forall_mem_cons.mpr ⟨wd_243, (List.forall_mem_cons.mpr ⟨wd_242, (fun _ h => absurd h List.not_mem_nil)⟩)⟩)⟩)⟩)
theorem wd_246 : Cond.lays RX5 "GrammarTunes$Reader" "fault" "I" ∈ lw_tbl := List.mem_append_right _ (List.mem_append_right _ (List.mem_append_left _ (List.mem_of_getElem? (i := 59) (rfl))))
theorem wd_247 : Cond.lays RX5 "GrammarTunes$Reader" "at" "I" ∈ lw_tbl := List.mem_append_right _ (List.mem_append_right _ (List.mem_append_left _ (List.mem_of_getElem? (i := 57) (rfl))))
theorem wd_248 : Cond.laysFinal RX5 "GrammarTunes$Reader" "into" "LGrammarTunes$Grammar;" ∈ lw_tbl := List.mem_append_right _ (List.mem_append_right _ (List.mem_append_left _ (List.mem_of_getElem? (i := 55) (rfl))))
theorem wd_249 : Cond.laysFinal RX5 "GrammarTunes$Reader" "script" "LGrammarTunes$Script;" ∈ lw_tbl := List.mem_append_right _ (List.mem_append_right _ (List.mem_append_left _ (List.mem_of_getElem? (i := 53) (rfl))))
set_option maxRecDepth 20000 in
theorem us_X5 : ∀ w ∈ u_ws RX5 TX5 4, w ∈ lw_tbl := (show ∀ w ∈ ([Cond.laysFinal RX5 "GrammarTunes$Reader" "script" "LGrammarTunes$Script;", Cond.laysFinal RX5 "GrammarTunes$Reader" "into" "LGrammarTunes$Grammar;", Cond.lays RX5 "GrammarTunes$Reader" "at" "I", Cond.lays RX5 "GrammarTunes$Reader" "fault" "I"] : List Cond), w ∈ lw_tbl from (List.forall_mem_cons.mpr ⟨wd_249, (List.forall_mem_cons.mpr ⟨wd_248, (List.forall_mem_cons.mpr ⟨wd_247, (List.forall_mem_cons.mpr ⟨wd_246, (fun _ h => absurd h List.not_mem_nil)⟩)⟩)⟩)⟩))
theorem wd_250 : Cond.lays RX2 "GrammarTunes$Grammar" "openLetter" "I" ∈ lw_tbl := List.mem_append_right _ (List.mem_append_left _ (List.mem_of_getElem? (i := 108) (rfl)))
theorem wd_251 : Cond.lays RX2 "GrammarTunes$Grammar" "startLetter" "I" ∈ lw_tbl := List.mem_append_right _ (List.mem_append_left _ (List.mem_of_getElem? (i := 106) (rfl)))
theorem wd_252 : Cond.lays RX2 "GrammarTunes$Grammar" "signs" "I" ∈ lw_tbl := List.mem_append_right _ (List.mem_append_left _ (List.mem_of_getElem? (i := 104) (rfl)))
theorem wd_253 : Cond.lays RX2 "GrammarTunes$Grammar" "alternatives" "I" ∈ lw_tbl := List.mem_append_right _ (List.mem_append_left _ (List.mem_of_getElem? (i := 102) (rfl)))
theorem wd_254 : Cond.lays RX2 "GrammarTunes$Grammar" "rules" "I" ∈ lw_tbl := List.mem_append_right _ (List.mem_append_left _ (List.mem_of_getElem? (i := 100) (rfl)))
theorem wd_255 : Cond.laysFinal RX2 "GrammarTunes$Grammar" "length" "[I" ∈ lw_tbl := List.mem_append_right _ (List.mem_append_left _ (List.mem_of_getElem? (i := 98) (rfl)))
theorem wd_256 : Cond.laysFinal RX2 "GrammarTunes$Grammar" "octave" "[I" ∈ lw_tbl := List.mem_append_right _ (List.mem_append_left _ (List.mem_of_getElem? (i := 96) (rfl)))
theorem wd_257 : Cond.laysFinal RX2 "GrammarTunes$Grammar" "degree" "[I" ∈ lw_tbl := List.mem_append_right _ (List.mem_append_left _ (List.mem_of_getElem? (i := 94) (rfl)))
theorem wd_258 : Cond.laysFinal RX2 "GrammarTunes$Grammar" "letter" "[I" ∈ lw_tbl := List.mem_append_right _ (List.mem_append_left _ (List.mem_of_getElem? (i := 92) (rfl)))
theorem wd_259 : Cond.laysFinal RX2 "GrammarTunes$Grammar" "endSign" "[I" ∈ lw_tbl := List.mem_append_right _ (List.mem_append_left _ (List.mem_of_getElem? (i := 90) (rfl)))
theorem wd_260 : Cond.laysFinal RX2 "GrammarTunes$Grammar" "firstSign" "[I" ∈ lw_tbl := List.mem_append_right _ (List.mem_append_left _ (List.mem_of_getElem? (i := 88) (rfl)))
theorem wd_261 : Cond.laysFinal RX2 "GrammarTunes$Grammar" "weight" "[I" ∈ lw_tbl := List.mem_append_right _ (List.mem_append_left _ (List.mem_of_getElem? (i := 86) (rfl)))
theorem wd_262 : Cond.laysFinal RX2 "GrammarTunes$Grammar" "firstUseOf" "[I" ∈ lw_tbl := List.mem_append_right _ (List.mem_append_left _ (List.mem_of_getElem? (i := 84) (rfl)))
theorem wd_263 : Cond.laysFinal RX2 "GrammarTunes$Grammar" "weightsOf" "[I" ∈ lw_tbl := List.mem_append_right _ (List.mem_append_left _ (List.mem_of_getElem? (i := 82) (rfl)))
theorem wd_264 : Cond.laysFinal RX2 "GrammarTunes$Grammar" "alternativesOf" "[I" ∈ lw_tbl := List.mem_append_right _ (List.mem_append_left _ (List.mem_of_getElem? (i := 80) (rfl)))
theorem wd_265 : Cond.laysFinal RX2 "GrammarTunes$Grammar" "firstOf" "[I" ∈ lw_tbl := List.mem_append_right _ (List.mem_append_left _ (List.mem_of_getElem? (i := 78) (rfl)))
set_option maxRecDepth 20000 in
theorem us_X2 : ∀ w ∈ u_ws RX2 TX2 16, w ∈ lw_tbl := (show ∀ w ∈ ([Cond.laysFinal RX2 "GrammarTunes$Grammar" "firstOf" "[I", Cond.laysFinal RX2 "GrammarTunes$Grammar" "alternativesOf" "[I", Cond.laysFinal RX2 "GrammarTunes$Grammar" "weightsOf" "[I", Cond.laysFinal RX2 "GrammarTunes$Grammar" "firstUseOf" "[I", Cond.laysFinal RX2 "GrammarTunes$Grammar" "weight" "[I", Cond.laysFinal RX2 "GrammarTunes$Grammar" "firstSign" "[I", Cond.laysFinal RX2 "GrammarTunes$Grammar" "endSign" "[I", Cond.laysFinal RX2 "GrammarTunes$Grammar" "letter" "[I", Cond.laysFinal RX2 "GrammarTunes$Grammar" "degree" "[I", Cond.laysFinal RX2 "GrammarTunes$Grammar" "octave" "[I", Cond.laysFinal RX2 "GrammarTunes$Grammar" "length" "[I", Cond.lays RX2 "GrammarTunes$Grammar" "rules" "I", Cond.lays RX2 "GrammarTunes$Grammar" "alternatives" "I", Cond.lays RX2 "GrammarTunes$Grammar" "signs" "I", Cond.lays RX2 "GrammarTunes$Grammar" "startLetter" "I", Cond.lays RX2 "GrammarTunes$Grammar" "openLetter" "I"] : List Cond), w ∈ lw_tbl from (List.forall_mem_cons.mpr ⟨wd_265, (List.forall_mem_cons.mpr ⟨wd_264, (List.forall_mem_cons.mpr ⟨wd_263, (List.forall_mem_cons.mpr ⟨wd_262, (List.forall_mem_cons.mpr ⟨wd_261, (List.forall_mem_cons.mpr ⟨wd_260, (List.forall_mem_cons.mpr ⟨wd_259, (List.forall_mem_cons.mpr ⟨wd_258, (List.forall_mem_cons.mpr ⟨wd_257, (List.forall_mem_cons.mpr ⟨wd_256, (List.forall_mem_cons.mpr ⟨wd_255, (List.forall_mem_cons.mpr ⟨wd_254, (List.forall_mem_cons.mpr ⟨wd_253, (List.forall_mem_cons.mpr ⟨wd_252, (List.forall_mem_cons.mpr ⟨wd_251, (List.forall_mem_cons.mpr ⟨wd_250, (fun _ h => absurd h List.not_mem_nil)⟩)⟩)⟩)⟩)⟩)⟩)⟩)⟩)⟩)⟩)⟩)⟩)⟩)⟩)⟩)⟩))
set_option maxRecDepth 20000 in
theorem in_wsX9_read : ∀ w ∈ wsX9_read, w ∈ lw_tbl := by
  unfold wsX9_read
  exact (List.forall_mem_cons.mpr ⟨wd_104, (List.forall_mem_append.mpr ⟨(List.forall_mem_append.mpr ⟨(List.forall_mem_append.mpr ⟨(List.forall_mem_append.mpr ⟨(List.forall_mem_append.mpr ⟨in_wsX9_read_r1, (List.forall_mem_append.mpr ⟨in_wsX9_read_r2, (List.forall_mem_append.mpr ⟨in_wsX9_read_r3, (List.forall_mem_append.mpr ⟨in_wsX9_read_r4, (List.forall_mem_append.mpr ⟨in_wsX9_read_r5, (List.forall_mem_append.mpr ⟨in_wsX9_read_r6, in_wsX9_read_r7⟩)⟩)⟩)⟩)⟩)⟩), us_X5⟩), us_X9⟩), us_X2⟩), us_X6⟩)⟩)
theorem wd_266 : Cond.selects RX9 yX9_read yX9_read ∈ lw_tbl := List.mem_append_right _ (List.mem_append_right _ (List.mem_append_left _ (List.mem_of_getElem? (i := 41) (rfl))))
theorem wd_267 : Cond.instanceMethod yX9_read ∈ lw_tbl := List.mem_append_right _ (List.mem_append_right _ (List.mem_append_left _ (List.mem_of_getElem? (i := 40) (rfl))))
theorem wd_268 : Cond.methodLink RL 25 yX9_read ∈ lw_tbl := List.mem_append_right _ (List.mem_append_right _ (List.mem_append_left _ (List.mem_of_getElem? (i := 39) (rfl))))
theorem wd_269 : Cond.code yX10_read cX10_read 3 (some .int) ∈ lw_tbl := List.mem_append_right _ (List.mem_append_right _ (List.mem_append_right _ (List.mem_append_right _ (List.mem_append_left _ (List.mem_of_getElem? (i := 138) (rfl))))))
theorem wd_270 : Cond.selects RX10 yX10_blanks yX10_blanks ∈ lw_tbl := List.mem_append_left _ (List.mem_of_getElem? (i := 25) rfl)
theorem wd_271 : Cond.instanceMethod yX10_blanks ∈ lw_tbl := List.mem_append_right _ (List.mem_append_right _ (List.mem_append_right _ (List.mem_append_right _ (List.mem_append_left _ (List.mem_of_getElem? (i := 145) (rfl))))))
theorem wd_272 : Cond.methodLink RX10 142 yX10_blanks ∈ lw_tbl := List.mem_append_right _ (List.mem_append_right _ (List.mem_append_right _ (List.mem_append_right _ (List.mem_append_left _ (List.mem_of_getElem? (i := 143) (rfl))))))
theorem wd_273 : Cond.code yX10_readRule cX10_readRule 4 (some .boolean) ∈ lw_tbl := List.mem_append_right _ (List.mem_append_right _ (List.mem_append_right _ (List.mem_append_right _ (List.mem_append_left _ (List.mem_of_getElem? (i := 142) (rfl))))))
theorem wd_274 : Cond.selects RX10 yX10_readRule yX10_readRule ∈ lw_tbl := List.mem_append_left _ (List.mem_of_getElem? (i := 24) rfl)
theorem wd_275 : Cond.instanceMethod yX10_readRule ∈ lw_tbl := List.mem_append_right _ (List.mem_append_right _ (List.mem_append_right _ (List.mem_append_right _ (List.mem_append_left _ (List.mem_of_getElem? (i := 141) (rfl))))))
theorem wd_276 : Cond.methodLink RX10 134 yX10_readRule ∈ lw_tbl := List.mem_append_right _ (List.mem_append_right _ (List.mem_append_right _ (List.mem_append_right _ (List.mem_append_left _ (List.mem_of_getElem? (i := 139) (rfl))))))
theorem wd_277 : Cond.fieldLink RX10 55 "GrammarTunesModel" "firstLetter" "[I" ∈ lw_tbl := List.mem_append_right _ (List.mem_append_right _ (List.mem_append_right _ (List.mem_append_left _ (List.mem_of_getElem? (i := 223) (rfl)))))
theorem wd_278 : Cond.fieldLink RX10 40 "GrammarTunesModel" "signLength" "[I" ∈ lw_tbl := List.mem_append_right _ (List.mem_append_right _ (List.mem_append_right _ (List.mem_append_left _ (List.mem_of_getElem? (i := 218) (rfl)))))
theorem wd_279 : Cond.fieldLink RX10 37 "GrammarTunesModel" "signOctave" "[I" ∈ lw_tbl := List.mem_append_right _ (List.mem_append_right _ (List.mem_append_right _ (List.mem_append_left _ (List.mem_of_getElem? (i := 217) (rfl)))))
theorem wd_280 : Cond.fieldLink RX10 28 "GrammarTunesModel" "signCount" "[I" ∈ lw_tbl := List.mem_append_right _ (List.mem_append_right _ (List.mem_append_right _ (List.mem_append_left _ (List.mem_of_getElem? (i := 214) (rfl)))))
theorem wd_281 : Cond.fieldLink RX10 25 "GrammarTunesModel" "firstSign" "[I" ∈ lw_tbl := List.mem_append_right _ (List.mem_append_right _ (List.mem_append_right _ (List.mem_append_left _ (List.mem_of_getElem? (i := 213) (rfl)))))
theorem wd_282 : Cond.fieldLink RX10 22 "GrammarTunesModel" "weight" "[I" ∈ lw_tbl := List.mem_append_right _ (List.mem_append_right _ (List.mem_append_right _ (List.mem_append_left _ (List.mem_of_getElem? (i := 212) (rfl)))))
theorem wd_283 : Cond.fieldLink RX10 16 "GrammarTunesModel" "firstAlternative" "[I" ∈ lw_tbl := List.mem_append_right _ (List.mem_append_right _ (List.mem_append_right _ (List.mem_append_left _ (List.mem_of_getElem? (i := 210) (rfl)))))
theorem wd_284 : Cond.fieldLink RX10 43 "GrammarTunesModel" "signPlace" "[I" ∈ lw_tbl := List.mem_append_right _ (List.mem_append_right _ (List.mem_append_right _ (List.mem_append_left _ (List.mem_of_getElem? (i := 219) (rfl)))))
theorem wd_285 : Cond.fieldLink RX10 34 "GrammarTunesModel" "signWhat" "[I" ∈ lw_tbl := List.mem_append_right _ (List.mem_append_right _ (List.mem_append_right _ (List.mem_append_left _ (List.mem_of_getElem? (i := 216) (rfl)))))
theorem wd_286 : Cond.fieldLink RX10 31 "GrammarTunesModel" "signKind" "[I" ∈ lw_tbl := List.mem_append_right _ (List.mem_append_right _ (List.mem_append_right _ (List.mem_append_left _ (List.mem_of_getElem? (i := 215) (rfl)))))
theorem wd_287 : Cond.fieldLink RX10 19 "GrammarTunesModel" "alternatives" "[I" ∈ lw_tbl := List.mem_append_right _ (List.mem_append_right _ (List.mem_append_right _ (List.mem_append_left _ (List.mem_of_getElem? (i := 211) (rfl)))))
theorem wd_288 : Cond.fieldLink RX10 52 "GrammarTunesModel" "allSigns" "[I" ∈ lw_tbl := List.mem_append_right _ (List.mem_append_right _ (List.mem_append_right _ (List.mem_append_left _ (List.mem_of_getElem? (i := 222) (rfl)))))
theorem wd_289 : Cond.fieldLink RX10 49 "GrammarTunesModel" "allAlternatives" "[I" ∈ lw_tbl := List.mem_append_right _ (List.mem_append_right _ (List.mem_append_right _ (List.mem_append_left _ (List.mem_of_getElem? (i := 221) (rfl)))))
theorem wd_290 : Cond.fieldLink RX10 46 "GrammarTunesModel" "rules" "[I" ∈ lw_tbl := List.mem_append_right _ (List.mem_append_right _ (List.mem_append_right _ (List.mem_append_left _ (List.mem_of_getElem? (i := 220) (rfl)))))
theorem wd_291 : Cond.fieldLink RX10 131 "GrammarTunesModel" "p" "I" ∈ lw_tbl := List.mem_append_right _ (List.mem_append_right _ (List.mem_append_right _ (List.mem_append_left _ (List.mem_of_getElem? (i := 224) (rfl)))))
theorem wd_292 : Cond.fieldLink RX10 124 "GrammarTunesModel" "fault" "I" ∈ lw_tbl := List.mem_append_right _ (List.mem_append_right _ (List.mem_append_right _ (List.mem_append_left _ (List.mem_of_getElem? (i := 225) (rfl)))))
set_option maxRecDepth 20000 in
theorem in_wsX10_read_r1 : ∀ w ∈ wsX10_read_r1, w ∈ lw_tbl := by
  unfold wsX10_read_r1
  exact (List.forall_mem_cons.mpr ⟨wd_292, (List.forall_mem_cons.mpr ⟨wd_291, (List.forall_mem_cons.mpr ⟨wd_290, (List.forall_mem_cons.mpr ⟨wd_289, (List.forall_mem_cons.mpr ⟨wd_288, (List.forall_mem_cons.mpr ⟨wd_287, (List.forall_mem_cons.mpr ⟨wd_286, (List.forall_mem_cons.mpr ⟨wd_285, (List.forall_mem_cons.mpr ⟨wd_284, (List.forall_mem_cons.mpr ⟨wd_283, (List.forall_mem_cons.mpr ⟨wd_282, (List.forall_mem_cons.mpr ⟨wd_281, (List.forall_mem_cons.mpr ⟨wd_280, (List.forall_mem_cons.mpr ⟨wd_279, (List.forall_mem_cons.mpr ⟨wd_278, (List.forall_mem_cons.mpr ⟨wd_277, (List.forall_mem_cons.mpr ⟨wd_276, (List.forall_mem_cons.mpr ⟨wd_275, (List.forall_mem_cons.mpr ⟨wd_274, (List.forall_mem_cons.mpr ⟨wd_88, (List.forall_mem_cons.mpr ⟨wd_273, (List.forall_mem_cons.mpr ⟨wd_272, (List.forall_mem_cons.mpr ⟨wd_271, (List.forall_mem_cons.mpr ⟨wd_270, (fun _ h => absurd h List.not_mem_nil)⟩)⟩)⟩)⟩)⟩)⟩)⟩)⟩)⟩)⟩)⟩)⟩)⟩)⟩)⟩)⟩)⟩)⟩)⟩)⟩)⟩)⟩)⟩)⟩)
theorem wd_293 : Cond.selects RX10 yX10_readSigns yX10_readSigns ∈ lw_tbl := List.mem_append_left _ (List.mem_of_getElem? (i := 29) rfl)
theorem wd_294 : Cond.instanceMethod yX10_readSigns ∈ lw_tbl := List.mem_append_right _ (List.mem_append_right _ (List.mem_append_right _ (List.mem_append_right _ (List.mem_append_left _ (List.mem_of_getElem? (i := 167) (rfl))))))
theorem wd_295 : Cond.methodLink RX10 152 yX10_readSigns ∈ lw_tbl := List.mem_append_right _ (List.mem_append_right _ (List.mem_append_right _ (List.mem_append_right _ (List.mem_append_left _ (List.mem_of_getElem? (i := 165) (rfl))))))
theorem wd_296 : Cond.code yX10_isDigit cX10_isDigit 1 (some .boolean) ∈ lw_tbl := List.mem_append_right _ (List.mem_append_right _ (List.mem_append_right _ (List.mem_append_right _ (List.mem_append_left _ (List.mem_of_getElem? (i := 164) (rfl))))))
theorem wd_297 : Cond.static yX10_isDigit ∈ lw_tbl := List.mem_append_right _ (List.mem_append_right _ (List.mem_append_right _ (List.mem_append_right _ (List.mem_append_left _ (List.mem_of_getElem? (i := 163) (rfl))))))
theorem wd_298 : Cond.methodLink RX10 156 yX10_isDigit ∈ lw_tbl := List.mem_append_right _ (List.mem_append_right _ (List.mem_append_right _ (List.mem_append_right _ (List.mem_append_left _ (List.mem_of_getElem? (i := 162) (rfl))))))
theorem wd_299 : Cond.code yX10_readWeight cX10_readWeight 5 none ∈ lw_tbl := List.mem_append_right _ (List.mem_append_right _ (List.mem_append_right _ (List.mem_append_right _ (List.mem_append_left _ (List.mem_of_getElem? (i := 161) (rfl))))))
theorem wd_300 : Cond.selects RX10 yX10_readWeight yX10_readWeight ∈ lw_tbl := List.mem_append_left _ (List.mem_of_getElem? (i := 28) rfl)
theorem wd_301 : Cond.instanceMethod yX10_readWeight ∈ lw_tbl := List.mem_append_right _ (List.mem_append_right _ (List.mem_append_right _ (List.mem_append_right _ (List.mem_append_left _ (List.mem_of_getElem? (i := 160) (rfl))))))
theorem wd_302 : Cond.methodLink RX10 149 yX10_readWeight ∈ lw_tbl := List.mem_append_right _ (List.mem_append_right _ (List.mem_append_right _ (List.mem_append_right _ (List.mem_append_left _ (List.mem_of_getElem? (i := 158) (rfl))))))
theorem wd_303 : Cond.code yX10_fail cX10_fail 2 none ∈ lw_tbl := List.mem_append_right _ (List.mem_append_right _ (List.mem_append_right _ (List.mem_append_right _ (List.mem_append_left _ (List.mem_of_getElem? (i := 157) (rfl))))))
theorem wd_304 : Cond.selects RX10 yX10_fail yX10_fail ∈ lw_tbl := List.mem_append_left _ (List.mem_of_getElem? (i := 27) rfl)
theorem wd_305 : Cond.instanceMethod yX10_fail ∈ lw_tbl := List.mem_append_right _ (List.mem_append_right _ (List.mem_append_right _ (List.mem_append_right _ (List.mem_append_left _ (List.mem_of_getElem? (i := 156) (rfl))))))
theorem wd_306 : Cond.methodLink RX10 138 yX10_fail ∈ lw_tbl := List.mem_append_right _ (List.mem_append_right _ (List.mem_append_right _ (List.mem_append_right _ (List.mem_append_left _ (List.mem_of_getElem? (i := 154) (rfl))))))
theorem wd_307 : Cond.code yX10_isLetter cX10_isLetter 1 (some .boolean) ∈ lw_tbl := List.mem_append_right _ (List.mem_append_right _ (List.mem_append_right _ (List.mem_append_right _ (List.mem_append_left _ (List.mem_of_getElem? (i := 153) (rfl))))))
theorem wd_308 : Cond.static yX10_isLetter ∈ lw_tbl := List.mem_append_right _ (List.mem_append_right _ (List.mem_append_right _ (List.mem_append_right _ (List.mem_append_left _ (List.mem_of_getElem? (i := 152) (rfl))))))
theorem wd_309 : Cond.methodLink RX10 145 yX10_isLetter ∈ lw_tbl := List.mem_append_right _ (List.mem_append_right _ (List.mem_append_right _ (List.mem_append_right _ (List.mem_append_left _ (List.mem_of_getElem? (i := 151) (rfl))))))
theorem wd_310 : Cond.code yX10_peek cX10_peek 2 (some .int) ∈ lw_tbl := List.mem_append_right _ (List.mem_append_right _ (List.mem_append_right _ (List.mem_append_right _ (List.mem_append_left _ (List.mem_of_getElem? (i := 150) (rfl))))))
theorem wd_311 : Cond.selects RX10 yX10_peek yX10_peek ∈ lw_tbl := List.mem_append_left _ (List.mem_of_getElem? (i := 26) rfl)
theorem wd_312 : Cond.instanceMethod yX10_peek ∈ lw_tbl := List.mem_append_right _ (List.mem_append_right _ (List.mem_append_right _ (List.mem_append_right _ (List.mem_append_left _ (List.mem_of_getElem? (i := 149) (rfl))))))
theorem wd_313 : Cond.methodLink RX10 127 yX10_peek ∈ lw_tbl := List.mem_append_right _ (List.mem_append_right _ (List.mem_append_right _ (List.mem_append_right _ (List.mem_append_left _ (List.mem_of_getElem? (i := 147) (rfl))))))
theorem wd_314 : Cond.code yX10_blanks cX10_blanks 3 (some .int) ∈ lw_tbl := List.mem_append_right _ (List.mem_append_right _ (List.mem_append_right _ (List.mem_append_right _ (List.mem_append_left _ (List.mem_of_getElem? (i := 146) (rfl))))))
set_option maxRecDepth 20000 in
theorem in_wsX10_read_r2 : ∀ w ∈ wsX10_read_r2, w ∈ lw_tbl := by
  unfold wsX10_read_r2
  exact (List.forall_mem_cons.mpr ⟨wd_314, (List.forall_mem_cons.mpr ⟨wd_313, (List.forall_mem_cons.mpr ⟨wd_312, (List.forall_mem_cons.mpr ⟨wd_311, (List.forall_mem_cons.mpr ⟨wd_310, (List.forall_mem_cons.mpr ⟨wd_34, (List.forall_mem_cons.mpr ⟨wd_33, (List.forall_mem_cons.mpr ⟨wd_309, (List.forall_mem_cons.mpr ⟨wd_308, (List.forall_mem_cons.mpr ⟨wd_307, (List.forall_mem_cons.mpr ⟨wd_306, (List.forall_mem_cons.mpr ⟨wd_305, (List.forall_mem_cons.mpr ⟨wd_304, (List.forall_mem_cons.mpr ⟨wd_303, (List.forall_mem_cons.mpr ⟨wd_302, (List.forall_mem_cons.mpr ⟨wd_301, (List.forall_mem_cons.mpr ⟨wd_300, (List.forall_mem_cons.mpr ⟨wd_299, (List.forall_mem_cons.mpr ⟨wd_298, (List.forall_mem_cons.mpr ⟨wd_297, (List.forall_mem_cons.mpr ⟨wd_296, (List.forall_mem_cons.mpr ⟨wd_295, (List.forall_mem_cons.mpr ⟨wd_294, (List.forall_mem_cons.mpr ⟨wd_293, (fun _ h => absurd h List.not_mem_nil)⟩)⟩)⟩)⟩)⟩)⟩)⟩)⟩)⟩)⟩)⟩)⟩)⟩)⟩)⟩)⟩)⟩)⟩)⟩)⟩)⟩)⟩)⟩)⟩)
theorem wd_315 : Cond.code yX10_readLength cX10_readLength 4 none ∈ lw_tbl := List.mem_append_right _ (List.mem_append_right _ (List.mem_append_right _ (List.mem_append_right _ (List.mem_append_left _ (List.mem_of_getElem? (i := 176) (rfl))))))
theorem wd_316 : Cond.selects RX10 yX10_readLength yX10_readLength ∈ lw_tbl := List.mem_append_left _ (List.mem_of_getElem? (i := 31) rfl)
theorem wd_317 : Cond.instanceMethod yX10_readLength ∈ lw_tbl := List.mem_append_right _ (List.mem_append_right _ (List.mem_append_right _ (List.mem_append_right _ (List.mem_append_left _ (List.mem_of_getElem? (i := 175) (rfl))))))
theorem wd_318 : Cond.methodLink RX10 163 yX10_readLength ∈ lw_tbl := List.mem_append_right _ (List.mem_append_right _ (List.mem_append_right _ (List.mem_append_right _ (List.mem_append_left _ (List.mem_of_getElem? (i := 173) (rfl))))))
theorem wd_319 : Cond.code yX10_readSign cX10_readSign 5 none ∈ lw_tbl := List.mem_append_right _ (List.mem_append_right _ (List.mem_append_right _ (List.mem_append_right _ (List.mem_append_left _ (List.mem_of_getElem? (i := 172) (rfl))))))
theorem wd_320 : Cond.selects RX10 yX10_readSign yX10_readSign ∈ lw_tbl := List.mem_append_left _ (List.mem_of_getElem? (i := 30) rfl)
theorem wd_321 : Cond.instanceMethod yX10_readSign ∈ lw_tbl := List.mem_append_right _ (List.mem_append_right _ (List.mem_append_right _ (List.mem_append_right _ (List.mem_append_left _ (List.mem_of_getElem? (i := 171) (rfl))))))
theorem wd_322 : Cond.methodLink RX10 159 yX10_readSign ∈ lw_tbl := List.mem_append_right _ (List.mem_append_right _ (List.mem_append_right _ (List.mem_append_right _ (List.mem_append_left _ (List.mem_of_getElem? (i := 169) (rfl))))))
theorem wd_323 : Cond.code yX10_readSigns cX10_readSigns 5 (some .int) ∈ lw_tbl := List.mem_append_right _ (List.mem_append_right _ (List.mem_append_right _ (List.mem_append_right _ (List.mem_append_left _ (List.mem_of_getElem? (i := 168) (rfl))))))
set_option maxRecDepth 20000 in
theorem in_wsX10_read_r3 : ∀ w ∈ wsX10_read_r3, w ∈ lw_tbl := by
  unfold wsX10_read_r3
  exact (List.forall_mem_cons.mpr ⟨wd_323, (List.forall_mem_cons.mpr ⟨wd_322, (List.forall_mem_cons.mpr ⟨wd_321, (List.forall_mem_cons.mpr ⟨wd_320, (List.forall_mem_cons.mpr ⟨wd_319, (List.forall_mem_cons.mpr ⟨wd_318, (List.forall_mem_cons.mpr ⟨wd_317, (List.forall_mem_cons.mpr ⟨wd_316, (List.forall_mem_cons.mpr ⟨wd_315, (fun _ h => absurd h List.not_mem_nil)⟩)⟩)⟩)⟩)⟩)⟩)⟩)⟩)⟩)
set_option maxRecDepth 20000 in
theorem in_wsX10_read : ∀ w ∈ wsX10_read, w ∈ lw_tbl := by
  unfold wsX10_read
  exact (List.forall_mem_cons.mpr ⟨wd_269, (List.forall_mem_append.mpr ⟨(List.forall_mem_append.mpr ⟨in_wsX10_read_r1, (List.forall_mem_append.mpr ⟨in_wsX10_read_r2, in_wsX10_read_r3⟩)⟩), us_X10⟩)⟩)
theorem wd_324 : Cond.selects RX10 yX10_read yX10_read ∈ lw_tbl := List.mem_append_right _ (List.mem_append_right _ (List.mem_append_right _ (List.mem_append_right _ (List.mem_append_left _ (List.mem_of_getElem? (i := 137) (rfl))))))
theorem wd_325 : Cond.instanceMethod yX10_read ∈ lw_tbl := List.mem_append_right _ (List.mem_append_right _ (List.mem_append_right _ (List.mem_append_right _ (List.mem_append_left _ (List.mem_of_getElem? (i := 136) (rfl))))))
theorem wd_326 : Cond.methodLink RL 29 yX10_read ∈ lw_tbl := List.mem_append_right _ (List.mem_append_right _ (List.mem_append_right _ (List.mem_append_right _ (List.mem_append_left _ (List.mem_of_getElem? (i := 135) (rfl))))))
theorem wd_327 : Cond.code yX9_rule cX9_rule 3 (some .int) ∈ lw_tbl := List.mem_append_right _ (List.mem_append_right _ (List.mem_append_left _ (List.mem_of_getElem? (i := 178) (rfl))))
theorem wd_328 : Cond.methodLink RX9 95 yX2_hasRule ∈ lw_tbl := List.mem_append_right _ (List.mem_append_right _ (List.mem_append_left _ (List.mem_of_getElem? (i := 180) (rfl))))
theorem wd_329 : Cond.methodLink RX9 91 yX9_isWithin ∈ lw_tbl := List.mem_append_right _ (List.mem_append_right _ (List.mem_append_left _ (List.mem_of_getElem? (i := 179) (rfl))))
set_option maxRecDepth 20000 in
theorem in_wsX9_rule : ∀ w ∈ wsX9_rule, w ∈ lw_tbl := by
  unfold wsX9_rule
  exact (List.forall_mem_cons.mpr ⟨wd_327, (List.forall_mem_append.mpr ⟨(List.forall_mem_append.mpr ⟨(List.forall_mem_cons.mpr ⟨wd_123, (List.forall_mem_cons.mpr ⟨wd_329, (List.forall_mem_cons.mpr ⟨wd_3, (List.forall_mem_cons.mpr ⟨wd_2, (List.forall_mem_cons.mpr ⟨wd_1, (List.forall_mem_cons.mpr ⟨wd_328, (List.forall_mem_cons.mpr ⟨wd_159, (List.forall_mem_cons.mpr ⟨wd_158, (List.forall_mem_cons.mpr ⟨wd_105, (List.forall_mem_cons.mpr ⟨wd_157, (List.forall_mem_cons.mpr ⟨wd_143, (fun _ h => absurd h List.not_mem_nil)⟩)⟩)⟩)⟩)⟩)⟩)⟩)⟩)⟩)⟩)⟩), us_X9⟩), us_X2⟩)⟩)
theorem wd_330 : Cond.selects RX9 yX9_rule yX9_rule ∈ lw_tbl := List.mem_append_right _ (List.mem_append_right _ (List.mem_append_left _ (List.mem_of_getElem? (i := 177) (rfl))))
theorem wd_331 : Cond.instanceMethod yX9_rule ∈ lw_tbl := List.mem_append_right _ (List.mem_append_right _ (List.mem_append_left _ (List.mem_of_getElem? (i := 176) (rfl))))
theorem wd_332 : Cond.methodLink RL 30 yX9_rule ∈ lw_tbl := List.mem_append_right _ (List.mem_append_right _ (List.mem_append_left _ (List.mem_of_getElem? (i := 175) (rfl))))
theorem wd_333 : Cond.code yX10_rule cX10_rule 5 (some .int) ∈ lw_tbl := List.mem_append_right _ (List.mem_append_right _ (List.mem_append_right _ (List.mem_append_right _ (List.mem_append_left _ (List.mem_of_getElem? (i := 180) (rfl))))))
set_option maxRecDepth 20000 in
theorem in_wsX10_rule : ∀ w ∈ wsX10_rule, w ∈ lw_tbl := by
  unfold wsX10_rule
  exact (List.forall_mem_cons.mpr ⟨wd_333, (List.forall_mem_append.mpr ⟨(List.forall_mem_cons.mpr ⟨wd_290, (List.forall_mem_cons.mpr ⟨wd_287, (List.forall_mem_cons.mpr ⟨wd_282, (List.forall_mem_cons.mpr ⟨wd_283, (fun _ h => absurd h List.not_mem_nil)⟩)⟩)⟩)⟩), us_X10⟩)⟩)
theorem wd_334 : Cond.selects RX10 yX10_rule yX10_rule ∈ lw_tbl := List.mem_append_right _ (List.mem_append_right _ (List.mem_append_right _ (List.mem_append_right _ (List.mem_append_left _ (List.mem_of_getElem? (i := 179) (rfl))))))
theorem wd_335 : Cond.instanceMethod yX10_rule ∈ lw_tbl := List.mem_append_right _ (List.mem_append_right _ (List.mem_append_right _ (List.mem_append_right _ (List.mem_append_left _ (List.mem_of_getElem? (i := 178) (rfl))))))
theorem wd_336 : Cond.methodLink RL 34 yX10_rule ∈ lw_tbl := List.mem_append_right _ (List.mem_append_right _ (List.mem_append_right _ (List.mem_append_right _ (List.mem_append_left _ (List.mem_of_getElem? (i := 177) (rfl))))))
theorem wd_337 : Cond.code yX9_want cX9_want 4 (some .int) ∈ lw_tbl := List.mem_append_right _ (List.mem_append_right _ (List.mem_append_left _ (List.mem_of_getElem? (i := 184) (rfl))))
theorem wd_338 : Cond.fieldLink RX9 26 "GrammarTunes" "wanted" "[I" ∈ lw_tbl := List.mem_append_right _ (List.mem_append_left _ (List.mem_of_getElem? (i := 229) (rfl)))
theorem wd_339 : Cond.fieldLink RX9 108 "GrammarTunes" "WANTED_GREATEST" "[I" ∈ lw_tbl := List.mem_append_right _ (List.mem_append_right _ (List.mem_append_left _ (List.mem_of_getElem? (i := 187) (rfl))))
theorem wd_340 : Cond.fieldLink RX9 105 "GrammarTunes" "WANTED_LEAST" "[I" ∈ lw_tbl := List.mem_append_right _ (List.mem_append_right _ (List.mem_append_left _ (List.mem_of_getElem? (i := 185) (rfl))))
set_option maxRecDepth 20000 in
theorem in_wsX9_want : ∀ w ∈ wsX9_want, w ∈ lw_tbl := by
  unfold wsX9_want
  exact (List.forall_mem_cons.mpr ⟨wd_337, (List.forall_mem_append.mpr ⟨(List.forall_mem_cons.mpr ⟨wd_340, (List.forall_mem_cons.mpr ⟨wd_339, (List.forall_mem_cons.mpr ⟨wd_338, (List.forall_mem_cons.mpr ⟨wd_329, (List.forall_mem_cons.mpr ⟨wd_3, (List.forall_mem_cons.mpr ⟨wd_2, (List.forall_mem_cons.mpr ⟨wd_1, (fun _ h => absurd h List.not_mem_nil)⟩)⟩)⟩)⟩)⟩)⟩)⟩), us_X9⟩)⟩)
theorem wd_341 : Cond.selects RX9 yX9_want yX9_want ∈ lw_tbl := List.mem_append_right _ (List.mem_append_right _ (List.mem_append_left _ (List.mem_of_getElem? (i := 183) (rfl))))
theorem wd_342 : Cond.instanceMethod yX9_want ∈ lw_tbl := List.mem_append_right _ (List.mem_append_right _ (List.mem_append_left _ (List.mem_of_getElem? (i := 182) (rfl))))
theorem wd_343 : Cond.methodLink RL 35 yX9_want ∈ lw_tbl := List.mem_append_right _ (List.mem_append_right _ (List.mem_append_left _ (List.mem_of_getElem? (i := 181) (rfl))))
theorem wd_344 : Cond.code yX10_want cX10_want 6 (some .int) ∈ lw_tbl := List.mem_append_right _ (List.mem_append_right _ (List.mem_append_right _ (List.mem_append_right _ (List.mem_append_left _ (List.mem_of_getElem? (i := 184) (rfl))))))
theorem wd_345 : Cond.fieldLink RX10 58 "GrammarTunesModel" "wanted" "[I" ∈ lw_tbl := List.mem_append_right _ (List.mem_append_right _ (List.mem_append_right _ (List.mem_append_left _ (List.mem_of_getElem? (i := 226) (rfl)))))
set_option maxRecDepth 20000 in
theorem in_wsX10_want : ∀ w ∈ wsX10_want, w ∈ lw_tbl := by
  unfold wsX10_want
  exact (List.forall_mem_cons.mpr ⟨wd_344, (List.forall_mem_append.mpr ⟨(List.forall_mem_cons.mpr ⟨wd_345, (fun _ h => absurd h List.not_mem_nil)⟩), us_X10⟩)⟩)
theorem wd_346 : Cond.selects RX10 yX10_want yX10_want ∈ lw_tbl := List.mem_append_right _ (List.mem_append_right _ (List.mem_append_right _ (List.mem_append_right _ (List.mem_append_left _ (List.mem_of_getElem? (i := 183) (rfl))))))
theorem wd_347 : Cond.instanceMethod yX10_want ∈ lw_tbl := List.mem_append_right _ (List.mem_append_right _ (List.mem_append_right _ (List.mem_append_right _ (List.mem_append_left _ (List.mem_of_getElem? (i := 182) (rfl))))))
theorem wd_348 : Cond.methodLink RL 38 yX10_want ∈ lw_tbl := List.mem_append_right _ (List.mem_append_right _ (List.mem_append_right _ (List.mem_append_right _ (List.mem_append_left _ (List.mem_of_getElem? (i := 181) (rfl))))))
theorem wd_349 : Cond.code yX9_make cX9_make 6 (some .int) ∈ lw_tbl := List.mem_append_right _ (List.mem_append_right _ (List.mem_append_left _ (List.mem_of_getElem? (i := 192) (rfl))))
theorem wd_350 : Cond.instanceMethod yX3_init ∈ lw_tbl := List.mem_append_right _ (List.mem_append_right _ (List.mem_append_left _ (List.mem_of_getElem? (i := 206) (rfl))))
theorem wd_351 : Cond.methodLink RX9 118 yX3_init ∈ lw_tbl := List.mem_append_right _ (List.mem_append_right _ (List.mem_append_left _ (List.mem_of_getElem? (i := 205) (rfl))))
theorem wd_352 : Cond.fieldLink RX1 7 "GrammarTunes$Dice" "state" "J" ∈ lw_tbl := List.mem_append_right _ (List.mem_append_right _ (List.mem_append_left _ (List.mem_of_getElem? (i := 201) (rfl))))
theorem wd_353 : Cond.methodLink RX1 1 objectInit ∈ lw_tbl := List.mem_append_right _ (List.mem_append_right _ (List.mem_append_left _ (List.mem_of_getElem? (i := 200) (rfl))))
theorem wd_354 : Cond.code yX1_init cX1_init 3 none ∈ lw_tbl := List.mem_append_right _ (List.mem_append_right _ (List.mem_append_left _ (List.mem_of_getElem? (i := 199) (rfl))))
theorem wd_355 : Cond.instanceMethod yX1_init ∈ lw_tbl := List.mem_append_right _ (List.mem_append_right _ (List.mem_append_left _ (List.mem_of_getElem? (i := 198) (rfl))))
theorem wd_356 : Cond.methodLink RX9 115 yX1_init ∈ lw_tbl := List.mem_append_right _ (List.mem_append_right _ (List.mem_append_left _ (List.mem_of_getElem? (i := 197) (rfl))))
theorem wd_357 : Cond.fieldLink RX9 44 "GrammarTunes" "latestTries" "I" ∈ lw_tbl := List.mem_append_right _ (List.mem_append_left _ (List.mem_of_getElem? (i := 232) (rfl)))
theorem wd_358 : Cond.initialized RX1 ∈ lw_tbl := List.mem_append_right _ (List.mem_append_left _ (List.mem_of_getElem? (i := 13) (rfl)))
theorem wd_359 : Cond.instantiable RX1 1 ∈ lw_tbl := List.mem_append_right _ (List.mem_append_right _ (List.mem_append_left _ (List.mem_of_getElem? (i := 196) (rfl))))
theorem wd_360 : Cond.classLink RX9 113 RX1 ∈ lw_tbl := List.mem_append_right _ (List.mem_append_right _ (List.mem_append_left _ (List.mem_of_getElem? (i := 195) (rfl))))
theorem wd_361 : Cond.fieldLink RX9 40 "GrammarTunes" "places" "LGrammarTunes$Places;" ∈ lw_tbl := List.mem_append_right _ (List.mem_append_left _ (List.mem_of_getElem? (i := 231) (rfl)))
theorem wd_362 : Cond.fieldLink RX9 33 "GrammarTunes" "tune" "LGrammarTunes$Tune;" ∈ lw_tbl := List.mem_append_right _ (List.mem_append_left _ (List.mem_of_getElem? (i := 230) (rfl)))
theorem wd_363 : Cond.initialized RX3 ∈ lw_tbl := List.mem_append_right _ (List.mem_append_left _ (List.mem_of_getElem? (i := 12) (rfl)))
theorem wd_364 : Cond.instantiable RX3 12 ∈ lw_tbl := List.mem_append_right _ (List.mem_append_right _ (List.mem_append_left _ (List.mem_of_getElem? (i := 194) (rfl))))
theorem wd_365 : Cond.classLink RX9 111 RX3 ∈ lw_tbl := List.mem_append_right _ (List.mem_append_right _ (List.mem_append_left _ (List.mem_of_getElem? (i := 193) (rfl))))
set_option maxRecDepth 20000 in
theorem in_wsX9_make_r1 : ∀ w ∈ wsX9_make_r1, w ∈ lw_tbl := by
  unfold wsX9_make_r1
  exact (List.forall_mem_cons.mpr ⟨wd_123, (List.forall_mem_cons.mpr ⟨wd_365, (List.forall_mem_cons.mpr ⟨wd_364, (List.forall_mem_cons.mpr ⟨wd_363, (List.forall_mem_cons.mpr ⟨wd_338, (List.forall_mem_cons.mpr ⟨wd_362, (List.forall_mem_cons.mpr ⟨wd_361, (List.forall_mem_cons.mpr ⟨wd_360, (List.forall_mem_cons.mpr ⟨wd_359, (List.forall_mem_cons.mpr ⟨wd_358, (List.forall_mem_cons.mpr ⟨wd_357, (List.forall_mem_cons.mpr ⟨wd_329, (List.forall_mem_cons.mpr ⟨wd_3, (List.forall_mem_cons.mpr ⟨wd_2, (List.forall_mem_cons.mpr ⟨wd_1, (List.forall_mem_cons.mpr ⟨wd_356, (List.forall_mem_cons.mpr ⟨wd_355, (List.forall_mem_cons.mpr ⟨wd_354, (List.forall_mem_cons.mpr ⟨wd_353, (List.forall_mem_cons.mpr ⟨wd_118, (List.forall_mem_cons.mpr ⟨wd_117, (List.forall_mem_cons.mpr ⟨wd_352, (List.forall_mem_cons.mpr ⟨wd_351, (List.forall_mem_cons.mpr ⟨wd_350, (fun _ h => absurd h List.not_mem_nil)⟩)⟩)⟩)⟩)⟩)⟩)⟩)⟩)⟩)⟩)⟩)⟩)⟩)⟩)⟩)⟩)⟩)⟩)⟩)⟩)⟩)⟩)⟩)⟩)
theorem wd_366 : Cond.fieldLink RX8 30 "GrammarTunes$Tune" "count" "I" ∈ lw_tbl := List.mem_append_right _ (List.mem_append_left _ (List.mem_of_getElem? (i := 128) (rfl)))
theorem wd_367 : Cond.code yX8_shorten cX8_shorten 2 none ∈ lw_tbl := List.mem_append_right _ (List.mem_append_right _ (List.mem_append_right _ (List.mem_append_left _ (List.mem_of_getElem? (i := 14) (rfl)))))
theorem wd_368 : Cond.initialized RX8 ∈ lw_tbl := List.mem_append_right _ (List.mem_append_left _ (List.mem_of_getElem? (i := 4) (rfl)))
theorem wd_369 : Cond.selects RX8 yX8_shorten yX8_shorten ∈ lw_tbl := List.mem_append_right _ (List.mem_append_right _ (List.mem_append_right _ (List.mem_append_left _ (List.mem_of_getElem? (i := 13) (rfl)))))
theorem wd_370 : Cond.instanceMethod yX8_shorten ∈ lw_tbl := List.mem_append_right _ (List.mem_append_right _ (List.mem_append_right _ (List.mem_append_left _ (List.mem_of_getElem? (i := 12) (rfl)))))
theorem wd_371 : Cond.methodLink RX3 53 yX8_shorten ∈ lw_tbl := List.mem_append_right _ (List.mem_append_right _ (List.mem_append_right _ (List.mem_append_left _ (List.mem_of_getElem? (i := 11) (rfl)))))
theorem wd_372 : Cond.code yX3_unfold cX3_unfold 3 (some .int) ∈ lw_tbl := List.mem_append_right _ (List.mem_append_right _ (List.mem_append_right _ (List.mem_append_left _ (List.mem_of_getElem? (i := 10) (rfl)))))
theorem wd_373 : Cond.selects RX3 yX3_unfold yX3_unfold ∈ lw_tbl := List.mem_append_right _ (List.mem_append_right _ (List.mem_append_right _ (List.mem_append_left _ (List.mem_of_getElem? (i := 9) (rfl)))))
theorem wd_374 : Cond.instanceMethod yX3_unfold ∈ lw_tbl := List.mem_append_right _ (List.mem_append_right _ (List.mem_append_right _ (List.mem_append_left _ (List.mem_of_getElem? (i := 8) (rfl)))))
theorem wd_375 : Cond.methodLink RX9 121 yX3_unfold ∈ lw_tbl := List.mem_append_right _ (List.mem_append_right _ (List.mem_append_right _ (List.mem_append_left _ (List.mem_of_getElem? (i := 7) (rfl)))))
theorem wd_376 : Cond.fieldLink RX3 50 "GrammarTunes$Maker" "fullTime" "I" ∈ lw_tbl := List.mem_append_right _ (List.mem_append_right _ (List.mem_append_left _ (List.mem_of_getElem? (i := 214) (rfl))))
theorem wd_377 : Cond.fieldLink RX3 46 "GrammarTunes$Maker" "dice" "LGrammarTunes$Dice;" ∈ lw_tbl := List.mem_append_right _ (List.mem_append_right _ (List.mem_append_left _ (List.mem_of_getElem? (i := 213) (rfl))))
theorem wd_378 : Cond.fieldLink RX3 42 "GrammarTunes$Maker" "places" "LGrammarTunes$Places;" ∈ lw_tbl := List.mem_append_right _ (List.mem_append_right _ (List.mem_append_left _ (List.mem_of_getElem? (i := 212) (rfl))))
theorem wd_379 : Cond.fieldLink RX3 38 "GrammarTunes$Maker" "tune" "LGrammarTunes$Tune;" ∈ lw_tbl := List.mem_append_right _ (List.mem_append_right _ (List.mem_append_left _ (List.mem_of_getElem? (i := 211) (rfl))))
theorem wd_380 : Cond.fieldLink RX3 34 "GrammarTunes$Maker" "wanted" "[I" ∈ lw_tbl := List.mem_append_right _ (List.mem_append_right _ (List.mem_append_left _ (List.mem_of_getElem? (i := 210) (rfl))))
theorem wd_381 : Cond.fieldLink RX3 30 "GrammarTunes$Maker" "grammar" "LGrammarTunes$Grammar;" ∈ lw_tbl := List.mem_append_right _ (List.mem_append_right _ (List.mem_append_left _ (List.mem_of_getElem? (i := 209) (rfl))))
theorem wd_382 : Cond.fieldLink RX3 27 "GrammarTunes$Maker" "outer" "I" ∈ lw_tbl := List.mem_append_right _ (List.mem_append_right _ (List.mem_append_left _ (List.mem_of_getElem? (i := 221) (rfl))))
theorem wd_383 : Cond.fieldLink RX3 24 "GrammarTunes$Maker" "end" "I" ∈ lw_tbl := List.mem_append_right _ (List.mem_append_right _ (List.mem_append_left _ (List.mem_of_getElem? (i := 220) (rfl))))
theorem wd_384 : Cond.fieldLink RX3 21 "GrammarTunes$Maker" "from" "I" ∈ lw_tbl := List.mem_append_right _ (List.mem_append_right _ (List.mem_append_left _ (List.mem_of_getElem? (i := 219) (rfl))))
theorem wd_385 : Cond.fieldLink RX3 18 "GrammarTunes$Maker" "waiting" "I" ∈ lw_tbl := List.mem_append_right _ (List.mem_append_right _ (List.mem_append_left _ (List.mem_of_getElem? (i := 218) (rfl))))
theorem wd_386 : Cond.fieldLink RX3 15 "GrammarTunes$Maker" "open" "I" ∈ lw_tbl := List.mem_append_right _ (List.mem_append_right _ (List.mem_append_left _ (List.mem_of_getElem? (i := 217) (rfl))))
theorem wd_387 : Cond.fieldLink RX3 9 "GrammarTunes$Maker" "tries" "I" ∈ lw_tbl := List.mem_append_right _ (List.mem_append_right _ (List.mem_append_left _ (List.mem_of_getElem? (i := 215) (rfl))))
theorem wd_388 : Cond.methodLink RX3 3 objectInit ∈ lw_tbl := List.mem_append_right _ (List.mem_append_right _ (List.mem_append_left _ (List.mem_of_getElem? (i := 208) (rfl))))
theorem wd_389 : Cond.code yX3_init cX3_init 7 none ∈ lw_tbl := List.mem_append_right _ (List.mem_append_right _ (List.mem_append_left _ (List.mem_of_getElem? (i := 207) (rfl))))
set_option maxRecDepth 20000 in
theorem in_wsX9_make_r2 : ∀ w ∈ wsX9_make_r2, w ∈ lw_tbl := by
  unfold wsX9_make_r2
  exact (List.forall_mem_cons.mpr ⟨wd_389, (List.forall_mem_cons.mpr ⟨wd_388, (List.forall_mem_cons.mpr ⟨wd_387, (List.forall_mem_cons.mpr ⟨wd_386, (List.forall_mem_cons.mpr ⟨wd_385, (List.forall_mem_cons.mpr ⟨wd_384, (List.forall_mem_cons.mpr ⟨wd_383, (List.forall_mem_cons.mpr ⟨wd_382, (List.forall_mem_cons.mpr ⟨wd_381, (List.forall_mem_cons.mpr ⟨wd_380, (List.forall_mem_cons.mpr ⟨wd_379, (List.forall_mem_cons.mpr ⟨wd_378, (List.forall_mem_cons.mpr ⟨wd_377, (List.forall_mem_cons.mpr ⟨wd_376, (List.forall_mem_cons.mpr ⟨wd_375, (List.forall_mem_cons.mpr ⟨wd_374, (List.forall_mem_cons.mpr ⟨wd_373, (List.forall_mem_cons.mpr ⟨wd_372, (List.forall_mem_cons.mpr ⟨wd_371, (List.forall_mem_cons.mpr ⟨wd_370, (List.forall_mem_cons.mpr ⟨wd_369, (List.forall_mem_cons.mpr ⟨wd_368, (List.forall_mem_cons.mpr ⟨wd_367, (List.forall_mem_cons.mpr ⟨wd_366, (fun _ h => absurd h List.not_mem_nil)⟩)⟩)⟩)⟩)⟩)⟩)⟩)⟩)⟩)⟩)⟩)⟩)⟩)⟩)⟩)⟩)⟩)⟩)⟩)⟩)⟩)⟩)⟩)⟩)
theorem wd_390 : Cond.constant RX1 21 (1000000) ∈ lw_tbl := List.mem_append_right _ (List.mem_append_right _ (List.mem_append_right _ (List.mem_append_left _ (List.mem_of_getElem? (i := 34) (rfl)))))
theorem wd_391 : Cond.constantLong RX1 19 (9223372036854775807) ∈ lw_tbl := List.mem_append_right _ (List.mem_append_right _ (List.mem_append_right _ (List.mem_append_left _ (List.mem_of_getElem? (i := 33) (rfl)))))
theorem wd_392 : Cond.code yX1_drawUnder cX1_drawUnder 9 (some .int) ∈ lw_tbl := List.mem_append_right _ (List.mem_append_right _ (List.mem_append_right _ (List.mem_append_left _ (List.mem_of_getElem? (i := 32) (rfl)))))
theorem wd_393 : Cond.selects RX1 yX1_drawUnder yX1_drawUnder ∈ lw_tbl := List.mem_append_right _ (List.mem_append_right _ (List.mem_append_right _ (List.mem_append_left _ (List.mem_of_getElem? (i := 31) (rfl)))))
theorem wd_394 : Cond.instanceMethod yX1_drawUnder ∈ lw_tbl := List.mem_append_right _ (List.mem_append_right _ (List.mem_append_right _ (List.mem_append_left _ (List.mem_of_getElem? (i := 30) (rfl)))))
theorem wd_395 : Cond.methodLink RX3 123 yX1_drawUnder ∈ lw_tbl := List.mem_append_right _ (List.mem_append_right _ (List.mem_append_right _ (List.mem_append_left _ (List.mem_of_getElem? (i := 29) (rfl)))))
theorem wd_396 : Cond.code yX3_choose cX3_choose 7 (some .int) ∈ lw_tbl := List.mem_append_right _ (List.mem_append_right _ (List.mem_append_right _ (List.mem_append_left _ (List.mem_of_getElem? (i := 28) (rfl)))))
theorem wd_397 : Cond.selects RX3 yX3_choose yX3_choose ∈ lw_tbl := List.mem_append_left _ (List.mem_of_getElem? (i := 13) rfl)
theorem wd_398 : Cond.instanceMethod yX3_choose ∈ lw_tbl := List.mem_append_right _ (List.mem_append_right _ (List.mem_append_right _ (List.mem_append_left _ (List.mem_of_getElem? (i := 27) (rfl)))))
theorem wd_399 : Cond.methodLink RX3 110 yX3_choose ∈ lw_tbl := List.mem_append_right _ (List.mem_append_right _ (List.mem_append_right _ (List.mem_append_left _ (List.mem_of_getElem? (i := 25) (rfl)))))
theorem wd_400 : Cond.code yX3_takeAnother cX3_takeAnother 3 none ∈ lw_tbl := List.mem_append_right _ (List.mem_append_right _ (List.mem_append_right _ (List.mem_append_left _ (List.mem_of_getElem? (i := 24) (rfl)))))
theorem wd_401 : Cond.selects RX3 yX3_takeAnother yX3_takeAnother ∈ lw_tbl := List.mem_append_left _ (List.mem_of_getElem? (i := 12) rfl)
theorem wd_402 : Cond.instanceMethod yX3_takeAnother ∈ lw_tbl := List.mem_append_right _ (List.mem_append_right _ (List.mem_append_right _ (List.mem_append_left _ (List.mem_of_getElem? (i := 23) (rfl)))))
theorem wd_403 : Cond.methodLink RX3 72 yX3_takeAnother ∈ lw_tbl := List.mem_append_right _ (List.mem_append_right _ (List.mem_append_right _ (List.mem_append_left _ (List.mem_of_getElem? (i := 21) (rfl)))))
theorem wd_404 : Cond.methodLink RX3 82 yX2_hasRule ∈ lw_tbl := List.mem_append_right _ (List.mem_append_right _ (List.mem_append_right _ (List.mem_append_left _ (List.mem_of_getElem? (i := 20) (rfl)))))
theorem wd_405 : Cond.code yX3_openPlace cX3_openPlace 2 none ∈ lw_tbl := List.mem_append_right _ (List.mem_append_right _ (List.mem_append_right _ (List.mem_append_left _ (List.mem_of_getElem? (i := 19) (rfl)))))
theorem wd_406 : Cond.selects RX3 yX3_openPlace yX3_openPlace ∈ lw_tbl := List.mem_append_left _ (List.mem_of_getElem? (i := 11) rfl)
theorem wd_407 : Cond.instanceMethod yX3_openPlace ∈ lw_tbl := List.mem_append_right _ (List.mem_append_right _ (List.mem_append_right _ (List.mem_append_left _ (List.mem_of_getElem? (i := 18) (rfl)))))
theorem wd_408 : Cond.methodLink RX3 64 yX3_openPlace ∈ lw_tbl := List.mem_append_right _ (List.mem_append_right _ (List.mem_append_right _ (List.mem_append_left _ (List.mem_of_getElem? (i := 16) (rfl)))))
set_option maxRecDepth 20000 in
theorem in_wsX9_make_r3 : ∀ w ∈ wsX9_make_r3, w ∈ lw_tbl := by
  unfold wsX9_make_r3
  exact (List.forall_mem_cons.mpr ⟨wd_408, (List.forall_mem_cons.mpr ⟨wd_407, (List.forall_mem_cons.mpr ⟨wd_406, (List.forall_mem_cons.mpr ⟨wd_405, (List.forall_mem_cons.mpr ⟨wd_404, (List.forall_mem_cons.mpr ⟨wd_159, (List.forall_mem_cons.mpr ⟨wd_158, (List.forall_mem_cons.mpr ⟨wd_105, (List.forall_mem_cons.mpr ⟨wd_157, (List.forall_mem_cons.mpr ⟨wd_143, (List.forall_mem_cons.mpr ⟨wd_403, (List.forall_mem_cons.mpr ⟨wd_402, (List.forall_mem_cons.mpr ⟨wd_401, (List.forall_mem_cons.mpr ⟨wd_400, (List.forall_mem_cons.mpr ⟨wd_399, (List.forall_mem_cons.mpr ⟨wd_398, (List.forall_mem_cons.mpr ⟨wd_397, (List.forall_mem_cons.mpr ⟨wd_396, (List.forall_mem_cons.mpr ⟨wd_395, (List.forall_mem_cons.mpr ⟨wd_394, (List.forall_mem_cons.mpr ⟨wd_393, (List.forall_mem_cons.mpr ⟨wd_392, (List.forall_mem_cons.mpr ⟨wd_391, (List.forall_mem_cons.mpr ⟨wd_390, (fun _ h => absurd h List.not_mem_nil)⟩)⟩)⟩)⟩)⟩)⟩)⟩)⟩)⟩)⟩)⟩)⟩)⟩)⟩)⟩)⟩)⟩)⟩)⟩)⟩)⟩)⟩)⟩)⟩)
theorem wd_409 : Cond.methodLink RX3 155 yX8_time ∈ lw_tbl := List.mem_append_right _ (List.mem_append_right _ (List.mem_append_right _ (List.mem_append_left _ (List.mem_of_getElem? (i := 59) (rfl)))))
theorem wd_410 : Cond.fieldLink RX8 38 "GrammarTunes$Tune" "PITCH_OF_DEGREE" "[I" ∈ lw_tbl := List.mem_append_right _ (List.mem_append_right _ (List.mem_append_right _ (List.mem_append_left _ (List.mem_of_getElem? (i := 57) (rfl)))))
theorem wd_411 : Cond.code yX8_pitchOf cX8_pitchOf 2 (some .int) ∈ lw_tbl := List.mem_append_right _ (List.mem_append_right _ (List.mem_append_right _ (List.mem_append_left _ (List.mem_of_getElem? (i := 56) (rfl)))))
theorem wd_412 : Cond.static yX8_pitchOf ∈ lw_tbl := List.mem_append_right _ (List.mem_append_right _ (List.mem_append_right _ (List.mem_append_left _ (List.mem_of_getElem? (i := 55) (rfl)))))
theorem wd_413 : Cond.methodLink RX3 151 yX8_pitchOf ∈ lw_tbl := List.mem_append_right _ (List.mem_append_right _ (List.mem_append_right _ (List.mem_append_left _ (List.mem_of_getElem? (i := 54) (rfl)))))
theorem wd_414 : Cond.code yX3_addIfItFits cX3_addIfItFits 6 (some .boolean) ∈ lw_tbl := List.mem_append_right _ (List.mem_append_right _ (List.mem_append_right _ (List.mem_append_left _ (List.mem_of_getElem? (i := 53) (rfl)))))
theorem wd_415 : Cond.selects RX3 yX3_addIfItFits yX3_addIfItFits ∈ lw_tbl := List.mem_append_left _ (List.mem_of_getElem? (i := 17) rfl)
theorem wd_416 : Cond.instanceMethod yX3_addIfItFits ∈ lw_tbl := List.mem_append_right _ (List.mem_append_right _ (List.mem_append_right _ (List.mem_append_left _ (List.mem_of_getElem? (i := 52) (rfl)))))
theorem wd_417 : Cond.methodLink RX3 138 yX3_addIfItFits ∈ lw_tbl := List.mem_append_right _ (List.mem_append_right _ (List.mem_append_right _ (List.mem_append_left _ (List.mem_of_getElem? (i := 50) (rfl)))))
theorem wd_418 : Cond.code yX3_takeFirst cX3_takeFirst 3 (some .int) ∈ lw_tbl := List.mem_append_right _ (List.mem_append_right _ (List.mem_append_right _ (List.mem_append_left _ (List.mem_of_getElem? (i := 49) (rfl)))))
theorem wd_419 : Cond.selects RX3 yX3_takeFirst yX3_takeFirst ∈ lw_tbl := List.mem_append_left _ (List.mem_of_getElem? (i := 16) rfl)
theorem wd_420 : Cond.instanceMethod yX3_takeFirst ∈ lw_tbl := List.mem_append_right _ (List.mem_append_right _ (List.mem_append_right _ (List.mem_append_left _ (List.mem_of_getElem? (i := 48) (rfl)))))
theorem wd_421 : Cond.methodLink RX3 134 yX3_takeFirst ∈ lw_tbl := List.mem_append_right _ (List.mem_append_right _ (List.mem_append_right _ (List.mem_append_left _ (List.mem_of_getElem? (i := 46) (rfl)))))
theorem wd_422 : Cond.code yX3_goToLetter cX3_goToLetter 3 (some .int) ∈ lw_tbl := List.mem_append_right _ (List.mem_append_right _ (List.mem_append_right _ (List.mem_append_left _ (List.mem_of_getElem? (i := 45) (rfl)))))
theorem wd_423 : Cond.selects RX3 yX3_goToLetter yX3_goToLetter ∈ lw_tbl := List.mem_append_left _ (List.mem_of_getElem? (i := 15) rfl)
theorem wd_424 : Cond.instanceMethod yX3_goToLetter ∈ lw_tbl := List.mem_append_right _ (List.mem_append_right _ (List.mem_append_right _ (List.mem_append_left _ (List.mem_of_getElem? (i := 44) (rfl)))))
theorem wd_425 : Cond.methodLink RX3 75 yX3_goToLetter ∈ lw_tbl := List.mem_append_right _ (List.mem_append_right _ (List.mem_append_right _ (List.mem_append_left _ (List.mem_of_getElem? (i := 42) (rfl)))))
theorem wd_426 : Cond.constantLong RX1 17 (-7723592293110705685) ∈ lw_tbl := List.mem_append_right _ (List.mem_append_right _ (List.mem_append_right _ (List.mem_append_left _ (List.mem_of_getElem? (i := 41) (rfl)))))
theorem wd_427 : Cond.constantLong RX1 15 (-4658895280553007687) ∈ lw_tbl := List.mem_append_right _ (List.mem_append_right _ (List.mem_append_right _ (List.mem_append_left _ (List.mem_of_getElem? (i := 40) (rfl)))))
theorem wd_428 : Cond.constantLong RX1 13 (-7046029254386353131) ∈ lw_tbl := List.mem_append_right _ (List.mem_append_right _ (List.mem_append_right _ (List.mem_append_left _ (List.mem_of_getElem? (i := 39) (rfl)))))
theorem wd_429 : Cond.code yX1_draw cX1_draw 3 (some .long) ∈ lw_tbl := List.mem_append_right _ (List.mem_append_right _ (List.mem_append_right _ (List.mem_append_left _ (List.mem_of_getElem? (i := 38) (rfl)))))
theorem wd_430 : Cond.selects RX1 yX1_draw yX1_draw ∈ lw_tbl := List.mem_append_left _ (List.mem_of_getElem? (i := 14) rfl)
theorem wd_431 : Cond.instanceMethod yX1_draw ∈ lw_tbl := List.mem_append_right _ (List.mem_append_right _ (List.mem_append_right _ (List.mem_append_left _ (List.mem_of_getElem? (i := 37) (rfl)))))
theorem wd_432 : Cond.methodLink RX1 22 yX1_draw ∈ lw_tbl := List.mem_append_right _ (List.mem_append_right _ (List.mem_append_right _ (List.mem_append_left _ (List.mem_of_getElem? (i := 35) (rfl)))))
set_option maxRecDepth 20000 in
theorem in_wsX9_make_r4 : ∀ w ∈ wsX9_make_r4, w ∈ lw_tbl := by
  unfold wsX9_make_r4
  exact (List.forall_mem_cons.mpr ⟨wd_432, (List.forall_mem_cons.mpr ⟨wd_431, (List.forall_mem_cons.mpr ⟨wd_430, (List.forall_mem_cons.mpr ⟨wd_429, (List.forall_mem_cons.mpr ⟨wd_428, (List.forall_mem_cons.mpr ⟨wd_427, (List.forall_mem_cons.mpr ⟨wd_426, (List.forall_mem_cons.mpr ⟨wd_425, (List.forall_mem_cons.mpr ⟨wd_424, (List.forall_mem_cons.mpr ⟨wd_423, (List.forall_mem_cons.mpr ⟨wd_422, (List.forall_mem_cons.mpr ⟨wd_421, (List.forall_mem_cons.mpr ⟨wd_420, (List.forall_mem_cons.mpr ⟨wd_419, (List.forall_mem_cons.mpr ⟨wd_418, (List.forall_mem_cons.mpr ⟨wd_417, (List.forall_mem_cons.mpr ⟨wd_416, (List.forall_mem_cons.mpr ⟨wd_415, (List.forall_mem_cons.mpr ⟨wd_414, (List.forall_mem_cons.mpr ⟨wd_413, (List.forall_mem_cons.mpr ⟨wd_412, (List.forall_mem_cons.mpr ⟨wd_411, (List.forall_mem_cons.mpr ⟨wd_410, (List.forall_mem_cons.mpr ⟨wd_409, (fun _ h => absurd h List.not_mem_nil)⟩)⟩)⟩)⟩)⟩)⟩)⟩)⟩)⟩)⟩)⟩)⟩)⟩)⟩)⟩)⟩)⟩)⟩)⟩)⟩)⟩)⟩)⟩)⟩)
theorem wd_433 : Cond.fieldLink RX8 27 "GrammarTunes$Tune" "alike" "[I" ∈ lw_tbl := List.mem_append_right _ (List.mem_append_left _ (List.mem_of_getElem? (i := 127) (rfl)))
theorem wd_434 : Cond.code yX8_alikeWith cX8_alikeWith 2 (some .int) ∈ lw_tbl := List.mem_append_right _ (List.mem_append_right _ (List.mem_append_right _ (List.mem_append_left _ (List.mem_of_getElem? (i := 78) (rfl)))))
theorem wd_435 : Cond.selects RX8 yX8_alikeWith yX8_alikeWith ∈ lw_tbl := List.mem_append_right _ (List.mem_append_right _ (List.mem_append_right _ (List.mem_append_left _ (List.mem_of_getElem? (i := 77) (rfl)))))
theorem wd_436 : Cond.instanceMethod yX8_alikeWith ∈ lw_tbl := List.mem_append_right _ (List.mem_append_right _ (List.mem_append_right _ (List.mem_append_left _ (List.mem_of_getElem? (i := 76) (rfl)))))
theorem wd_437 : Cond.methodLink RX3 180 yX8_alikeWith ∈ lw_tbl := List.mem_append_right _ (List.mem_append_right _ (List.mem_append_right _ (List.mem_append_left _ (List.mem_of_getElem? (i := 75) (rfl)))))
theorem wd_438 : Cond.fieldLink RX8 9 "GrammarTunes$Tune" "pitch" "[I" ∈ lw_tbl := List.mem_append_right _ (List.mem_append_left _ (List.mem_of_getElem? (i := 118) (rfl)))
theorem wd_439 : Cond.fieldLink RX8 24 "GrammarTunes$Tune" "latestNote" "[I" ∈ lw_tbl := List.mem_append_right _ (List.mem_append_left _ (List.mem_of_getElem? (i := 126) (rfl)))
theorem wd_440 : Cond.code yX8_latestPitch cX8_latestPitch 2 (some .int) ∈ lw_tbl := List.mem_append_right _ (List.mem_append_right _ (List.mem_append_right _ (List.mem_append_left _ (List.mem_of_getElem? (i := 71) (rfl)))))
theorem wd_441 : Cond.selects RX8 yX8_latestPitch yX8_latestPitch ∈ lw_tbl := List.mem_append_right _ (List.mem_append_right _ (List.mem_append_right _ (List.mem_append_left _ (List.mem_of_getElem? (i := 70) (rfl)))))
theorem wd_442 : Cond.instanceMethod yX8_latestPitch ∈ lw_tbl := List.mem_append_right _ (List.mem_append_right _ (List.mem_append_right _ (List.mem_append_left _ (List.mem_of_getElem? (i := 69) (rfl)))))
theorem wd_443 : Cond.methodLink RX3 172 yX8_latestPitch ∈ lw_tbl := List.mem_append_right _ (List.mem_append_right _ (List.mem_append_right _ (List.mem_append_left _ (List.mem_of_getElem? (i := 68) (rfl)))))
theorem wd_444 : Cond.code Lib.Math.abs.name Lib.Math.abs.code 1 (some .int) ∈ lw_tbl := List.mem_append_right _ (List.mem_append_right _ (List.mem_append_right _ (List.mem_append_left _ (List.mem_of_getElem? (i := 74) (by decide +kernel)))))
theorem wd_445 : Cond.initialized "java/lang/Math" ∈ lw_tbl := List.mem_append_right _ (List.mem_append_left _ (List.mem_of_getElem? (i := 14) (rfl)))
theorem wd_446 : Cond.static Lib.Math.abs.name ∈ lw_tbl := List.mem_append_right _ (List.mem_append_right _ (List.mem_append_right _ (List.mem_append_left _ (List.mem_of_getElem? (i := 73) (by decide +kernel)))))
theorem wd_447 : Cond.methodLink RX3 175 Lib.Math.abs.name ∈ lw_tbl := List.mem_append_right _ (List.mem_append_right _ (List.mem_append_right _ (List.mem_append_left _ (List.mem_of_getElem? (i := 72) (by decide +kernel)))))
theorem wd_448 : Cond.code yX3_pitchFits cX3_pitchFits 3 (some .boolean) ∈ lw_tbl := List.mem_append_right _ (List.mem_append_right _ (List.mem_append_right _ (List.mem_append_left _ (List.mem_of_getElem? (i := 66) (rfl)))))
theorem wd_449 : Cond.selects RX3 yX3_pitchFits yX3_pitchFits ∈ lw_tbl := List.mem_append_left _ (List.mem_of_getElem? (i := 18) rfl)
theorem wd_450 : Cond.instanceMethod yX3_pitchFits ∈ lw_tbl := List.mem_append_right _ (List.mem_append_right _ (List.mem_append_right _ (List.mem_append_left _ (List.mem_of_getElem? (i := 65) (rfl)))))
theorem wd_451 : Cond.methodLink RX3 161 yX3_pitchFits ∈ lw_tbl := List.mem_append_right _ (List.mem_append_right _ (List.mem_append_right _ (List.mem_append_left _ (List.mem_of_getElem? (i := 63) (rfl)))))
theorem wd_452 : Cond.fieldLink RX8 15 "GrammarTunes$Tune" "length" "[I" ∈ lw_tbl := List.mem_append_right _ (List.mem_append_left _ (List.mem_of_getElem? (i := 120) (rfl)))
theorem wd_453 : Cond.fieldLink RX8 18 "GrammarTunes$Tune" "begin" "[I" ∈ lw_tbl := List.mem_append_right _ (List.mem_append_left _ (List.mem_of_getElem? (i := 122) (rfl)))
theorem wd_454 : Cond.code yX8_time cX8_time 1 (some .int) ∈ lw_tbl := List.mem_append_right _ (List.mem_append_right _ (List.mem_append_right _ (List.mem_append_left _ (List.mem_of_getElem? (i := 62) (rfl)))))
theorem wd_455 : Cond.selects RX8 yX8_time yX8_time ∈ lw_tbl := List.mem_append_right _ (List.mem_append_right _ (List.mem_append_right _ (List.mem_append_left _ (List.mem_of_getElem? (i := 61) (rfl)))))
theorem wd_456 : Cond.instanceMethod yX8_time ∈ lw_tbl := List.mem_append_right _ (List.mem_append_right _ (List.mem_append_right _ (List.mem_append_left _ (List.mem_of_getElem? (i := 60) (rfl)))))
set_option maxRecDepth 20000 in
theorem in_wsX9_make_r5 : ∀ w ∈ wsX9_make_r5, w ∈ lw_tbl := by
  unfold wsX9_make_r5
  exact (List.forall_mem_cons.mpr ⟨wd_456, (List.forall_mem_cons.mpr ⟨wd_455, (List.forall_mem_cons.mpr ⟨wd_454, (List.forall_mem_cons.mpr ⟨wd_453, (List.forall_mem_cons.mpr ⟨wd_452, (List.forall_mem_cons.mpr ⟨wd_451, (List.forall_mem_cons.mpr ⟨wd_450, (List.forall_mem_cons.mpr ⟨wd_449, (List.forall_mem_cons.mpr ⟨wd_448, (List.forall_mem_cons.mpr ⟨wd_447, (List.forall_mem_cons.mpr ⟨wd_446, (List.forall_mem_cons.mpr ⟨wd_445, (List.forall_mem_cons.mpr ⟨wd_444, (List.forall_mem_cons.mpr ⟨wd_443, (List.forall_mem_cons.mpr ⟨wd_442, (List.forall_mem_cons.mpr ⟨wd_441, (List.forall_mem_cons.mpr ⟨wd_440, (List.forall_mem_cons.mpr ⟨wd_439, (List.forall_mem_cons.mpr ⟨wd_438, (List.forall_mem_cons.mpr ⟨wd_437, (List.forall_mem_cons.mpr ⟨wd_436, (List.forall_mem_cons.mpr ⟨wd_435, (List.forall_mem_cons.mpr ⟨wd_434, (List.forall_mem_cons.mpr ⟨wd_433, (fun _ h => absurd h List.not_mem_nil)⟩)⟩)⟩)⟩)⟩)⟩)⟩)⟩)⟩)⟩)⟩)⟩)⟩)⟩)⟩)⟩)⟩)⟩)⟩)⟩)⟩)⟩)⟩)⟩)
theorem wd_457 : Cond.methodLink RX9 127 yX8_shorten ∈ lw_tbl := List.mem_append_right _ (List.mem_append_right _ (List.mem_append_right _ (List.mem_append_left _ (List.mem_of_getElem? (i := 94) (rfl)))))
theorem wd_458 : Cond.code yX8_latestDegree cX8_latestDegree 2 (some .int) ∈ lw_tbl := List.mem_append_right _ (List.mem_append_right _ (List.mem_append_right _ (List.mem_append_left _ (List.mem_of_getElem? (i := 93) (rfl)))))
theorem wd_459 : Cond.selects RX8 yX8_latestDegree yX8_latestDegree ∈ lw_tbl := List.mem_append_right _ (List.mem_append_right _ (List.mem_append_right _ (List.mem_append_left _ (List.mem_of_getElem? (i := 92) (rfl)))))
theorem wd_460 : Cond.instanceMethod yX8_latestDegree ∈ lw_tbl := List.mem_append_right _ (List.mem_append_right _ (List.mem_append_right _ (List.mem_append_left _ (List.mem_of_getElem? (i := 91) (rfl)))))
theorem wd_461 : Cond.methodLink RX3 183 yX8_latestDegree ∈ lw_tbl := List.mem_append_right _ (List.mem_append_right _ (List.mem_append_right _ (List.mem_append_left _ (List.mem_of_getElem? (i := 90) (rfl)))))
theorem wd_462 : Cond.code yX3_isWhole cX3_isWhole 1 (some .boolean) ∈ lw_tbl := List.mem_append_right _ (List.mem_append_right _ (List.mem_append_right _ (List.mem_append_left _ (List.mem_of_getElem? (i := 89) (rfl)))))
theorem wd_463 : Cond.selects RX3 yX3_isWhole yX3_isWhole ∈ lw_tbl := List.mem_append_left _ (List.mem_of_getElem? (i := 19) rfl)
theorem wd_464 : Cond.instanceMethod yX3_isWhole ∈ lw_tbl := List.mem_append_right _ (List.mem_append_right _ (List.mem_append_right _ (List.mem_append_left _ (List.mem_of_getElem? (i := 88) (rfl)))))
theorem wd_465 : Cond.methodLink RX3 141 yX3_isWhole ∈ lw_tbl := List.mem_append_right _ (List.mem_append_right _ (List.mem_append_right _ (List.mem_append_left _ (List.mem_of_getElem? (i := 86) (rfl)))))
theorem wd_466 : Cond.methodLink RX8 48 yX8_alikeWith ∈ lw_tbl := List.mem_append_right _ (List.mem_append_right _ (List.mem_append_right _ (List.mem_append_left _ (List.mem_of_getElem? (i := 85) (rfl)))))
theorem wd_467 : Cond.methodLink RX8 45 yX8_time ∈ lw_tbl := List.mem_append_right _ (List.mem_append_right _ (List.mem_append_right _ (List.mem_append_left _ (List.mem_of_getElem? (i := 84) (rfl)))))
theorem wd_468 : Cond.fieldLink RX8 21 "GrammarTunes$Tune" "degree" "[I" ∈ lw_tbl := List.mem_append_right _ (List.mem_append_left _ (List.mem_of_getElem? (i := 124) (rfl)))
theorem wd_469 : Cond.code yX8_add cX8_add 7 none ∈ lw_tbl := List.mem_append_right _ (List.mem_append_right _ (List.mem_append_right _ (List.mem_append_left _ (List.mem_of_getElem? (i := 83) (rfl)))))
theorem wd_470 : Cond.selects RX8 yX8_add yX8_add ∈ lw_tbl := List.mem_append_right _ (List.mem_append_right _ (List.mem_append_right _ (List.mem_append_left _ (List.mem_of_getElem? (i := 82) (rfl)))))
theorem wd_471 : Cond.instanceMethod yX8_add ∈ lw_tbl := List.mem_append_right _ (List.mem_append_right _ (List.mem_append_right _ (List.mem_append_left _ (List.mem_of_getElem? (i := 81) (rfl)))))
theorem wd_472 : Cond.methodLink RX3 164 yX8_add ∈ lw_tbl := List.mem_append_right _ (List.mem_append_right _ (List.mem_append_right _ (List.mem_append_left _ (List.mem_of_getElem? (i := 80) (rfl)))))
theorem wd_473 : Cond.methodLink RX8 41 yX8_latestPitch ∈ lw_tbl := List.mem_append_right _ (List.mem_append_right _ (List.mem_append_right _ (List.mem_append_left _ (List.mem_of_getElem? (i := 79) (rfl)))))
set_option maxRecDepth 20000 in
theorem in_wsX9_make_r6 : ∀ w ∈ wsX9_make_r6, w ∈ lw_tbl := by
  unfold wsX9_make_r6
  exact (List.forall_mem_cons.mpr ⟨wd_473, (List.forall_mem_cons.mpr ⟨wd_472, (List.forall_mem_cons.mpr ⟨wd_471, (List.forall_mem_cons.mpr ⟨wd_470, (List.forall_mem_cons.mpr ⟨wd_469, (List.forall_mem_cons.mpr ⟨wd_468, (List.forall_mem_cons.mpr ⟨wd_467, (List.forall_mem_cons.mpr ⟨wd_466, (List.forall_mem_cons.mpr ⟨wd_465, (List.forall_mem_cons.mpr ⟨wd_464, (List.forall_mem_cons.mpr ⟨wd_463, (List.forall_mem_cons.mpr ⟨wd_462, (List.forall_mem_cons.mpr ⟨wd_461, (List.forall_mem_cons.mpr ⟨wd_460, (List.forall_mem_cons.mpr ⟨wd_459, (List.forall_mem_cons.mpr ⟨wd_458, (List.forall_mem_cons.mpr ⟨wd_457, (fun _ h => absurd h List.not_mem_nil)⟩)⟩)⟩)⟩)⟩)⟩)⟩)⟩)⟩)⟩)⟩)⟩)⟩)⟩)⟩)⟩)⟩)
theorem wd_474 : Cond.lays RX3 "GrammarTunes$Maker" "outer" "I" ∈ lw_tbl := List.mem_append_right _ (List.mem_append_right _ (List.mem_append_right _ (List.mem_append_left _ (List.mem_of_getElem? (i := 4) (rfl)))))
theorem wd_475 : Cond.lays RX3 "GrammarTunes$Maker" "end" "I" ∈ lw_tbl := List.mem_append_right _ (List.mem_append_right _ (List.mem_append_right _ (List.mem_append_left _ (List.mem_of_getElem? (i := 2) (rfl)))))
theorem wd_476 : Cond.lays RX3 "GrammarTunes$Maker" "from" "I" ∈ lw_tbl := List.mem_append_right _ (List.mem_append_right _ (List.mem_append_right _ (List.mem_append_left _ (List.mem_of_getElem? (i := 0) (rfl)))))
theorem wd_477 : Cond.lays RX3 "GrammarTunes$Maker" "waiting" "I" ∈ lw_tbl := List.mem_append_right _ (List.mem_append_right _ (List.mem_append_left _ (List.mem_of_getElem? (i := 238) (rfl))))
theorem wd_478 : Cond.lays RX3 "GrammarTunes$Maker" "open" "I" ∈ lw_tbl := List.mem_append_right _ (List.mem_append_right _ (List.mem_append_left _ (List.mem_of_getElem? (i := 236) (rfl))))
theorem wd_479 : Cond.lays RX3 "GrammarTunes$Maker" "tries" "I" ∈ lw_tbl := List.mem_append_right _ (List.mem_append_right _ (List.mem_append_left _ (List.mem_of_getElem? (i := 234) (rfl))))
theorem wd_480 : Cond.laysFinal RX3 "GrammarTunes$Maker" "fullTime" "I" ∈ lw_tbl := List.mem_append_right _ (List.mem_append_right _ (List.mem_append_left _ (List.mem_of_getElem? (i := 232) (rfl))))
theorem wd_481 : Cond.laysFinal RX3 "GrammarTunes$Maker" "dice" "LGrammarTunes$Dice;" ∈ lw_tbl := List.mem_append_right _ (List.mem_append_right _ (List.mem_append_left _ (List.mem_of_getElem? (i := 230) (rfl))))
theorem wd_482 : Cond.laysFinal RX3 "GrammarTunes$Maker" "places" "LGrammarTunes$Places;" ∈ lw_tbl := List.mem_append_right _ (List.mem_append_right _ (List.mem_append_left _ (List.mem_of_getElem? (i := 228) (rfl))))
theorem wd_483 : Cond.laysFinal RX3 "GrammarTunes$Maker" "tune" "LGrammarTunes$Tune;" ∈ lw_tbl := List.mem_append_right _ (List.mem_append_right _ (List.mem_append_left _ (List.mem_of_getElem? (i := 226) (rfl))))
theorem wd_484 : Cond.laysFinal RX3 "GrammarTunes$Maker" "wanted" "[I" ∈ lw_tbl := List.mem_append_right _ (List.mem_append_right _ (List.mem_append_left _ (List.mem_of_getElem? (i := 224) (rfl))))
theorem wd_485 : Cond.laysFinal RX3 "GrammarTunes$Maker" "grammar" "LGrammarTunes$Grammar;" ∈ lw_tbl := List.mem_append_right _ (List.mem_append_right _ (List.mem_append_left _ (List.mem_of_getElem? (i := 222) (rfl))))
set_option maxRecDepth 20000 in
theorem us_X3 : ∀ w ∈ u_ws RX3 TX3 12, w ∈ lw_tbl := (show ∀ w ∈ ([Cond.laysFinal RX3 "GrammarTunes$Maker" "grammar" "LGrammarTunes$Grammar;", Cond.laysFinal RX3 "GrammarTunes$Maker" "wanted" "[I", Cond.laysFinal RX3 "GrammarTunes$Maker" "tune" "LGrammarTunes$Tune;", Cond.laysFinal RX3 "GrammarTunes$Maker" "places" "LGrammarTunes$Places;", Cond.laysFinal RX3 "GrammarTunes$Maker" "dice" "LGrammarTunes$Dice;", Cond.laysFinal RX3 "GrammarTunes$Maker" "fullTime" "I", Cond.lays RX3 "GrammarTunes$Maker" "tries" "I", Cond.lays RX3 "GrammarTunes$Maker" "open" "I", Cond.lays RX3 "GrammarTunes$Maker" "waiting" "I", Cond.lays RX3 "GrammarTunes$Maker" "from" "I", Cond.lays RX3 "GrammarTunes$Maker" "end" "I", Cond.lays RX3 "GrammarTunes$Maker" "outer" "I"] : List Cond), w ∈ lw_tbl from (List.forall_mem_cons.mpr ⟨wd_485, (List.forall_mem_cons.mpr ⟨wd_484, (List.forall_mem_cons.mpr ⟨wd_483, (List.forall_mem_cons.mpr ⟨wd_482, (List.forall_mem_cons.mpr ⟨wd_481, (List.forall_mem_cons.mpr ⟨wd_480, (List.forall_mem_cons.mpr ⟨wd_479, (List.forall_mem_cons.mpr ⟨wd_478, (List.forall_mem_cons.mpr ⟨wd_477, (List.forall_mem_cons.mpr ⟨wd_476, (List.forall_mem_cons.mpr ⟨wd_475, (List.forall_mem_cons.mpr ⟨wd_474, (fun _ h => absurd h List.not_mem_nil)⟩)⟩)⟩)⟩)⟩)⟩)⟩)⟩)⟩)⟩)⟩)⟩))
theorem wd_486 : Cond.lays RX1 "GrammarTunes$Dice" "state" "J" ∈ lw_tbl := List.mem_append_right _ (List.mem_append_right _ (List.mem_append_left _ (List.mem_of_getElem? (i := 202) (rfl))))
set_option maxRecDepth 20000 in
theorem us_X1 : ∀ w ∈ u_ws RX1 TX1 1, w ∈ lw_tbl := (show ∀ w ∈ ([Cond.lays RX1 "GrammarTunes$Dice" "state" "J"] : List Cond), w ∈ lw_tbl from (List.forall_mem_cons.mpr ⟨wd_486, (fun _ h => absurd h List.not_mem_nil)⟩))
theorem wd_487 : Cond.laysFinal RX4 "GrammarTunes$Places" "restOuter" "[I" ∈ lw_tbl := List.mem_append_right _ (List.mem_append_left _ (List.mem_of_getElem? (i := 182) (rfl)))
theorem wd_488 : Cond.laysFinal RX4 "GrammarTunes$Places" "restEnd" "[I" ∈ lw_tbl := List.mem_append_right _ (List.mem_append_left _ (List.mem_of_getElem? (i := 180) (rfl)))
theorem wd_489 : Cond.laysFinal RX4 "GrammarTunes$Places" "restFrom" "[I" ∈ lw_tbl := List.mem_append_right _ (List.mem_append_left _ (List.mem_of_getElem? (i := 178) (rfl)))
theorem wd_490 : Cond.laysFinal RX4 "GrammarTunes$Places" "waiting" "[I" ∈ lw_tbl := List.mem_append_right _ (List.mem_append_left _ (List.mem_of_getElem? (i := 176) (rfl)))
theorem wd_491 : Cond.laysFinal RX4 "GrammarTunes$Places" "items" "[I" ∈ lw_tbl := List.mem_append_right _ (List.mem_append_left _ (List.mem_of_getElem? (i := 174) (rfl)))
theorem wd_492 : Cond.laysFinal RX4 "GrammarTunes$Places" "tried" "[J" ∈ lw_tbl := List.mem_append_right _ (List.mem_append_left _ (List.mem_of_getElem? (i := 172) (rfl)))
theorem wd_493 : Cond.laysFinal RX4 "GrammarTunes$Places" "weightLeft" "[I" ∈ lw_tbl := List.mem_append_right _ (List.mem_append_left _ (List.mem_of_getElem? (i := 170) (rfl)))
theorem wd_494 : Cond.laysFinal RX4 "GrammarTunes$Places" "letter" "[I" ∈ lw_tbl := List.mem_append_right _ (List.mem_append_left _ (List.mem_of_getElem? (i := 168) (rfl)))
set_option maxRecDepth 20000 in
theorem us_X4 : ∀ w ∈ u_ws RX4 TX4 8, w ∈ lw_tbl := (show ∀ w ∈ ([Cond.laysFinal RX4 "GrammarTunes$Places" "letter" "[I", Cond.laysFinal RX4 "GrammarTunes$Places" "weightLeft" "[I", Cond.laysFinal RX4 "GrammarTunes$Places" "tried" "[J", Cond.laysFinal RX4 "GrammarTunes$Places" "items" "[I", Cond.laysFinal RX4 "GrammarTunes$Places" "waiting" "[I", Cond.laysFinal RX4 "GrammarTunes$Places" "restFrom" "[I", Cond.laysFinal RX4 "GrammarTunes$Places" "restEnd" "[I", Cond.laysFinal RX4 "GrammarTunes$Places" "restOuter" "[I"] : List Cond), w ∈ lw_tbl from (List.forall_mem_cons.mpr ⟨wd_494, (List.forall_mem_cons.mpr ⟨wd_493, (List.forall_mem_cons.mpr ⟨wd_492, (List.forall_mem_cons.mpr ⟨wd_491, (List.forall_mem_cons.mpr ⟨wd_490, (List.forall_mem_cons.mpr ⟨wd_489, (List.forall_mem_cons.mpr ⟨wd_488, (List.forall_mem_cons.mpr ⟨wd_487, (fun _ h => absurd h List.not_mem_nil)⟩)⟩)⟩)⟩)⟩)⟩)⟩)⟩))
theorem wd_495 : Cond.lays RX8 "GrammarTunes$Tune" "count" "I" ∈ lw_tbl := List.mem_append_right _ (List.mem_append_left _ (List.mem_of_getElem? (i := 143) (rfl)))
theorem wd_496 : Cond.laysFinal RX8 "GrammarTunes$Tune" "alike" "[I" ∈ lw_tbl := List.mem_append_right _ (List.mem_append_left _ (List.mem_of_getElem? (i := 141) (rfl)))
theorem wd_497 : Cond.laysFinal RX8 "GrammarTunes$Tune" "latestNote" "[I" ∈ lw_tbl := List.mem_append_right _ (List.mem_append_left _ (List.mem_of_getElem? (i := 139) (rfl)))
theorem wd_498 : Cond.laysFinal RX8 "GrammarTunes$Tune" "degree" "[I" ∈ lw_tbl := List.mem_append_right _ (List.mem_append_left _ (List.mem_of_getElem? (i := 137) (rfl)))
theorem wd_499 : Cond.laysFinal RX8 "GrammarTunes$Tune" "begin" "[I" ∈ lw_tbl := List.mem_append_right _ (List.mem_append_left _ (List.mem_of_getElem? (i := 135) (rfl)))
theorem wd_500 : Cond.laysFinal RX8 "GrammarTunes$Tune" "length" "[I" ∈ lw_tbl := List.mem_append_right _ (List.mem_append_left _ (List.mem_of_getElem? (i := 133) (rfl)))
theorem wd_501 : Cond.laysFinal RX8 "GrammarTunes$Tune" "pitch" "[I" ∈ lw_tbl := List.mem_append_right _ (List.mem_append_left _ (List.mem_of_getElem? (i := 131) (rfl)))
set_option maxRecDepth 20000 in
theorem us_X8 : ∀ w ∈ u_ws RX8 TX8 7, w ∈ lw_tbl := (show ∀ w ∈ ([Cond.laysFinal RX8 "GrammarTunes$Tune" "pitch" "[I", Cond.laysFinal RX8 "GrammarTunes$Tune" "length" "[I", Cond.laysFinal RX8 "GrammarTunes$Tune" "begin" "[I", Cond.laysFinal RX8 "GrammarTunes$Tune" "degree" "[I", Cond.laysFinal RX8 "GrammarTunes$Tune" "latestNote" "[I", Cond.laysFinal RX8 "GrammarTunes$Tune" "alike" "[I", Cond.lays RX8 "GrammarTunes$Tune" "count" "I"] : List Cond), w ∈ lw_tbl from (List.forall_mem_cons.mpr ⟨wd_501, (List.forall_mem_cons.mpr ⟨wd_500, (List.forall_mem_cons.mpr ⟨wd_499, (List.forall_mem_cons.mpr ⟨wd_498, (List.forall_mem_cons.mpr ⟨wd_497, (List.forall_mem_cons.mpr ⟨wd_496, (List.forall_mem_cons.mpr ⟨wd_495, (fun _ h => absurd h List.not_mem_nil)⟩)⟩)⟩)⟩)⟩)⟩)⟩))
set_option maxRecDepth 20000 in
theorem in_wsX9_make : ∀ w ∈ wsX9_make, w ∈ lw_tbl := by
  unfold wsX9_make
  exact (List.forall_mem_cons.mpr ⟨wd_349, (List.forall_mem_append.mpr ⟨(List.forall_mem_append.mpr ⟨(List.forall_mem_append.mpr ⟨(List.forall_mem_append.mpr ⟨(List.forall_mem_append.mpr ⟨(List.forall_mem_append.mpr ⟨(List.forall_mem_append.mpr ⟨in_wsX9_make_r1, (List.forall_mem_append.mpr ⟨in_wsX9_make_r2, (List.forall_mem_append.mpr ⟨in_wsX9_make_r3, (List.forall_mem_append.mpr ⟨in_wsX9_make_r4, (List.forall_mem_append.mpr ⟨in_wsX9_make_r5, in_wsX9_make_r6⟩)⟩)⟩)⟩)⟩), us_X9⟩), us_X2⟩), us_X3⟩), us_X1⟩), us_X4⟩), us_X8⟩)⟩)
theorem wd_502 : Cond.selects RX9 yX9_make yX9_make ∈ lw_tbl := List.mem_append_right _ (List.mem_append_right _ (List.mem_append_left _ (List.mem_of_getElem? (i := 191) (rfl))))
theorem wd_503 : Cond.instanceMethod yX9_make ∈ lw_tbl := List.mem_append_right _ (List.mem_append_right _ (List.mem_append_left _ (List.mem_of_getElem? (i := 190) (rfl))))
theorem wd_504 : Cond.methodLink RL 39 yX9_make ∈ lw_tbl := List.mem_append_right _ (List.mem_append_right _ (List.mem_append_left _ (List.mem_of_getElem? (i := 189) (rfl))))
theorem wd_505 : Cond.code yX10_make cX10_make 7 (some .int) ∈ lw_tbl := List.mem_append_right _ (List.mem_append_right _ (List.mem_append_right _ (List.mem_append_right _ (List.mem_append_left _ (List.mem_of_getElem? (i := 204) (rfl))))))
theorem wd_506 : Cond.code yX10_put cX10_put 2 none ∈ lw_tbl := List.mem_append_right _ (List.mem_append_right _ (List.mem_append_right _ (List.mem_append_right _ (List.mem_append_left _ (List.mem_of_getElem? (i := 208) (rfl))))))
theorem wd_507 : Cond.selects RX10 yX10_put yX10_put ∈ lw_tbl := List.mem_append_left _ (List.mem_of_getElem? (i := 34) rfl)
theorem wd_508 : Cond.instanceMethod yX10_put ∈ lw_tbl := List.mem_append_right _ (List.mem_append_right _ (List.mem_append_right _ (List.mem_append_right _ (List.mem_append_left _ (List.mem_of_getElem? (i := 207) (rfl))))))
theorem wd_509 : Cond.methodLink RX10 215 yX10_put ∈ lw_tbl := List.mem_append_right _ (List.mem_append_right _ (List.mem_append_right _ (List.mem_append_right _ (List.mem_append_left _ (List.mem_of_getElem? (i := 205) (rfl))))))
theorem wd_510 : Cond.fieldLink RX10 77 "GrammarTunesModel" "cellNext" "[I" ∈ lw_tbl := List.mem_append_right _ (List.mem_append_right _ (List.mem_append_right _ (List.mem_append_left _ (List.mem_of_getElem? (i := 235) (rfl)))))
theorem wd_511 : Cond.fieldLink RX10 74 "GrammarTunesModel" "cellSign" "[I" ∈ lw_tbl := List.mem_append_right _ (List.mem_append_right _ (List.mem_append_right _ (List.mem_append_left _ (List.mem_of_getElem? (i := 234) (rfl)))))
theorem wd_512 : Cond.fieldLink RX10 185 "GrammarTunesModel" "depth" "I" ∈ lw_tbl := List.mem_append_right _ (List.mem_append_right _ (List.mem_append_right _ (List.mem_append_right _ (List.mem_append_left _ (List.mem_of_getElem? (i := 14) (rfl))))))
theorem wd_513 : Cond.fieldLink RX10 206 "GrammarTunesModel" "run" "I" ∈ lw_tbl := List.mem_append_right _ (List.mem_append_right _ (List.mem_append_right _ (List.mem_append_right _ (List.mem_append_left _ (List.mem_of_getElem? (i := 3) (rfl))))))
theorem wd_514 : Cond.fieldLink RX10 203 "GrammarTunesModel" "lastDegree" "I" ∈ lw_tbl := List.mem_append_right _ (List.mem_append_right _ (List.mem_append_right _ (List.mem_append_right _ (List.mem_append_left _ (List.mem_of_getElem? (i := 2) (rfl))))))
theorem wd_515 : Cond.fieldLink RX10 200 "GrammarTunesModel" "lastPitch" "I" ∈ lw_tbl := List.mem_append_right _ (List.mem_append_right _ (List.mem_append_right _ (List.mem_append_right _ (List.mem_append_left _ (List.mem_of_getElem? (i := 1) (rfl))))))
theorem wd_516 : Cond.fieldLink RX10 197 "GrammarTunesModel" "items" "I" ∈ lw_tbl := List.mem_append_right _ (List.mem_append_right _ (List.mem_append_right _ (List.mem_append_right _ (List.mem_append_left _ (List.mem_of_getElem? (i := 0) (rfl))))))
theorem wd_517 : Cond.fieldLink RX10 194 "GrammarTunesModel" "time" "I" ∈ lw_tbl := List.mem_append_right _ (List.mem_append_right _ (List.mem_append_right _ (List.mem_append_left _ (List.mem_of_getElem? (i := 239) (rfl)))))
theorem wd_518 : Cond.fieldLink RX10 191 "GrammarTunesModel" "count" "I" ∈ lw_tbl := List.mem_append_right _ (List.mem_append_right _ (List.mem_append_right _ (List.mem_append_left _ (List.mem_of_getElem? (i := 238) (rfl)))))
theorem wd_519 : Cond.fieldLink RX10 188 "GrammarTunesModel" "head" "I" ∈ lw_tbl := List.mem_append_right _ (List.mem_append_right _ (List.mem_append_right _ (List.mem_append_left _ (List.mem_of_getElem? (i := 237) (rfl)))))
theorem wd_520 : Cond.fieldLink RX10 209 "GrammarTunesModel" "cells" "I" ∈ lw_tbl := List.mem_append_right _ (List.mem_append_right _ (List.mem_append_right _ (List.mem_append_left _ (List.mem_of_getElem? (i := 236) (rfl)))))
theorem wd_521 : Cond.fieldLink RX10 218 "GrammarTunesModel" "tune" "I" ∈ lw_tbl := List.mem_append_right _ (List.mem_append_right _ (List.mem_append_right _ (List.mem_append_left _ (List.mem_of_getElem? (i := 231) (rfl)))))
theorem wd_522 : Cond.fieldLink RX10 212 "GrammarTunesModel" "tries" "I" ∈ lw_tbl := List.mem_append_right _ (List.mem_append_right _ (List.mem_append_right _ (List.mem_append_left _ (List.mem_of_getElem? (i := 232) (rfl)))))
theorem wd_523 : Cond.fieldLink RX10 166 "GrammarTunesModel" "state" "J" ∈ lw_tbl := List.mem_append_right _ (List.mem_append_right _ (List.mem_append_right _ (List.mem_append_left _ (List.mem_of_getElem? (i := 233) (rfl)))))
set_option maxRecDepth 20000 in
theorem in_wsX10_make_r1 : ∀ w ∈ wsX10_make_r1, w ∈ lw_tbl := by
  unfold wsX10_make_r1
  exact (List.forall_mem_cons.mpr ⟨wd_290, (List.forall_mem_cons.mpr ⟨wd_523, (List.forall_mem_cons.mpr ⟨wd_522, (List.forall_mem_cons.mpr ⟨wd_521, (List.forall_mem_cons.mpr ⟨wd_520, (List.forall_mem_cons.mpr ⟨wd_519, (List.forall_mem_cons.mpr ⟨wd_518, (List.forall_mem_cons.mpr ⟨wd_517, (List.forall_mem_cons.mpr ⟨wd_516, (List.forall_mem_cons.mpr ⟨wd_515, (List.forall_mem_cons.mpr ⟨wd_514, (List.forall_mem_cons.mpr ⟨wd_513, (List.forall_mem_cons.mpr ⟨wd_512, (List.forall_mem_cons.mpr ⟨wd_286, (List.forall_mem_cons.mpr ⟨wd_285, (List.forall_mem_cons.mpr ⟨wd_277, (List.forall_mem_cons.mpr ⟨wd_345, (List.forall_mem_cons.mpr ⟨wd_511, (List.forall_mem_cons.mpr ⟨wd_510, (List.forall_mem_cons.mpr ⟨wd_509, (List.forall_mem_cons.mpr ⟨wd_508, (List.forall_mem_cons.mpr ⟨wd_507, (List.forall_mem_cons.mpr ⟨wd_88, (List.forall_mem_cons.mpr ⟨wd_506, (fun _ h => absurd h List.not_mem_nil)⟩)⟩)⟩)⟩)⟩)⟩)⟩)⟩)⟩)⟩)⟩)⟩)⟩)⟩)⟩)⟩)⟩)⟩)⟩)⟩)⟩)⟩)⟩)⟩)
theorem wd_524 : Cond.fieldLink RX10 67 "GrammarTunesModel" "begin" "[I" ∈ lw_tbl := List.mem_append_right _ (List.mem_append_right _ (List.mem_append_right _ (List.mem_append_left _ (List.mem_of_getElem? (i := 229) (rfl)))))
theorem wd_525 : Cond.fieldLink RX10 64 "GrammarTunesModel" "length" "[I" ∈ lw_tbl := List.mem_append_right _ (List.mem_append_right _ (List.mem_append_right _ (List.mem_append_left _ (List.mem_of_getElem? (i := 228) (rfl)))))
theorem wd_526 : Cond.fieldLink RX10 61 "GrammarTunesModel" "pitch" "[I" ∈ lw_tbl := List.mem_append_right _ (List.mem_append_right _ (List.mem_append_right _ (List.mem_append_left _ (List.mem_of_getElem? (i := 227) (rfl)))))
theorem wd_527 : Cond.fieldLink RX10 7 "GrammarTunesModel" "degrees" "[I" ∈ lw_tbl := List.mem_append_right _ (List.mem_append_right _ (List.mem_append_right _ (List.mem_append_left _ (List.mem_of_getElem? (i := 207) (rfl)))))
theorem wd_528 : Cond.code yX10_sound cX10_sound 8 (some .boolean) ∈ lw_tbl := List.mem_append_right _ (List.mem_append_right _ (List.mem_append_right _ (List.mem_append_right _ (List.mem_append_left _ (List.mem_of_getElem? (i := 216) (rfl))))))
theorem wd_529 : Cond.selects RX10 yX10_sound yX10_sound ∈ lw_tbl := List.mem_append_left _ (List.mem_of_getElem? (i := 36) rfl)
theorem wd_530 : Cond.instanceMethod yX10_sound ∈ lw_tbl := List.mem_append_right _ (List.mem_append_right _ (List.mem_append_right _ (List.mem_append_right _ (List.mem_append_left _ (List.mem_of_getElem? (i := 215) (rfl))))))
theorem wd_531 : Cond.methodLink RX10 224 yX10_sound ∈ lw_tbl := List.mem_append_right _ (List.mem_append_right _ (List.mem_append_right _ (List.mem_append_right _ (List.mem_append_left _ (List.mem_of_getElem? (i := 213) (rfl))))))
theorem wd_532 : Cond.fieldLink RX10 107 "GrammarTunesModel" "atTried" "[J" ∈ lw_tbl := List.mem_append_right _ (List.mem_append_right _ (List.mem_append_right _ (List.mem_append_right _ (List.mem_append_left _ (List.mem_of_getElem? (i := 13) (rfl))))))
theorem wd_533 : Cond.fieldLink RX10 104 "GrammarTunesModel" "atCells" "[I" ∈ lw_tbl := List.mem_append_right _ (List.mem_append_right _ (List.mem_append_right _ (List.mem_append_right _ (List.mem_append_left _ (List.mem_of_getElem? (i := 12) (rfl))))))
theorem wd_534 : Cond.fieldLink RX10 101 "GrammarTunesModel" "atRun" "[I" ∈ lw_tbl := List.mem_append_right _ (List.mem_append_right _ (List.mem_append_right _ (List.mem_append_right _ (List.mem_append_left _ (List.mem_of_getElem? (i := 11) (rfl))))))
theorem wd_535 : Cond.fieldLink RX10 98 "GrammarTunesModel" "atDegree" "[I" ∈ lw_tbl := List.mem_append_right _ (List.mem_append_right _ (List.mem_append_right _ (List.mem_append_right _ (List.mem_append_left _ (List.mem_of_getElem? (i := 10) (rfl))))))
theorem wd_536 : Cond.fieldLink RX10 95 "GrammarTunesModel" "atPitch" "[I" ∈ lw_tbl := List.mem_append_right _ (List.mem_append_right _ (List.mem_append_right _ (List.mem_append_right _ (List.mem_append_left _ (List.mem_of_getElem? (i := 9) (rfl))))))
theorem wd_537 : Cond.fieldLink RX10 92 "GrammarTunesModel" "atItems" "[I" ∈ lw_tbl := List.mem_append_right _ (List.mem_append_right _ (List.mem_append_right _ (List.mem_append_right _ (List.mem_append_left _ (List.mem_of_getElem? (i := 8) (rfl))))))
theorem wd_538 : Cond.fieldLink RX10 89 "GrammarTunesModel" "atTime" "[I" ∈ lw_tbl := List.mem_append_right _ (List.mem_append_right _ (List.mem_append_right _ (List.mem_append_right _ (List.mem_append_left _ (List.mem_of_getElem? (i := 7) (rfl))))))
theorem wd_539 : Cond.fieldLink RX10 86 "GrammarTunesModel" "atCount" "[I" ∈ lw_tbl := List.mem_append_right _ (List.mem_append_right _ (List.mem_append_right _ (List.mem_append_right _ (List.mem_append_left _ (List.mem_of_getElem? (i := 6) (rfl))))))
theorem wd_540 : Cond.fieldLink RX10 83 "GrammarTunesModel" "atHead" "[I" ∈ lw_tbl := List.mem_append_right _ (List.mem_append_right _ (List.mem_append_right _ (List.mem_append_right _ (List.mem_append_left _ (List.mem_of_getElem? (i := 5) (rfl))))))
theorem wd_541 : Cond.fieldLink RX10 80 "GrammarTunesModel" "atLetter" "[I" ∈ lw_tbl := List.mem_append_right _ (List.mem_append_right _ (List.mem_append_right _ (List.mem_append_right _ (List.mem_append_left _ (List.mem_of_getElem? (i := 4) (rfl))))))
theorem wd_542 : Cond.code yX10_keep cX10_keep 2 none ∈ lw_tbl := List.mem_append_right _ (List.mem_append_right _ (List.mem_append_right _ (List.mem_append_right _ (List.mem_append_left _ (List.mem_of_getElem? (i := 212) (rfl))))))
theorem wd_543 : Cond.selects RX10 yX10_keep yX10_keep ∈ lw_tbl := List.mem_append_left _ (List.mem_of_getElem? (i := 35) rfl)
theorem wd_544 : Cond.instanceMethod yX10_keep ∈ lw_tbl := List.mem_append_right _ (List.mem_append_right _ (List.mem_append_right _ (List.mem_append_right _ (List.mem_append_left _ (List.mem_of_getElem? (i := 211) (rfl))))))
theorem wd_545 : Cond.methodLink RX10 221 yX10_keep ∈ lw_tbl := List.mem_append_right _ (List.mem_append_right _ (List.mem_append_right _ (List.mem_append_right _ (List.mem_append_left _ (List.mem_of_getElem? (i := 209) (rfl))))))
set_option maxRecDepth 20000 in
theorem in_wsX10_make_r2 : ∀ w ∈ wsX10_make_r2, w ∈ lw_tbl := by
  unfold wsX10_make_r2
  exact (List.forall_mem_cons.mpr ⟨wd_545, (List.forall_mem_cons.mpr ⟨wd_544, (List.forall_mem_cons.mpr ⟨wd_543, (List.forall_mem_cons.mpr ⟨wd_542, (List.forall_mem_cons.mpr ⟨wd_541, (List.forall_mem_cons.mpr ⟨wd_540, (List.forall_mem_cons.mpr ⟨wd_539, (List.forall_mem_cons.mpr ⟨wd_538, (List.forall_mem_cons.mpr ⟨wd_537, (List.forall_mem_cons.mpr ⟨wd_536, (List.forall_mem_cons.mpr ⟨wd_535, (List.forall_mem_cons.mpr ⟨wd_534, (List.forall_mem_cons.mpr ⟨wd_533, (List.forall_mem_cons.mpr ⟨wd_532, (List.forall_mem_cons.mpr ⟨wd_531, (List.forall_mem_cons.mpr ⟨wd_530, (List.forall_mem_cons.mpr ⟨wd_529, (List.forall_mem_cons.mpr ⟨wd_528, (List.forall_mem_cons.mpr ⟨wd_278, (List.forall_mem_cons.mpr ⟨wd_527, (List.forall_mem_cons.mpr ⟨wd_279, (List.forall_mem_cons.mpr ⟨wd_526, (List.forall_mem_cons.mpr ⟨wd_525, (List.forall_mem_cons.mpr ⟨wd_524, (fun _ h => absurd h List.not_mem_nil)⟩)⟩)⟩)⟩)⟩)⟩)⟩)⟩)⟩)⟩)⟩)⟩)⟩)⟩)⟩)⟩)⟩)⟩)⟩)⟩)⟩)⟩)⟩)⟩)
theorem wd_546 : Cond.methodLink RX10 178 yX10_draw ∈ lw_tbl := List.mem_append_right _ (List.mem_append_right _ (List.mem_append_right _ (List.mem_append_right _ (List.mem_append_left _ (List.mem_of_getElem? (i := 194) (rfl))))))
theorem wd_547 : Cond.constantLong RX10 176 (9223372036854775807) ∈ lw_tbl := List.mem_append_right _ (List.mem_append_right _ (List.mem_append_right _ (List.mem_append_right _ (List.mem_append_left _ (List.mem_of_getElem? (i := 193) (rfl))))))
theorem wd_548 : Cond.code yX10_drawBelow cX10_drawBelow 6 (some .int) ∈ lw_tbl := List.mem_append_right _ (List.mem_append_right _ (List.mem_append_right _ (List.mem_append_right _ (List.mem_append_left _ (List.mem_of_getElem? (i := 192) (rfl))))))
theorem wd_549 : Cond.selects RX10 yX10_drawBelow yX10_drawBelow ∈ lw_tbl := List.mem_append_left _ (List.mem_of_getElem? (i := 32) rfl)
theorem wd_550 : Cond.instanceMethod yX10_drawBelow ∈ lw_tbl := List.mem_append_right _ (List.mem_append_right _ (List.mem_append_right _ (List.mem_append_right _ (List.mem_append_left _ (List.mem_of_getElem? (i := 191) (rfl))))))
theorem wd_551 : Cond.methodLink RX10 182 yX10_drawBelow ∈ lw_tbl := List.mem_append_right _ (List.mem_append_right _ (List.mem_append_right _ (List.mem_append_right _ (List.mem_append_left _ (List.mem_of_getElem? (i := 189) (rfl))))))
theorem wd_552 : Cond.code yX10_choose cX10_choose 7 (some .boolean) ∈ lw_tbl := List.mem_append_right _ (List.mem_append_right _ (List.mem_append_right _ (List.mem_append_right _ (List.mem_append_left _ (List.mem_of_getElem? (i := 228) (rfl))))))
theorem wd_553 : Cond.selects RX10 yX10_choose yX10_choose ∈ lw_tbl := List.mem_append_left _ (List.mem_of_getElem? (i := 39) rfl)
theorem wd_554 : Cond.instanceMethod yX10_choose ∈ lw_tbl := List.mem_append_right _ (List.mem_append_right _ (List.mem_append_right _ (List.mem_append_right _ (List.mem_append_left _ (List.mem_of_getElem? (i := 227) (rfl))))))
theorem wd_555 : Cond.methodLink RX10 234 yX10_choose ∈ lw_tbl := List.mem_append_right _ (List.mem_append_right _ (List.mem_append_right _ (List.mem_append_right _ (List.mem_append_left _ (List.mem_of_getElem? (i := 225) (rfl))))))
theorem wd_556 : Cond.code yX10_left cX10_left 4 (some .int) ∈ lw_tbl := List.mem_append_right _ (List.mem_append_right _ (List.mem_append_right _ (List.mem_append_right _ (List.mem_append_left _ (List.mem_of_getElem? (i := 224) (rfl))))))
theorem wd_557 : Cond.selects RX10 yX10_left yX10_left ∈ lw_tbl := List.mem_append_left _ (List.mem_of_getElem? (i := 38) rfl)
theorem wd_558 : Cond.instanceMethod yX10_left ∈ lw_tbl := List.mem_append_right _ (List.mem_append_right _ (List.mem_append_right _ (List.mem_append_right _ (List.mem_append_left _ (List.mem_of_getElem? (i := 223) (rfl))))))
theorem wd_559 : Cond.methodLink RX10 231 yX10_left ∈ lw_tbl := List.mem_append_right _ (List.mem_append_right _ (List.mem_append_right _ (List.mem_append_right _ (List.mem_append_left _ (List.mem_of_getElem? (i := 221) (rfl))))))
theorem wd_560 : Cond.code yX10_back cX10_back 2 none ∈ lw_tbl := List.mem_append_right _ (List.mem_append_right _ (List.mem_append_right _ (List.mem_append_right _ (List.mem_append_left _ (List.mem_of_getElem? (i := 220) (rfl))))))
theorem wd_561 : Cond.selects RX10 yX10_back yX10_back ∈ lw_tbl := List.mem_append_left _ (List.mem_of_getElem? (i := 37) rfl)
theorem wd_562 : Cond.instanceMethod yX10_back ∈ lw_tbl := List.mem_append_right _ (List.mem_append_right _ (List.mem_append_right _ (List.mem_append_right _ (List.mem_append_left _ (List.mem_of_getElem? (i := 219) (rfl))))))
theorem wd_563 : Cond.methodLink RX10 228 yX10_back ∈ lw_tbl := List.mem_append_right _ (List.mem_append_right _ (List.mem_append_right _ (List.mem_append_right _ (List.mem_append_left _ (List.mem_of_getElem? (i := 217) (rfl))))))
theorem wd_564 : Cond.fieldLink RX10 70 "GrammarTunesModel" "degree" "[I" ∈ lw_tbl := List.mem_append_right _ (List.mem_append_right _ (List.mem_append_right _ (List.mem_append_left _ (List.mem_of_getElem? (i := 230) (rfl)))))
set_option maxRecDepth 20000 in
theorem in_wsX10_make_r3 : ∀ w ∈ wsX10_make_r3, w ∈ lw_tbl := by
  unfold wsX10_make_r3
  exact (List.forall_mem_cons.mpr ⟨wd_564, (List.forall_mem_cons.mpr ⟨wd_563, (List.forall_mem_cons.mpr ⟨wd_562, (List.forall_mem_cons.mpr ⟨wd_561, (List.forall_mem_cons.mpr ⟨wd_560, (List.forall_mem_cons.mpr ⟨wd_559, (List.forall_mem_cons.mpr ⟨wd_558, (List.forall_mem_cons.mpr ⟨wd_557, (List.forall_mem_cons.mpr ⟨wd_556, (List.forall_mem_cons.mpr ⟨wd_287, (List.forall_mem_cons.mpr ⟨wd_282, (List.forall_mem_cons.mpr ⟨wd_283, (List.forall_mem_cons.mpr ⟨wd_555, (List.forall_mem_cons.mpr ⟨wd_554, (List.forall_mem_cons.mpr ⟨wd_553, (List.forall_mem_cons.mpr ⟨wd_552, (List.forall_mem_cons.mpr ⟨wd_280, (List.forall_mem_cons.mpr ⟨wd_281, (List.forall_mem_cons.mpr ⟨wd_551, (List.forall_mem_cons.mpr ⟨wd_550, (List.forall_mem_cons.mpr ⟨wd_549, (List.forall_mem_cons.mpr ⟨wd_548, (List.forall_mem_cons.mpr ⟨wd_547, (List.forall_mem_cons.mpr ⟨wd_546, (fun _ h => absurd h List.not_mem_nil)⟩)⟩)⟩)⟩)⟩)⟩)⟩)⟩)⟩)⟩)⟩)⟩)⟩)⟩)⟩)⟩)⟩)⟩)⟩)⟩)⟩)⟩)⟩)⟩)
theorem wd_565 : Cond.constantLong RX10 174 (-7723592293110705685) ∈ lw_tbl := List.mem_append_right _ (List.mem_append_right _ (List.mem_append_right _ (List.mem_append_right _ (List.mem_append_left _ (List.mem_of_getElem? (i := 200) (rfl))))))
theorem wd_566 : Cond.constantLong RX10 172 (-4658895280553007687) ∈ lw_tbl := List.mem_append_right _ (List.mem_append_right _ (List.mem_append_right _ (List.mem_append_right _ (List.mem_append_left _ (List.mem_of_getElem? (i := 199) (rfl))))))
theorem wd_567 : Cond.constantLong RX10 170 (-7046029254386353131) ∈ lw_tbl := List.mem_append_right _ (List.mem_append_right _ (List.mem_append_right _ (List.mem_append_right _ (List.mem_append_left _ (List.mem_of_getElem? (i := 198) (rfl))))))
theorem wd_568 : Cond.code yX10_draw cX10_draw 3 (some .long) ∈ lw_tbl := List.mem_append_right _ (List.mem_append_right _ (List.mem_append_right _ (List.mem_append_right _ (List.mem_append_left _ (List.mem_of_getElem? (i := 197) (rfl))))))
theorem wd_569 : Cond.selects RX10 yX10_draw yX10_draw ∈ lw_tbl := List.mem_append_left _ (List.mem_of_getElem? (i := 33) rfl)
theorem wd_570 : Cond.instanceMethod yX10_draw ∈ lw_tbl := List.mem_append_right _ (List.mem_append_right _ (List.mem_append_right _ (List.mem_append_right _ (List.mem_append_left _ (List.mem_of_getElem? (i := 196) (rfl))))))
set_option maxRecDepth 20000 in
theorem in_wsX10_make_r4 : ∀ w ∈ wsX10_make_r4, w ∈ lw_tbl := by
  unfold wsX10_make_r4
  exact (List.forall_mem_cons.mpr ⟨wd_570, (List.forall_mem_cons.mpr ⟨wd_569, (List.forall_mem_cons.mpr ⟨wd_568, (List.forall_mem_cons.mpr ⟨wd_567, (List.forall_mem_cons.mpr ⟨wd_566, (List.forall_mem_cons.mpr ⟨wd_565, (fun _ h => absurd h List.not_mem_nil)⟩)⟩)⟩)⟩)⟩)⟩)
set_option maxRecDepth 20000 in
theorem in_wsX10_make : ∀ w ∈ wsX10_make, w ∈ lw_tbl := by
  unfold wsX10_make
  exact (List.forall_mem_cons.mpr ⟨wd_505, (List.forall_mem_append.mpr ⟨(List.forall_mem_append.mpr ⟨in_wsX10_make_r1, (List.forall_mem_append.mpr ⟨in_wsX10_make_r2, (List.forall_mem_append.mpr ⟨in_wsX10_make_r3, in_wsX10_make_r4⟩)⟩)⟩), us_X10⟩)⟩)
theorem wd_571 : Cond.selects RX10 yX10_make yX10_make ∈ lw_tbl := List.mem_append_right _ (List.mem_append_right _ (List.mem_append_right _ (List.mem_append_right _ (List.mem_append_left _ (List.mem_of_getElem? (i := 203) (rfl))))))
theorem wd_572 : Cond.instanceMethod yX10_make ∈ lw_tbl := List.mem_append_right _ (List.mem_append_right _ (List.mem_append_right _ (List.mem_append_right _ (List.mem_append_left _ (List.mem_of_getElem? (i := 202) (rfl))))))
theorem wd_573 : Cond.methodLink RL 43 yX10_make ∈ lw_tbl := List.mem_append_right _ (List.mem_append_right _ (List.mem_append_right _ (List.mem_append_right _ (List.mem_append_left _ (List.mem_of_getElem? (i := 201) (rfl))))))
theorem wd_574 : Cond.code yX9_tries cX9_tries 1 (some .int) ∈ lw_tbl := List.mem_append_right _ (List.mem_append_right _ (List.mem_append_right _ (List.mem_append_left _ (List.mem_of_getElem? (i := 98) (rfl)))))
set_option maxRecDepth 20000 in
theorem in_wsX9_tries : ∀ w ∈ wsX9_tries, w ∈ lw_tbl := by
  unfold wsX9_tries
  exact (List.forall_mem_cons.mpr ⟨wd_574, (List.forall_mem_append.mpr ⟨(List.forall_mem_cons.mpr ⟨wd_357, (fun _ h => absurd h List.not_mem_nil)⟩), us_X9⟩)⟩)
theorem wd_575 : Cond.selects RX9 yX9_tries yX9_tries ∈ lw_tbl := List.mem_append_right _ (List.mem_append_right _ (List.mem_append_right _ (List.mem_append_left _ (List.mem_of_getElem? (i := 97) (rfl)))))
theorem wd_576 : Cond.instanceMethod yX9_tries ∈ lw_tbl := List.mem_append_right _ (List.mem_append_right _ (List.mem_append_right _ (List.mem_append_left _ (List.mem_of_getElem? (i := 96) (rfl)))))
theorem wd_577 : Cond.methodLink RL 44 yX9_tries ∈ lw_tbl := List.mem_append_right _ (List.mem_append_right _ (List.mem_append_right _ (List.mem_append_left _ (List.mem_of_getElem? (i := 95) (rfl)))))
theorem wd_578 : Cond.code yX10_tries cX10_tries 1 (some .int) ∈ lw_tbl := List.mem_append_right _ (List.mem_append_right _ (List.mem_append_right _ (List.mem_append_right _ (List.mem_append_left _ (List.mem_of_getElem? (i := 232) (rfl))))))
set_option maxRecDepth 20000 in
theorem in_wsX10_tries : ∀ w ∈ wsX10_tries, w ∈ lw_tbl := by
  unfold wsX10_tries
  exact (List.forall_mem_cons.mpr ⟨wd_578, (List.forall_mem_append.mpr ⟨(List.forall_mem_cons.mpr ⟨wd_522, (fun _ h => absurd h List.not_mem_nil)⟩), us_X10⟩)⟩)
theorem wd_579 : Cond.selects RX10 yX10_tries yX10_tries ∈ lw_tbl := List.mem_append_right _ (List.mem_append_right _ (List.mem_append_right _ (List.mem_append_right _ (List.mem_append_left _ (List.mem_of_getElem? (i := 231) (rfl))))))
theorem wd_580 : Cond.instanceMethod yX10_tries ∈ lw_tbl := List.mem_append_right _ (List.mem_append_right _ (List.mem_append_right _ (List.mem_append_right _ (List.mem_append_left _ (List.mem_of_getElem? (i := 230) (rfl))))))
theorem wd_581 : Cond.methodLink RL 47 yX10_tries ∈ lw_tbl := List.mem_append_right _ (List.mem_append_right _ (List.mem_append_right _ (List.mem_append_right _ (List.mem_append_left _ (List.mem_of_getElem? (i := 229) (rfl))))))
theorem wd_582 : Cond.code yX9_item cX9_item 3 (some .int) ∈ lw_tbl := List.mem_append_right _ (List.mem_append_right _ (List.mem_append_right _ (List.mem_append_left _ (List.mem_of_getElem? (i := 102) (rfl)))))
set_option maxRecDepth 20000 in
theorem in_wsX9_item : ∀ w ∈ wsX9_item, w ∈ lw_tbl := by
  unfold wsX9_item
  exact (List.forall_mem_cons.mpr ⟨wd_582, (List.forall_mem_append.mpr ⟨(List.forall_mem_append.mpr ⟨(List.forall_mem_cons.mpr ⟨wd_362, (List.forall_mem_cons.mpr ⟨wd_329, (List.forall_mem_cons.mpr ⟨wd_3, (List.forall_mem_cons.mpr ⟨wd_2, (List.forall_mem_cons.mpr ⟨wd_1, (fun _ h => absurd h List.not_mem_nil)⟩)⟩)⟩)⟩)⟩), us_X9⟩), us_X8⟩)⟩)
theorem wd_583 : Cond.selects RX9 yX9_item yX9_item ∈ lw_tbl := List.mem_append_right _ (List.mem_append_right _ (List.mem_append_right _ (List.mem_append_left _ (List.mem_of_getElem? (i := 101) (rfl)))))
theorem wd_584 : Cond.instanceMethod yX9_item ∈ lw_tbl := List.mem_append_right _ (List.mem_append_right _ (List.mem_append_right _ (List.mem_append_left _ (List.mem_of_getElem? (i := 100) (rfl)))))
theorem wd_585 : Cond.methodLink RL 48 yX9_item ∈ lw_tbl := List.mem_append_right _ (List.mem_append_right _ (List.mem_append_right _ (List.mem_append_left _ (List.mem_of_getElem? (i := 99) (rfl)))))
theorem wd_586 : Cond.code yX10_item cX10_item 3 (some .int) ∈ lw_tbl := List.mem_append_right _ (List.mem_append_right _ (List.mem_append_right _ (List.mem_append_right _ (List.mem_append_left _ (List.mem_of_getElem? (i := 236) (rfl))))))
set_option maxRecDepth 20000 in
theorem in_wsX10_item : ∀ w ∈ wsX10_item, w ∈ lw_tbl := by
  unfold wsX10_item
  exact (List.forall_mem_cons.mpr ⟨wd_586, (List.forall_mem_append.mpr ⟨(List.forall_mem_cons.mpr ⟨wd_521, (List.forall_mem_cons.mpr ⟨wd_526, (List.forall_mem_cons.mpr ⟨wd_525, (List.forall_mem_cons.mpr ⟨wd_524, (List.forall_mem_cons.mpr ⟨wd_564, (fun _ h => absurd h List.not_mem_nil)⟩)⟩)⟩)⟩)⟩), us_X10⟩)⟩)
theorem wd_587 : Cond.selects RX10 yX10_item yX10_item ∈ lw_tbl := List.mem_append_right _ (List.mem_append_right _ (List.mem_append_right _ (List.mem_append_right _ (List.mem_append_left _ (List.mem_of_getElem? (i := 235) (rfl))))))
theorem wd_588 : Cond.instanceMethod yX10_item ∈ lw_tbl := List.mem_append_right _ (List.mem_append_right _ (List.mem_append_right _ (List.mem_append_right _ (List.mem_append_left _ (List.mem_of_getElem? (i := 234) (rfl))))))
theorem wd_589 : Cond.methodLink RL 51 yX10_item ∈ lw_tbl := List.mem_append_right _ (List.mem_append_right _ (List.mem_append_right _ (List.mem_append_right _ (List.mem_append_left _ (List.mem_of_getElem? (i := 233) (rfl))))))
theorem wd_590 : Cond.code yX9_below cX9_below 7 (some .int) ∈ lw_tbl := List.mem_append_right _ (List.mem_append_right _ (List.mem_append_right _ (List.mem_append_left _ (List.mem_of_getElem? (i := 106) (rfl)))))
theorem wd_591 : Cond.methodLink RX9 145 yX1_drawUnder ∈ lw_tbl := List.mem_append_right _ (List.mem_append_right _ (List.mem_append_right _ (List.mem_append_left _ (List.mem_of_getElem? (i := 107) (rfl)))))
set_option maxRecDepth 20000 in
theorem in_wsX9_below_r1 : ∀ w ∈ wsX9_below_r1, w ∈ lw_tbl := by
  unfold wsX9_below_r1
  exact (List.forall_mem_cons.mpr ⟨wd_360, (List.forall_mem_cons.mpr ⟨wd_359, (List.forall_mem_cons.mpr ⟨wd_358, (List.forall_mem_cons.mpr ⟨wd_329, (List.forall_mem_cons.mpr ⟨wd_3, (List.forall_mem_cons.mpr ⟨wd_2, (List.forall_mem_cons.mpr ⟨wd_1, (List.forall_mem_cons.mpr ⟨wd_356, (List.forall_mem_cons.mpr ⟨wd_355, (List.forall_mem_cons.mpr ⟨wd_354, (List.forall_mem_cons.mpr ⟨wd_353, (List.forall_mem_cons.mpr ⟨wd_118, (List.forall_mem_cons.mpr ⟨wd_117, (List.forall_mem_cons.mpr ⟨wd_352, (List.forall_mem_cons.mpr ⟨wd_591, (List.forall_mem_cons.mpr ⟨wd_394, (List.forall_mem_cons.mpr ⟨wd_393, (List.forall_mem_cons.mpr ⟨wd_392, (List.forall_mem_cons.mpr ⟨wd_391, (List.forall_mem_cons.mpr ⟨wd_390, (List.forall_mem_cons.mpr ⟨wd_432, (List.forall_mem_cons.mpr ⟨wd_431, (List.forall_mem_cons.mpr ⟨wd_430, (List.forall_mem_cons.mpr ⟨wd_429, (fun _ h => absurd h List.not_mem_nil)⟩)⟩)⟩)⟩)⟩)⟩)⟩)⟩)⟩)⟩)⟩)⟩)⟩)⟩)⟩)⟩)⟩)⟩)⟩)⟩)⟩)⟩)⟩)⟩)
set_option maxRecDepth 20000 in
theorem in_wsX9_below_r2 : ∀ w ∈ wsX9_below_r2, w ∈ lw_tbl := by
  unfold wsX9_below_r2
  exact (List.forall_mem_cons.mpr ⟨wd_428, (List.forall_mem_cons.mpr ⟨wd_427, (List.forall_mem_cons.mpr ⟨wd_426, (fun _ h => absurd h List.not_mem_nil)⟩)⟩)⟩)
set_option maxRecDepth 20000 in
theorem in_wsX9_below : ∀ w ∈ wsX9_below, w ∈ lw_tbl := by
  unfold wsX9_below
  exact (List.forall_mem_cons.mpr ⟨wd_590, (List.forall_mem_append.mpr ⟨(List.forall_mem_append.mpr ⟨in_wsX9_below_r1, in_wsX9_below_r2⟩), us_X1⟩)⟩)
theorem wd_592 : Cond.selects RX9 yX9_below yX9_below ∈ lw_tbl := List.mem_append_right _ (List.mem_append_right _ (List.mem_append_right _ (List.mem_append_left _ (List.mem_of_getElem? (i := 105) (rfl)))))
theorem wd_593 : Cond.instanceMethod yX9_below ∈ lw_tbl := List.mem_append_right _ (List.mem_append_right _ (List.mem_append_right _ (List.mem_append_left _ (List.mem_of_getElem? (i := 104) (rfl)))))
theorem wd_594 : Cond.methodLink RL 52 yX9_below ∈ lw_tbl := List.mem_append_right _ (List.mem_append_right _ (List.mem_append_right _ (List.mem_append_left _ (List.mem_of_getElem? (i := 103) (rfl)))))
theorem wd_595 : Cond.code yX10_below cX10_below 7 (some .int) ∈ lw_tbl := List.mem_append_right _ (List.mem_append_right _ (List.mem_append_right _ (List.mem_append_right _ (List.mem_append_left _ (List.mem_of_getElem? (i := 188) (rfl))))))
set_option maxRecDepth 20000 in
theorem in_wsX10_below : ∀ w ∈ wsX10_below, w ∈ lw_tbl := by
  unfold wsX10_below
  exact (List.forall_mem_cons.mpr ⟨wd_595, (List.forall_mem_append.mpr ⟨(List.forall_mem_cons.mpr ⟨wd_523, (List.forall_mem_cons.mpr ⟨wd_551, (List.forall_mem_cons.mpr ⟨wd_550, (List.forall_mem_cons.mpr ⟨wd_549, (List.forall_mem_cons.mpr ⟨wd_88, (List.forall_mem_cons.mpr ⟨wd_548, (List.forall_mem_cons.mpr ⟨wd_547, (List.forall_mem_cons.mpr ⟨wd_546, (List.forall_mem_cons.mpr ⟨wd_570, (List.forall_mem_cons.mpr ⟨wd_569, (List.forall_mem_cons.mpr ⟨wd_568, (List.forall_mem_cons.mpr ⟨wd_567, (List.forall_mem_cons.mpr ⟨wd_566, (List.forall_mem_cons.mpr ⟨wd_565, (fun _ h => absurd h List.not_mem_nil)⟩)⟩)⟩)⟩)⟩)⟩)⟩)⟩)⟩)⟩)⟩)⟩)⟩)⟩), us_X10⟩)⟩)
theorem wd_596 : Cond.selects RX10 yX10_below yX10_below ∈ lw_tbl := List.mem_append_right _ (List.mem_append_right _ (List.mem_append_right _ (List.mem_append_right _ (List.mem_append_left _ (List.mem_of_getElem? (i := 187) (rfl))))))
theorem wd_597 : Cond.instanceMethod yX10_below ∈ lw_tbl := List.mem_append_right _ (List.mem_append_right _ (List.mem_append_right _ (List.mem_append_right _ (List.mem_append_left _ (List.mem_of_getElem? (i := 186) (rfl))))))
theorem wd_598 : Cond.methodLink RL 56 yX10_below ∈ lw_tbl := List.mem_append_right _ (List.mem_append_right _ (List.mem_append_right _ (List.mem_append_right _ (List.mem_append_left _ (List.mem_of_getElem? (i := 185) (rfl))))))
theorem wd_599 : Cond.code yX9_corpus cX9_corpus 2 (some .int) ∈ lw_tbl := List.mem_append_right _ (List.mem_append_right _ (List.mem_append_right _ (List.mem_append_left _ (List.mem_of_getElem? (i := 111) (rfl)))))
theorem wd_600 : Cond.fieldLink RX0 9 "GrammarTunes$Chain" "numbers" "[I" ∈ lw_tbl := List.mem_append_right _ (List.mem_append_left _ (List.mem_of_getElem? (i := 192) (rfl)))
theorem wd_601 : Cond.fieldLink RX0 21 "GrammarTunes$Chain" "count" "I" ∈ lw_tbl := List.mem_append_right _ (List.mem_append_left _ (List.mem_of_getElem? (i := 196) (rfl)))
theorem wd_602 : Cond.code yX0_add cX0_add 2 (some .int) ∈ lw_tbl := List.mem_append_right _ (List.mem_append_right _ (List.mem_append_right _ (List.mem_append_left _ (List.mem_of_getElem? (i := 115) (rfl)))))
theorem wd_603 : Cond.initialized RX0 ∈ lw_tbl := List.mem_append_right _ (List.mem_append_left _ (List.mem_of_getElem? (i := 6) (rfl)))
theorem wd_604 : Cond.selects RX0 yX0_add yX0_add ∈ lw_tbl := List.mem_append_right _ (List.mem_append_right _ (List.mem_append_right _ (List.mem_append_left _ (List.mem_of_getElem? (i := 114) (rfl)))))
theorem wd_605 : Cond.instanceMethod yX0_add ∈ lw_tbl := List.mem_append_right _ (List.mem_append_right _ (List.mem_append_right _ (List.mem_append_left _ (List.mem_of_getElem? (i := 113) (rfl)))))
theorem wd_606 : Cond.methodLink RX9 148 yX0_add ∈ lw_tbl := List.mem_append_right _ (List.mem_append_right _ (List.mem_append_right _ (List.mem_append_left _ (List.mem_of_getElem? (i := 112) (rfl)))))
theorem wd_607 : Cond.fieldLink RX9 51 "GrammarTunes" "chain" "LGrammarTunes$Chain;" ∈ lw_tbl := List.mem_append_right _ (List.mem_append_left _ (List.mem_of_getElem? (i := 233) (rfl)))
theorem wd_608 : Cond.lays RX0 "GrammarTunes$Chain" "walked" "I" ∈ lw_tbl := List.mem_append_right _ (List.mem_append_left _ (List.mem_of_getElem? (i := 208) (rfl)))
theorem wd_609 : Cond.lays RX0 "GrammarTunes$Chain" "count" "I" ∈ lw_tbl := List.mem_append_right _ (List.mem_append_left _ (List.mem_of_getElem? (i := 206) (rfl)))
theorem wd_610 : Cond.laysFinal RX0 "GrammarTunes$Chain" "found" "[I" ∈ lw_tbl := List.mem_append_right _ (List.mem_append_left _ (List.mem_of_getElem? (i := 204) (rfl)))
theorem wd_611 : Cond.laysFinal RX0 "GrammarTunes$Chain" "path" "[I" ∈ lw_tbl := List.mem_append_right _ (List.mem_append_left _ (List.mem_of_getElem? (i := 202) (rfl)))
theorem wd_612 : Cond.laysFinal RX0 "GrammarTunes$Chain" "numbers" "[I" ∈ lw_tbl := List.mem_append_right _ (List.mem_append_left _ (List.mem_of_getElem? (i := 200) (rfl)))
set_option maxRecDepth 20000 in
theorem us_X0 : ∀ w ∈ u_ws RX0 TX0 5, w ∈ lw_tbl := (show ∀ w ∈ ([Cond.laysFinal RX0 "GrammarTunes$Chain" "numbers" "[I", Cond.laysFinal RX0 "GrammarTunes$Chain" "path" "[I", Cond.laysFinal RX0 "GrammarTunes$Chain" "found" "[I", Cond.lays RX0 "GrammarTunes$Chain" "count" "I", Cond.lays RX0 "GrammarTunes$Chain" "walked" "I"] : List Cond), w ∈ lw_tbl from (List.forall_mem_cons.mpr ⟨wd_612, (List.forall_mem_cons.mpr ⟨wd_611, (List.forall_mem_cons.mpr ⟨wd_610, (List.forall_mem_cons.mpr ⟨wd_609, (List.forall_mem_cons.mpr ⟨wd_608, (fun _ h => absurd h List.not_mem_nil)⟩)⟩)⟩)⟩)⟩))
set_option maxRecDepth 20000 in
theorem in_wsX9_corpus : ∀ w ∈ wsX9_corpus, w ∈ lw_tbl := by
  unfold wsX9_corpus
  exact (List.forall_mem_cons.mpr ⟨wd_599, (List.forall_mem_append.mpr ⟨(List.forall_mem_append.mpr ⟨(List.forall_mem_cons.mpr ⟨wd_607, (List.forall_mem_cons.mpr ⟨wd_606, (List.forall_mem_cons.mpr ⟨wd_605, (List.forall_mem_cons.mpr ⟨wd_604, (List.forall_mem_cons.mpr ⟨wd_603, (List.forall_mem_cons.mpr ⟨wd_602, (List.forall_mem_cons.mpr ⟨wd_601, (List.forall_mem_cons.mpr ⟨wd_600, (fun _ h => absurd h List.not_mem_nil)⟩)⟩)⟩)⟩)⟩)⟩)⟩)⟩), us_X9⟩), us_X0⟩)⟩)
theorem wd_613 : Cond.selects RX9 yX9_corpus yX9_corpus ∈ lw_tbl := List.mem_append_right _ (List.mem_append_right _ (List.mem_append_right _ (List.mem_append_left _ (List.mem_of_getElem? (i := 110) (rfl)))))
theorem wd_614 : Cond.instanceMethod yX9_corpus ∈ lw_tbl := List.mem_append_right _ (List.mem_append_right _ (List.mem_append_right _ (List.mem_append_left _ (List.mem_of_getElem? (i := 109) (rfl)))))
theorem wd_615 : Cond.methodLink RL 57 yX9_corpus ∈ lw_tbl := List.mem_append_right _ (List.mem_append_right _ (List.mem_append_right _ (List.mem_append_left _ (List.mem_of_getElem? (i := 108) (rfl)))))
theorem wd_616 : Cond.code yX10_corpus cX10_corpus 2 (some .int) ∈ lw_tbl := List.mem_append_right _ (List.mem_append_right _ (List.mem_append_right _ (List.mem_append_right _ (List.mem_append_right _ (List.mem_of_getElem? (i := 0) (rfl))))))
theorem wd_617 : Cond.fieldLink RX10 111 "GrammarTunesModel" "corpus" "[I" ∈ lw_tbl := List.mem_append_right _ (List.mem_append_right _ (List.mem_append_right _ (List.mem_append_right _ (List.mem_append_left _ (List.mem_of_getElem? (i := 15) (rfl))))))
theorem wd_618 : Cond.fieldLink RX10 237 "GrammarTunesModel" "numbers" "I" ∈ lw_tbl := List.mem_append_right _ (List.mem_append_right _ (List.mem_append_right _ (List.mem_append_right _ (List.mem_append_left _ (List.mem_of_getElem? (i := 16) (rfl))))))
set_option maxRecDepth 20000 in
theorem in_wsX10_corpus : ∀ w ∈ wsX10_corpus, w ∈ lw_tbl := by
  unfold wsX10_corpus
  exact (List.forall_mem_cons.mpr ⟨wd_616, (List.forall_mem_append.mpr ⟨(List.forall_mem_cons.mpr ⟨wd_618, (List.forall_mem_cons.mpr ⟨wd_617, (fun _ h => absurd h List.not_mem_nil)⟩)⟩), us_X10⟩)⟩)
theorem wd_619 : Cond.selects RX10 yX10_corpus yX10_corpus ∈ lw_tbl := List.mem_append_right _ (List.mem_append_right _ (List.mem_append_right _ (List.mem_append_right _ (List.mem_append_left _ (List.mem_of_getElem? (i := 239) (rfl))))))
theorem wd_620 : Cond.instanceMethod yX10_corpus ∈ lw_tbl := List.mem_append_right _ (List.mem_append_right _ (List.mem_append_right _ (List.mem_append_right _ (List.mem_append_left _ (List.mem_of_getElem? (i := 238) (rfl))))))
theorem wd_621 : Cond.methodLink RL 60 yX10_corpus ∈ lw_tbl := List.mem_append_right _ (List.mem_append_right _ (List.mem_append_right _ (List.mem_append_right _ (List.mem_append_left _ (List.mem_of_getElem? (i := 237) (rfl))))))
theorem wd_622 : Cond.code yX9_forget cX9_forget 1 (some .int) ∈ lw_tbl := List.mem_append_right _ (List.mem_append_right _ (List.mem_append_right _ (List.mem_append_left _ (List.mem_of_getElem? (i := 119) (rfl)))))
theorem wd_623 : Cond.code yX0_clear cX0_clear 2 (some .int) ∈ lw_tbl := List.mem_append_right _ (List.mem_append_right _ (List.mem_append_right _ (List.mem_append_left _ (List.mem_of_getElem? (i := 123) (rfl)))))
theorem wd_624 : Cond.selects RX0 yX0_clear yX0_clear ∈ lw_tbl := List.mem_append_right _ (List.mem_append_right _ (List.mem_append_right _ (List.mem_append_left _ (List.mem_of_getElem? (i := 122) (rfl)))))
theorem wd_625 : Cond.instanceMethod yX0_clear ∈ lw_tbl := List.mem_append_right _ (List.mem_append_right _ (List.mem_append_right _ (List.mem_append_left _ (List.mem_of_getElem? (i := 121) (rfl)))))
theorem wd_626 : Cond.methodLink RX9 151 yX0_clear ∈ lw_tbl := List.mem_append_right _ (List.mem_append_right _ (List.mem_append_right _ (List.mem_append_left _ (List.mem_of_getElem? (i := 120) (rfl)))))
set_option maxRecDepth 20000 in
theorem in_wsX9_forget : ∀ w ∈ wsX9_forget, w ∈ lw_tbl := by
  unfold wsX9_forget
  exact (List.forall_mem_cons.mpr ⟨wd_622, (List.forall_mem_append.mpr ⟨(List.forall_mem_append.mpr ⟨(List.forall_mem_cons.mpr ⟨wd_607, (List.forall_mem_cons.mpr ⟨wd_626, (List.forall_mem_cons.mpr ⟨wd_625, (List.forall_mem_cons.mpr ⟨wd_624, (List.forall_mem_cons.mpr ⟨wd_603, (List.forall_mem_cons.mpr ⟨wd_623, (List.forall_mem_cons.mpr ⟨wd_601, (fun _ h => absurd h List.not_mem_nil)⟩)⟩)⟩)⟩)⟩)⟩)⟩), us_X9⟩), us_X0⟩)⟩)
theorem wd_627 : Cond.selects RX9 yX9_forget yX9_forget ∈ lw_tbl := List.mem_append_right _ (List.mem_append_right _ (List.mem_append_right _ (List.mem_append_left _ (List.mem_of_getElem? (i := 118) (rfl)))))
theorem wd_628 : Cond.instanceMethod yX9_forget ∈ lw_tbl := List.mem_append_right _ (List.mem_append_right _ (List.mem_append_right _ (List.mem_append_left _ (List.mem_of_getElem? (i := 117) (rfl)))))
theorem wd_629 : Cond.methodLink RL 61 yX9_forget ∈ lw_tbl := List.mem_append_right _ (List.mem_append_right _ (List.mem_append_right _ (List.mem_append_left _ (List.mem_of_getElem? (i := 116) (rfl)))))
theorem wd_630 : Cond.code yX10_forget cX10_forget 2 (some .int) ∈ lw_tbl := List.mem_append_right _ (List.mem_append_right _ (List.mem_append_right _ (List.mem_append_right _ (List.mem_append_right _ (List.mem_of_getElem? (i := 4) (rfl))))))
set_option maxRecDepth 20000 in
theorem in_wsX10_forget : ∀ w ∈ wsX10_forget, w ∈ lw_tbl := by
  unfold wsX10_forget
  exact (List.forall_mem_cons.mpr ⟨wd_630, (List.forall_mem_append.mpr ⟨(List.forall_mem_cons.mpr ⟨wd_618, (fun _ h => absurd h List.not_mem_nil)⟩), us_X10⟩)⟩)
theorem wd_631 : Cond.selects RX10 yX10_forget yX10_forget ∈ lw_tbl := List.mem_append_right _ (List.mem_append_right _ (List.mem_append_right _ (List.mem_append_right _ (List.mem_append_right _ (List.mem_of_getElem? (i := 3) (rfl))))))
theorem wd_632 : Cond.instanceMethod yX10_forget ∈ lw_tbl := List.mem_append_right _ (List.mem_append_right _ (List.mem_append_right _ (List.mem_append_right _ (List.mem_append_right _ (List.mem_of_getElem? (i := 2) (rfl))))))
theorem wd_633 : Cond.methodLink RL 64 yX10_forget ∈ lw_tbl := List.mem_append_right _ (List.mem_append_right _ (List.mem_append_right _ (List.mem_append_right _ (List.mem_append_right _ (List.mem_of_getElem? (i := 1) (rfl))))))
theorem wd_634 : Cond.code yX9_walk cX9_walk 6 (some .int) ∈ lw_tbl := List.mem_append_right _ (List.mem_append_right _ (List.mem_append_right _ (List.mem_append_left _ (List.mem_of_getElem? (i := 127) (rfl)))))
theorem wd_635 : Cond.native arraycopyName ∈ lw_tbl := List.mem_append_right _ (List.mem_append_left _ (List.mem_of_getElem? (i := 225) (rfl)))
theorem wd_636 : Cond.methodLink RX0 28 arraycopyName ∈ lw_tbl := List.mem_append_right _ (List.mem_append_right _ (List.mem_append_right _ (List.mem_append_left _ (List.mem_of_getElem? (i := 132) (rfl)))))
theorem wd_637 : Cond.fieldLink RX0 15 "GrammarTunes$Chain" "path" "[I" ∈ lw_tbl := List.mem_append_right _ (List.mem_append_left _ (List.mem_of_getElem? (i := 193) (rfl)))
theorem wd_638 : Cond.code yX0_wander cX0_wander 8 (some .int) ∈ lw_tbl := List.mem_append_right _ (List.mem_append_right _ (List.mem_append_right _ (List.mem_append_left _ (List.mem_of_getElem? (i := 131) (rfl)))))
theorem wd_639 : Cond.selects RX0 yX0_wander yX0_wander ∈ lw_tbl := List.mem_append_right _ (List.mem_append_right _ (List.mem_append_right _ (List.mem_append_left _ (List.mem_of_getElem? (i := 130) (rfl)))))
theorem wd_640 : Cond.instanceMethod yX0_wander ∈ lw_tbl := List.mem_append_right _ (List.mem_append_right _ (List.mem_append_right _ (List.mem_append_left _ (List.mem_of_getElem? (i := 129) (rfl)))))
theorem wd_641 : Cond.methodLink RX9 155 yX0_wander ∈ lw_tbl := List.mem_append_right _ (List.mem_append_right _ (List.mem_append_right _ (List.mem_append_left _ (List.mem_of_getElem? (i := 128) (rfl)))))
set_option maxRecDepth 20000 in
theorem in_wsX9_walk_r1 : ∀ w ∈ wsX9_walk_r1, w ∈ lw_tbl := by
  unfold wsX9_walk_r1
  exact (List.forall_mem_cons.mpr ⟨wd_607, (List.forall_mem_cons.mpr ⟨wd_360, (List.forall_mem_cons.mpr ⟨wd_359, (List.forall_mem_cons.mpr ⟨wd_358, (List.forall_mem_cons.mpr ⟨wd_329, (List.forall_mem_cons.mpr ⟨wd_3, (List.forall_mem_cons.mpr ⟨wd_2, (List.forall_mem_cons.mpr ⟨wd_1, (List.forall_mem_cons.mpr ⟨wd_356, (List.forall_mem_cons.mpr ⟨wd_355, (List.forall_mem_cons.mpr ⟨wd_354, (List.forall_mem_cons.mpr ⟨wd_353, (List.forall_mem_cons.mpr ⟨wd_118, (List.forall_mem_cons.mpr ⟨wd_117, (List.forall_mem_cons.mpr ⟨wd_352, (List.forall_mem_cons.mpr ⟨wd_641, (List.forall_mem_cons.mpr ⟨wd_640, (List.forall_mem_cons.mpr ⟨wd_639, (List.forall_mem_cons.mpr ⟨wd_603, (List.forall_mem_cons.mpr ⟨wd_638, (List.forall_mem_cons.mpr ⟨wd_600, (List.forall_mem_cons.mpr ⟨wd_637, (List.forall_mem_cons.mpr ⟨wd_636, (List.forall_mem_cons.mpr ⟨wd_635, (fun _ h => absurd h List.not_mem_nil)⟩)⟩)⟩)⟩)⟩)⟩)⟩)⟩)⟩)⟩)⟩)⟩)⟩)⟩)⟩)⟩)⟩)⟩)⟩)⟩)⟩)⟩)⟩)⟩)
theorem wd_642 : Cond.methodLink RX0 38 yX1_drawUnder ∈ lw_tbl := List.mem_append_right _ (List.mem_append_right _ (List.mem_append_right _ (List.mem_append_left _ (List.mem_of_getElem? (i := 141) (rfl)))))
theorem wd_643 : Cond.code yX0_isBehindLatest cX0_isBehindLatest 4 (some .boolean) ∈ lw_tbl := List.mem_append_right _ (List.mem_append_right _ (List.mem_append_right _ (List.mem_append_left _ (List.mem_of_getElem? (i := 140) (rfl)))))
theorem wd_644 : Cond.selects RX0 yX0_isBehindLatest yX0_isBehindLatest ∈ lw_tbl := List.mem_append_left _ (List.mem_of_getElem? (i := 21) rfl)
theorem wd_645 : Cond.instanceMethod yX0_isBehindLatest ∈ lw_tbl := List.mem_append_right _ (List.mem_append_right _ (List.mem_append_right _ (List.mem_append_left _ (List.mem_of_getElem? (i := 139) (rfl)))))
theorem wd_646 : Cond.methodLink RX0 43 yX0_isBehindLatest ∈ lw_tbl := List.mem_append_right _ (List.mem_append_right _ (List.mem_append_right _ (List.mem_append_left _ (List.mem_of_getElem? (i := 137) (rfl)))))
theorem wd_647 : Cond.code yX0_findFollowers cX0_findFollowers 4 (some .int) ∈ lw_tbl := List.mem_append_right _ (List.mem_append_right _ (List.mem_append_right _ (List.mem_append_left _ (List.mem_of_getElem? (i := 136) (rfl)))))
theorem wd_648 : Cond.selects RX0 yX0_findFollowers yX0_findFollowers ∈ lw_tbl := List.mem_append_left _ (List.mem_of_getElem? (i := 20) rfl)
theorem wd_649 : Cond.instanceMethod yX0_findFollowers ∈ lw_tbl := List.mem_append_right _ (List.mem_append_right _ (List.mem_append_right _ (List.mem_append_left _ (List.mem_of_getElem? (i := 135) (rfl)))))
theorem wd_650 : Cond.methodLink RX0 34 yX0_findFollowers ∈ lw_tbl := List.mem_append_right _ (List.mem_append_right _ (List.mem_append_right _ (List.mem_append_left _ (List.mem_of_getElem? (i := 133) (rfl)))))
theorem wd_651 : Cond.fieldLink RX0 18 "GrammarTunes$Chain" "found" "[I" ∈ lw_tbl := List.mem_append_right _ (List.mem_append_left _ (List.mem_of_getElem? (i := 195) (rfl)))
theorem wd_652 : Cond.fieldLink RX0 25 "GrammarTunes$Chain" "walked" "I" ∈ lw_tbl := List.mem_append_right _ (List.mem_append_left _ (List.mem_of_getElem? (i := 198) (rfl)))
theorem wd_653 : Cond.initialized "java/lang/System" ∈ lw_tbl := List.mem_append_right _ (List.mem_append_left _ (List.mem_of_getElem? (i := 8) (rfl)))
theorem wd_654 : Cond.static arraycopyName ∈ lw_tbl := List.mem_append_right _ (List.mem_append_left _ (List.mem_of_getElem? (i := 224) (rfl)))
set_option maxRecDepth 20000 in
theorem in_wsX9_walk_r2 : ∀ w ∈ wsX9_walk_r2, w ∈ lw_tbl := by
  unfold wsX9_walk_r2
  exact (List.forall_mem_cons.mpr ⟨wd_654, (List.forall_mem_cons.mpr ⟨wd_653, (List.forall_mem_cons.mpr ⟨wd_652, (List.forall_mem_cons.mpr ⟨wd_651, (List.forall_mem_cons.mpr ⟨wd_650, (List.forall_mem_cons.mpr ⟨wd_649, (List.forall_mem_cons.mpr ⟨wd_648, (List.forall_mem_cons.mpr ⟨wd_647, (List.forall_mem_cons.mpr ⟨wd_601, (List.forall_mem_cons.mpr ⟨wd_646, (List.forall_mem_cons.mpr ⟨wd_645, (List.forall_mem_cons.mpr ⟨wd_644, (List.forall_mem_cons.mpr ⟨wd_643, (List.forall_mem_cons.mpr ⟨wd_642, (List.forall_mem_cons.mpr ⟨wd_394, (List.forall_mem_cons.mpr ⟨wd_393, (List.forall_mem_cons.mpr ⟨wd_392, (List.forall_mem_cons.mpr ⟨wd_391, (List.forall_mem_cons.mpr ⟨wd_390, (List.forall_mem_cons.mpr ⟨wd_432, (List.forall_mem_cons.mpr ⟨wd_431, (List.forall_mem_cons.mpr ⟨wd_430, (List.forall_mem_cons.mpr ⟨wd_429, (List.forall_mem_cons.mpr ⟨wd_428, (fun _ h => absurd h List.not_mem_nil)⟩)⟩)⟩)⟩)⟩)⟩)⟩)⟩)⟩)⟩)⟩)⟩)⟩)⟩)⟩)⟩)⟩)⟩)⟩)⟩)⟩)⟩)⟩)⟩)
set_option maxRecDepth 20000 in
theorem in_wsX9_walk_r3 : ∀ w ∈ wsX9_walk_r3, w ∈ lw_tbl := by
  unfold wsX9_walk_r3
  exact (List.forall_mem_cons.mpr ⟨wd_427, (List.forall_mem_cons.mpr ⟨wd_426, (fun _ h => absurd h List.not_mem_nil)⟩)⟩)
set_option maxRecDepth 20000 in
theorem in_wsX9_walk : ∀ w ∈ wsX9_walk, w ∈ lw_tbl := by
  unfold wsX9_walk
  exact (List.forall_mem_cons.mpr ⟨wd_634, (List.forall_mem_append.mpr ⟨(List.forall_mem_append.mpr ⟨(List.forall_mem_append.mpr ⟨(List.forall_mem_append.mpr ⟨in_wsX9_walk_r1, (List.forall_mem_append.mpr ⟨in_wsX9_walk_r2, in_wsX9_walk_r3⟩)⟩), us_X9⟩), us_X0⟩), us_X1⟩)⟩)
theorem wd_655 : Cond.selects RX9 yX9_walk yX9_walk ∈ lw_tbl := List.mem_append_right _ (List.mem_append_right _ (List.mem_append_right _ (List.mem_append_left _ (List.mem_of_getElem? (i := 126) (rfl)))))
theorem wd_656 : Cond.instanceMethod yX9_walk ∈ lw_tbl := List.mem_append_right _ (List.mem_append_right _ (List.mem_append_right _ (List.mem_append_left _ (List.mem_of_getElem? (i := 125) (rfl)))))
theorem wd_657 : Cond.methodLink RL 65 yX9_walk ∈ lw_tbl := List.mem_append_right _ (List.mem_append_right _ (List.mem_append_right _ (List.mem_append_left _ (List.mem_of_getElem? (i := 124) (rfl)))))
theorem wd_658 : Cond.code yX10_walk cX10_walk 11 (some .int) ∈ lw_tbl := List.mem_append_right _ (List.mem_append_right _ (List.mem_append_right _ (List.mem_append_right _ (List.mem_append_right _ (List.mem_of_getElem? (i := 8) (rfl))))))
theorem wd_659 : Cond.code yX10_isAhead cX10_isAhead 5 (some .boolean) ∈ lw_tbl := List.mem_append_right _ (List.mem_append_right _ (List.mem_append_right _ (List.mem_append_right _ (List.mem_append_right _ (List.mem_of_getElem? (i := 12) (rfl))))))
theorem wd_660 : Cond.selects RX10 yX10_isAhead yX10_isAhead ∈ lw_tbl := List.mem_append_left _ (List.mem_of_getElem? (i := 40) rfl)
theorem wd_661 : Cond.instanceMethod yX10_isAhead ∈ lw_tbl := List.mem_append_right _ (List.mem_append_right _ (List.mem_append_right _ (List.mem_append_right _ (List.mem_append_right _ (List.mem_of_getElem? (i := 11) (rfl))))))
theorem wd_662 : Cond.methodLink RX10 243 yX10_isAhead ∈ lw_tbl := List.mem_append_right _ (List.mem_append_right _ (List.mem_append_right _ (List.mem_append_right _ (List.mem_append_right _ (List.mem_of_getElem? (i := 9) (rfl))))))
theorem wd_663 : Cond.fieldLink RX10 240 "GrammarTunesModel" "walkedSize" "I" ∈ lw_tbl := List.mem_append_right _ (List.mem_append_right _ (List.mem_append_right _ (List.mem_append_right _ (List.mem_append_left _ (List.mem_of_getElem? (i := 18) (rfl))))))
theorem wd_664 : Cond.fieldLink RX10 114 "GrammarTunesModel" "walked" "[I" ∈ lw_tbl := List.mem_append_right _ (List.mem_append_right _ (List.mem_append_right _ (List.mem_append_right _ (List.mem_append_left _ (List.mem_of_getElem? (i := 17) (rfl))))))
set_option maxRecDepth 20000 in
theorem in_wsX10_walk : ∀ w ∈ wsX10_walk, w ∈ lw_tbl := by
  unfold wsX10_walk
  exact (List.forall_mem_cons.mpr ⟨wd_658, (List.forall_mem_append.mpr ⟨(List.forall_mem_cons.mpr ⟨wd_618, (List.forall_mem_cons.mpr ⟨wd_523, (List.forall_mem_cons.mpr ⟨wd_664, (List.forall_mem_cons.mpr ⟨wd_617, (List.forall_mem_cons.mpr ⟨wd_663, (List.forall_mem_cons.mpr ⟨wd_662, (List.forall_mem_cons.mpr ⟨wd_661, (List.forall_mem_cons.mpr ⟨wd_660, (List.forall_mem_cons.mpr ⟨wd_88, (List.forall_mem_cons.mpr ⟨wd_659, (List.forall_mem_cons.mpr ⟨wd_551, (List.forall_mem_cons.mpr ⟨wd_550, (List.forall_mem_cons.mpr ⟨wd_549, (List.forall_mem_cons.mpr ⟨wd_548, (List.forall_mem_cons.mpr ⟨wd_547, (List.forall_mem_cons.mpr ⟨wd_546, (List.forall_mem_cons.mpr ⟨wd_570, (List.forall_mem_cons.mpr ⟨wd_569, (List.forall_mem_cons.mpr ⟨wd_568, (List.forall_mem_cons.mpr ⟨wd_567, (List.forall_mem_cons.mpr ⟨wd_566, (List.forall_mem_cons.mpr ⟨wd_565, (fun _ h => absurd h List.not_mem_nil)⟩)⟩)⟩)⟩)⟩)⟩)⟩)⟩)⟩)⟩)⟩)⟩)⟩)⟩)⟩)⟩)⟩)⟩)⟩)⟩)⟩)⟩), us_X10⟩)⟩)
theorem wd_665 : Cond.selects RX10 yX10_walk yX10_walk ∈ lw_tbl := List.mem_append_right _ (List.mem_append_right _ (List.mem_append_right _ (List.mem_append_right _ (List.mem_append_right _ (List.mem_of_getElem? (i := 7) (rfl))))))
theorem wd_666 : Cond.instanceMethod yX10_walk ∈ lw_tbl := List.mem_append_right _ (List.mem_append_right _ (List.mem_append_right _ (List.mem_append_right _ (List.mem_append_right _ (List.mem_of_getElem? (i := 6) (rfl))))))
theorem wd_667 : Cond.methodLink RL 69 yX10_walk ∈ lw_tbl := List.mem_append_right _ (List.mem_append_right _ (List.mem_append_right _ (List.mem_append_right _ (List.mem_append_right _ (List.mem_of_getElem? (i := 5) (rfl))))))
theorem wd_668 : Cond.code yX9_step cX9_step 2 (some .int) ∈ lw_tbl := List.mem_append_right _ (List.mem_append_right _ (List.mem_append_right _ (List.mem_append_left _ (List.mem_of_getElem? (i := 145) (rfl)))))
set_option maxRecDepth 20000 in
theorem in_wsX9_step : ∀ w ∈ wsX9_step, w ∈ lw_tbl := by
  unfold wsX9_step
  exact (List.forall_mem_cons.mpr ⟨wd_668, (List.forall_mem_append.mpr ⟨(List.forall_mem_append.mpr ⟨(List.forall_mem_cons.mpr ⟨wd_607, (List.forall_mem_cons.mpr ⟨wd_329, (List.forall_mem_cons.mpr ⟨wd_3, (List.forall_mem_cons.mpr ⟨wd_2, (List.forall_mem_cons.mpr ⟨wd_1, (fun _ h => absurd h List.not_mem_nil)⟩)⟩)⟩)⟩)⟩), us_X9⟩), us_X0⟩)⟩)
theorem wd_669 : Cond.selects RX9 yX9_step yX9_step ∈ lw_tbl := List.mem_append_right _ (List.mem_append_right _ (List.mem_append_right _ (List.mem_append_left _ (List.mem_of_getElem? (i := 144) (rfl)))))
theorem wd_670 : Cond.instanceMethod yX9_step ∈ lw_tbl := List.mem_append_right _ (List.mem_append_right _ (List.mem_append_right _ (List.mem_append_left _ (List.mem_of_getElem? (i := 143) (rfl)))))
theorem wd_671 : Cond.methodLink RL 70 yX9_step ∈ lw_tbl := List.mem_append_right _ (List.mem_append_right _ (List.mem_append_right _ (List.mem_append_left _ (List.mem_of_getElem? (i := 142) (rfl)))))
theorem wd_672 : Cond.code yX10_step cX10_step 2 (some .int) ∈ lw_tbl := List.mem_append_right _ (List.mem_append_right _ (List.mem_append_right _ (List.mem_append_right _ (List.mem_append_right _ (List.mem_of_getElem? (i := 16) (rfl))))))
set_option maxRecDepth 20000 in
theorem in_wsX10_step : ∀ w ∈ wsX10_step, w ∈ lw_tbl := by
  unfold wsX10_step
  exact (List.forall_mem_cons.mpr ⟨wd_672, (List.forall_mem_append.mpr ⟨(List.forall_mem_cons.mpr ⟨wd_663, (List.forall_mem_cons.mpr ⟨wd_664, (fun _ h => absurd h List.not_mem_nil)⟩)⟩), us_X10⟩)⟩)
theorem wd_673 : Cond.selects RX10 yX10_step yX10_step ∈ lw_tbl := List.mem_append_right _ (List.mem_append_right _ (List.mem_append_right _ (List.mem_append_right _ (List.mem_append_right _ (List.mem_of_getElem? (i := 15) (rfl))))))
theorem wd_674 : Cond.instanceMethod yX10_step ∈ lw_tbl := List.mem_append_right _ (List.mem_append_right _ (List.mem_append_right _ (List.mem_append_right _ (List.mem_append_right _ (List.mem_of_getElem? (i := 14) (rfl))))))
theorem wd_675 : Cond.methodLink RL 73 yX10_step ∈ lw_tbl := List.mem_append_right _ (List.mem_append_right _ (List.mem_append_right _ (List.mem_append_right _ (List.mem_append_right _ (List.mem_of_getElem? (i := 13) (rfl))))))
theorem wd_676 : Cond.code yX9_steps cX9_steps 1 (some .int) ∈ lw_tbl := List.mem_append_right _ (List.mem_append_right _ (List.mem_append_right _ (List.mem_append_left _ (List.mem_of_getElem? (i := 149) (rfl)))))
set_option maxRecDepth 20000 in
theorem in_wsX9_steps : ∀ w ∈ wsX9_steps, w ∈ lw_tbl := by
  unfold wsX9_steps
  exact (List.forall_mem_cons.mpr ⟨wd_676, (List.forall_mem_append.mpr ⟨(List.forall_mem_append.mpr ⟨(List.forall_mem_cons.mpr ⟨wd_607, (fun _ h => absurd h List.not_mem_nil)⟩), us_X9⟩), us_X0⟩)⟩)
theorem wd_677 : Cond.selects RX9 yX9_steps yX9_steps ∈ lw_tbl := List.mem_append_right _ (List.mem_append_right _ (List.mem_append_right _ (List.mem_append_left _ (List.mem_of_getElem? (i := 148) (rfl)))))
theorem wd_678 : Cond.instanceMethod yX9_steps ∈ lw_tbl := List.mem_append_right _ (List.mem_append_right _ (List.mem_append_right _ (List.mem_append_left _ (List.mem_of_getElem? (i := 147) (rfl)))))
theorem wd_679 : Cond.methodLink RL 74 yX9_steps ∈ lw_tbl := List.mem_append_right _ (List.mem_append_right _ (List.mem_append_right _ (List.mem_append_left _ (List.mem_of_getElem? (i := 146) (rfl)))))
theorem wd_680 : Cond.code yX10_steps cX10_steps 1 (some .int) ∈ lw_tbl := List.mem_append_right _ (List.mem_append_right _ (List.mem_append_right _ (List.mem_append_right _ (List.mem_append_right _ (List.mem_of_getElem? (i := 20) (rfl))))))
set_option maxRecDepth 20000 in
theorem in_wsX10_steps : ∀ w ∈ wsX10_steps, w ∈ lw_tbl := by
  unfold wsX10_steps
  exact (List.forall_mem_cons.mpr ⟨wd_680, (List.forall_mem_append.mpr ⟨(List.forall_mem_cons.mpr ⟨wd_663, (fun _ h => absurd h List.not_mem_nil)⟩), us_X10⟩)⟩)
theorem wd_681 : Cond.selects RX10 yX10_steps yX10_steps ∈ lw_tbl := List.mem_append_right _ (List.mem_append_right _ (List.mem_append_right _ (List.mem_append_right _ (List.mem_append_right _ (List.mem_of_getElem? (i := 19) (rfl))))))
theorem wd_682 : Cond.instanceMethod yX10_steps ∈ lw_tbl := List.mem_append_right _ (List.mem_append_right _ (List.mem_append_right _ (List.mem_append_right _ (List.mem_append_right _ (List.mem_of_getElem? (i := 18) (rfl))))))
theorem wd_683 : Cond.methodLink RL 77 yX10_steps ∈ lw_tbl := List.mem_append_right _ (List.mem_append_right _ (List.mem_append_right _ (List.mem_append_right _ (List.mem_append_right _ (List.mem_of_getElem? (i := 17) (rfl))))))
theorem wd_684 : Cond.code yX9_stroke cX9_stroke 5 (some .int) ∈ lw_tbl := List.mem_append_right _ (List.mem_append_right _ (List.mem_append_right _ (List.mem_append_left _ (List.mem_of_getElem? (i := 153) (rfl)))))
theorem wd_685 : Cond.constant RX9 165 (1000000) ∈ lw_tbl := List.mem_append_right _ (List.mem_append_right _ (List.mem_append_right _ (List.mem_append_left _ (List.mem_of_getElem? (i := 154) (rfl)))))
set_option maxRecDepth 20000 in
theorem in_wsX9_stroke : ∀ w ∈ wsX9_stroke, w ∈ lw_tbl := by
  unfold wsX9_stroke
  exact (List.forall_mem_cons.mpr ⟨wd_684, (List.forall_mem_cons.mpr ⟨wd_685, (List.forall_mem_cons.mpr ⟨wd_329, (List.forall_mem_cons.mpr ⟨wd_3, (List.forall_mem_cons.mpr ⟨wd_2, (List.forall_mem_cons.mpr ⟨wd_1, (fun _ h => absurd h List.not_mem_nil)⟩)⟩)⟩)⟩)⟩)⟩)
theorem wd_686 : Cond.selects RX9 yX9_stroke yX9_stroke ∈ lw_tbl := List.mem_append_right _ (List.mem_append_right _ (List.mem_append_right _ (List.mem_append_left _ (List.mem_of_getElem? (i := 152) (rfl)))))
theorem wd_687 : Cond.instanceMethod yX9_stroke ∈ lw_tbl := List.mem_append_right _ (List.mem_append_right _ (List.mem_append_right _ (List.mem_append_left _ (List.mem_of_getElem? (i := 151) (rfl)))))
theorem wd_688 : Cond.methodLink RL 78 yX9_stroke ∈ lw_tbl := List.mem_append_right _ (List.mem_append_right _ (List.mem_append_right _ (List.mem_append_left _ (List.mem_of_getElem? (i := 150) (rfl)))))
theorem wd_689 : Cond.code yX10_stroke cX10_stroke 5 (some .int) ∈ lw_tbl := List.mem_append_right _ (List.mem_append_right _ (List.mem_append_right _ (List.mem_append_right _ (List.mem_append_right _ (List.mem_of_getElem? (i := 24) (rfl))))))
theorem wd_690 : Cond.constant RX10 246 (1000000) ∈ lw_tbl := List.mem_append_right _ (List.mem_append_right _ (List.mem_append_right _ (List.mem_append_right _ (List.mem_append_right _ (List.mem_of_getElem? (i := 25) (rfl))))))
set_option maxRecDepth 20000 in
theorem in_wsX10_stroke : ∀ w ∈ wsX10_stroke, w ∈ lw_tbl := by
  unfold wsX10_stroke
  exact (List.forall_mem_cons.mpr ⟨wd_689, (List.forall_mem_cons.mpr ⟨wd_690, (fun _ h => absurd h List.not_mem_nil)⟩)⟩)
theorem wd_691 : Cond.selects RX10 yX10_stroke yX10_stroke ∈ lw_tbl := List.mem_append_right _ (List.mem_append_right _ (List.mem_append_right _ (List.mem_append_right _ (List.mem_append_right _ (List.mem_of_getElem? (i := 23) (rfl))))))
theorem wd_692 : Cond.instanceMethod yX10_stroke ∈ lw_tbl := List.mem_append_right _ (List.mem_append_right _ (List.mem_append_right _ (List.mem_append_right _ (List.mem_append_right _ (List.mem_of_getElem? (i := 22) (rfl))))))
theorem wd_693 : Cond.methodLink RL 82 yX10_stroke ∈ lw_tbl := List.mem_append_right _ (List.mem_append_right _ (List.mem_append_right _ (List.mem_append_right _ (List.mem_append_right _ (List.mem_of_getElem? (i := 21) (rfl))))))
theorem wd_694 : Cond.code yX9_turned cX9_turned 13 (some .int) ∈ lw_tbl := List.mem_append_right _ (List.mem_append_right _ (List.mem_append_right _ (List.mem_append_left _ (List.mem_of_getElem? (i := 158) (rfl)))))
theorem wd_695 : Cond.constantLong RX9 166 (-1) ∈ lw_tbl := List.mem_append_right _ (List.mem_append_right _ (List.mem_append_right _ (List.mem_append_left _ (List.mem_of_getElem? (i := 159) (rfl)))))
set_option maxRecDepth 20000 in
theorem in_wsX9_turned : ∀ w ∈ wsX9_turned, w ∈ lw_tbl := by
  unfold wsX9_turned
  exact (List.forall_mem_cons.mpr ⟨wd_694, (List.forall_mem_cons.mpr ⟨wd_695, (List.forall_mem_cons.mpr ⟨wd_329, (List.forall_mem_cons.mpr ⟨wd_3, (List.forall_mem_cons.mpr ⟨wd_2, (List.forall_mem_cons.mpr ⟨wd_1, (fun _ h => absurd h List.not_mem_nil)⟩)⟩)⟩)⟩)⟩)⟩)
theorem wd_696 : Cond.selects RX9 yX9_turned yX9_turned ∈ lw_tbl := List.mem_append_right _ (List.mem_append_right _ (List.mem_append_right _ (List.mem_append_left _ (List.mem_of_getElem? (i := 157) (rfl)))))
theorem wd_697 : Cond.instanceMethod yX9_turned ∈ lw_tbl := List.mem_append_right _ (List.mem_append_right _ (List.mem_append_right _ (List.mem_append_left _ (List.mem_of_getElem? (i := 156) (rfl)))))
theorem wd_698 : Cond.methodLink RL 83 yX9_turned ∈ lw_tbl := List.mem_append_right _ (List.mem_append_right _ (List.mem_append_right _ (List.mem_append_left _ (List.mem_of_getElem? (i := 155) (rfl)))))
theorem wd_699 : Cond.code yX10_turned cX10_turned 9 (some .int) ∈ lw_tbl := List.mem_append_right _ (List.mem_append_right _ (List.mem_append_right _ (List.mem_append_right _ (List.mem_append_right _ (List.mem_of_getElem? (i := 29) (rfl))))))
set_option maxRecDepth 20000 in
theorem in_wsX10_turned : ∀ w ∈ wsX10_turned, w ∈ lw_tbl := by
  unfold wsX10_turned
  exact (List.forall_mem_cons.mpr ⟨wd_699, (fun _ h => absurd h List.not_mem_nil)⟩)
theorem wd_700 : Cond.selects RX10 yX10_turned yX10_turned ∈ lw_tbl := List.mem_append_right _ (List.mem_append_right _ (List.mem_append_right _ (List.mem_append_right _ (List.mem_append_right _ (List.mem_of_getElem? (i := 28) (rfl))))))
theorem wd_701 : Cond.instanceMethod yX10_turned ∈ lw_tbl := List.mem_append_right _ (List.mem_append_right _ (List.mem_append_right _ (List.mem_append_right _ (List.mem_append_right _ (List.mem_of_getElem? (i := 27) (rfl))))))
theorem wd_702 : Cond.methodLink RL 87 yX10_turned ∈ lw_tbl := List.mem_append_right _ (List.mem_append_right _ (List.mem_append_right _ (List.mem_append_right _ (List.mem_append_right _ (List.mem_of_getElem? (i := 26) (rfl))))))
theorem wd_703 : Cond.code yX9_place cX9_place 3 (some .int) ∈ lw_tbl := List.mem_append_right _ (List.mem_append_right _ (List.mem_append_right _ (List.mem_append_left _ (List.mem_of_getElem? (i := 163) (rfl)))))
theorem wd_704 : Cond.fieldLink RX7 9 "GrammarTunes$ToneRow" "row" "[I" ∈ lw_tbl := List.mem_append_right _ (List.mem_append_left _ (List.mem_of_getElem? (i := 217) (rfl)))
theorem wd_705 : Cond.code yX7_swapIn cX7_swapIn 4 none ∈ lw_tbl := List.mem_append_right _ (List.mem_append_right _ (List.mem_append_right _ (List.mem_append_left _ (List.mem_of_getElem? (i := 167) (rfl)))))
theorem wd_706 : Cond.initialized RX7 ∈ lw_tbl := List.mem_append_right _ (List.mem_append_left _ (List.mem_of_getElem? (i := 7) (rfl)))
theorem wd_707 : Cond.selects RX7 yX7_swapIn yX7_swapIn ∈ lw_tbl := List.mem_append_right _ (List.mem_append_right _ (List.mem_append_right _ (List.mem_append_left _ (List.mem_of_getElem? (i := 166) (rfl)))))
theorem wd_708 : Cond.instanceMethod yX7_swapIn ∈ lw_tbl := List.mem_append_right _ (List.mem_append_right _ (List.mem_append_right _ (List.mem_append_left _ (List.mem_of_getElem? (i := 165) (rfl)))))
theorem wd_709 : Cond.methodLink RX9 168 yX7_swapIn ∈ lw_tbl := List.mem_append_right _ (List.mem_append_right _ (List.mem_append_right _ (List.mem_append_left _ (List.mem_of_getElem? (i := 164) (rfl)))))
theorem wd_710 : Cond.fieldLink RX9 58 "GrammarTunes" "toneRow" "LGrammarTunes$ToneRow;" ∈ lw_tbl := List.mem_append_right _ (List.mem_append_left _ (List.mem_of_getElem? (i := 234) (rfl)))
theorem wd_711 : Cond.laysFinal RX7 "GrammarTunes$ToneRow" "row" "[I" ∈ lw_tbl := List.mem_append_right _ (List.mem_append_left _ (List.mem_of_getElem? (i := 218) (rfl)))
set_option maxRecDepth 20000 in
theorem us_X7 : ∀ w ∈ u_ws RX7 TX7 1, w ∈ lw_tbl := (show ∀ w ∈ ([Cond.laysFinal RX7 "GrammarTunes$ToneRow" "row" "[I"] : List Cond), w ∈ lw_tbl from (List.forall_mem_cons.mpr ⟨wd_711, (fun _ h => absurd h List.not_mem_nil)⟩))
set_option maxRecDepth 20000 in
theorem in_wsX9_place : ∀ w ∈ wsX9_place, w ∈ lw_tbl := by
  unfold wsX9_place
  exact (List.forall_mem_cons.mpr ⟨wd_703, (List.forall_mem_append.mpr ⟨(List.forall_mem_append.mpr ⟨(List.forall_mem_cons.mpr ⟨wd_710, (List.forall_mem_cons.mpr ⟨wd_329, (List.forall_mem_cons.mpr ⟨wd_3, (List.forall_mem_cons.mpr ⟨wd_2, (List.forall_mem_cons.mpr ⟨wd_1, (List.forall_mem_cons.mpr ⟨wd_709, (List.forall_mem_cons.mpr ⟨wd_708, (List.forall_mem_cons.mpr ⟨wd_707, (List.forall_mem_cons.mpr ⟨wd_706, (List.forall_mem_cons.mpr ⟨wd_705, (List.forall_mem_cons.mpr ⟨wd_704, (fun _ h => absurd h List.not_mem_nil)⟩)⟩)⟩)⟩)⟩)⟩)⟩)⟩)⟩)⟩)⟩), us_X9⟩), us_X7⟩)⟩)
theorem wd_712 : Cond.selects RX9 yX9_place yX9_place ∈ lw_tbl := List.mem_append_right _ (List.mem_append_right _ (List.mem_append_right _ (List.mem_append_left _ (List.mem_of_getElem? (i := 162) (rfl)))))
theorem wd_713 : Cond.instanceMethod yX9_place ∈ lw_tbl := List.mem_append_right _ (List.mem_append_right _ (List.mem_append_right _ (List.mem_append_left _ (List.mem_of_getElem? (i := 161) (rfl)))))
theorem wd_714 : Cond.methodLink RL 88 yX9_place ∈ lw_tbl := List.mem_append_right _ (List.mem_append_right _ (List.mem_append_right _ (List.mem_append_left _ (List.mem_of_getElem? (i := 160) (rfl)))))
theorem wd_715 : Cond.code yX10_place cX10_place 5 (some .int) ∈ lw_tbl := List.mem_append_right _ (List.mem_append_right _ (List.mem_append_right _ (List.mem_append_right _ (List.mem_append_right _ (List.mem_of_getElem? (i := 33) (rfl))))))
theorem wd_716 : Cond.fieldLink RX10 117 "GrammarTunesModel" "row" "[I" ∈ lw_tbl := List.mem_append_right _ (List.mem_append_right _ (List.mem_append_right _ (List.mem_append_right _ (List.mem_append_left _ (List.mem_of_getElem? (i := 19) (rfl))))))
set_option maxRecDepth 20000 in
theorem in_wsX10_place : ∀ w ∈ wsX10_place, w ∈ lw_tbl := by
  unfold wsX10_place
  exact (List.forall_mem_cons.mpr ⟨wd_715, (List.forall_mem_append.mpr ⟨(List.forall_mem_cons.mpr ⟨wd_716, (fun _ h => absurd h List.not_mem_nil)⟩), us_X10⟩)⟩)
theorem wd_717 : Cond.selects RX10 yX10_place yX10_place ∈ lw_tbl := List.mem_append_right _ (List.mem_append_right _ (List.mem_append_right _ (List.mem_append_right _ (List.mem_append_right _ (List.mem_of_getElem? (i := 32) (rfl))))))
theorem wd_718 : Cond.instanceMethod yX10_place ∈ lw_tbl := List.mem_append_right _ (List.mem_append_right _ (List.mem_append_right _ (List.mem_append_right _ (List.mem_append_right _ (List.mem_of_getElem? (i := 31) (rfl))))))
theorem wd_719 : Cond.methodLink RL 91 yX10_place ∈ lw_tbl := List.mem_append_right _ (List.mem_append_right _ (List.mem_append_right _ (List.mem_append_right _ (List.mem_append_right _ (List.mem_of_getElem? (i := 30) (rfl))))))
theorem wd_720 : Cond.code yX9_form cX9_form 4 (some .int) ∈ lw_tbl := List.mem_append_right _ (List.mem_append_right _ (List.mem_append_right _ (List.mem_append_left _ (List.mem_of_getElem? (i := 171) (rfl)))))
theorem wd_721 : Cond.code yJ9_floorMod_7cf53 cJ9_floorMod_7cf53 3 (some .int) ∈ lw_tbl := List.mem_append_right _ (List.mem_append_right _ (List.mem_append_right _ (List.mem_append_left _ (List.mem_of_getElem? (i := 178) (rfl)))))
theorem wd_722 : Cond.static yJ9_floorMod_7cf53 ∈ lw_tbl := List.mem_append_right _ (List.mem_append_right _ (List.mem_append_right _ (List.mem_append_left _ (List.mem_of_getElem? (i := 177) (rfl)))))
theorem wd_723 : Cond.methodLink RX7 15 yJ9_floorMod_7cf53 ∈ lw_tbl := List.mem_append_right _ (List.mem_append_right _ (List.mem_append_right _ (List.mem_append_left _ (List.mem_of_getElem? (i := 176) (rfl)))))
theorem wd_724 : Cond.code yX7_numberOf cX7_numberOf 8 (some .int) ∈ lw_tbl := List.mem_append_right _ (List.mem_append_right _ (List.mem_append_right _ (List.mem_append_left _ (List.mem_of_getElem? (i := 175) (rfl)))))
theorem wd_725 : Cond.selects RX7 yX7_numberOf yX7_numberOf ∈ lw_tbl := List.mem_append_right _ (List.mem_append_right _ (List.mem_append_right _ (List.mem_append_left _ (List.mem_of_getElem? (i := 174) (rfl)))))
theorem wd_726 : Cond.instanceMethod yX7_numberOf ∈ lw_tbl := List.mem_append_right _ (List.mem_append_right _ (List.mem_append_right _ (List.mem_append_left _ (List.mem_of_getElem? (i := 173) (rfl)))))
theorem wd_727 : Cond.methodLink RX9 172 yX7_numberOf ∈ lw_tbl := List.mem_append_right _ (List.mem_append_right _ (List.mem_append_right _ (List.mem_append_left _ (List.mem_of_getElem? (i := 172) (rfl)))))
set_option maxRecDepth 20000 in
theorem in_wsX9_form : ∀ w ∈ wsX9_form, w ∈ lw_tbl := by
  unfold wsX9_form
  exact (List.forall_mem_cons.mpr ⟨wd_720, (List.forall_mem_append.mpr ⟨(List.forall_mem_append.mpr ⟨(List.forall_mem_cons.mpr ⟨wd_710, (List.forall_mem_cons.mpr ⟨wd_329, (List.forall_mem_cons.mpr ⟨wd_3, (List.forall_mem_cons.mpr ⟨wd_2, (List.forall_mem_cons.mpr ⟨wd_1, (List.forall_mem_cons.mpr ⟨wd_727, (List.forall_mem_cons.mpr ⟨wd_726, (List.forall_mem_cons.mpr ⟨wd_725, (List.forall_mem_cons.mpr ⟨wd_706, (List.forall_mem_cons.mpr ⟨wd_724, (List.forall_mem_cons.mpr ⟨wd_704, (List.forall_mem_cons.mpr ⟨wd_723, (List.forall_mem_cons.mpr ⟨wd_722, (List.forall_mem_cons.mpr ⟨wd_445, (List.forall_mem_cons.mpr ⟨wd_721, (fun _ h => absurd h List.not_mem_nil)⟩)⟩)⟩)⟩)⟩)⟩)⟩)⟩)⟩)⟩)⟩)⟩)⟩)⟩)⟩), us_X9⟩), us_X7⟩)⟩)
theorem wd_728 : Cond.selects RX9 yX9_form yX9_form ∈ lw_tbl := List.mem_append_right _ (List.mem_append_right _ (List.mem_append_right _ (List.mem_append_left _ (List.mem_of_getElem? (i := 170) (rfl)))))
theorem wd_729 : Cond.instanceMethod yX9_form ∈ lw_tbl := List.mem_append_right _ (List.mem_append_right _ (List.mem_append_right _ (List.mem_append_left _ (List.mem_of_getElem? (i := 169) (rfl)))))
theorem wd_730 : Cond.methodLink RL 92 yX9_form ∈ lw_tbl := List.mem_append_right _ (List.mem_append_right _ (List.mem_append_right _ (List.mem_append_left _ (List.mem_of_getElem? (i := 168) (rfl)))))
theorem wd_731 : Cond.code yX10_form cX10_form 4 (some .int) ∈ lw_tbl := List.mem_append_right _ (List.mem_append_right _ (List.mem_append_right _ (List.mem_append_right _ (List.mem_append_right _ (List.mem_of_getElem? (i := 37) (rfl))))))
theorem wd_732 : Cond.code yX10_formOf cX10_formOf 6 (some .int) ∈ lw_tbl := List.mem_append_right _ (List.mem_append_right _ (List.mem_append_right _ (List.mem_append_right _ (List.mem_append_right _ (List.mem_of_getElem? (i := 41) (rfl))))))
theorem wd_733 : Cond.selects RX10 yX10_formOf yX10_formOf ∈ lw_tbl := List.mem_append_left _ (List.mem_of_getElem? (i := 41) rfl)
theorem wd_734 : Cond.instanceMethod yX10_formOf ∈ lw_tbl := List.mem_append_right _ (List.mem_append_right _ (List.mem_append_right _ (List.mem_append_right _ (List.mem_append_right _ (List.mem_of_getElem? (i := 40) (rfl))))))
theorem wd_735 : Cond.methodLink RX10 247 yX10_formOf ∈ lw_tbl := List.mem_append_right _ (List.mem_append_right _ (List.mem_append_right _ (List.mem_append_right _ (List.mem_append_right _ (List.mem_of_getElem? (i := 38) (rfl))))))
set_option maxRecDepth 20000 in
theorem in_wsX10_form : ∀ w ∈ wsX10_form, w ∈ lw_tbl := by
  unfold wsX10_form
  exact (List.forall_mem_cons.mpr ⟨wd_731, (List.forall_mem_append.mpr ⟨(List.forall_mem_cons.mpr ⟨wd_735, (List.forall_mem_cons.mpr ⟨wd_734, (List.forall_mem_cons.mpr ⟨wd_733, (List.forall_mem_cons.mpr ⟨wd_88, (List.forall_mem_cons.mpr ⟨wd_732, (List.forall_mem_cons.mpr ⟨wd_716, (fun _ h => absurd h List.not_mem_nil)⟩)⟩)⟩)⟩)⟩)⟩), us_X10⟩)⟩)
theorem wd_736 : Cond.selects RX10 yX10_form yX10_form ∈ lw_tbl := List.mem_append_right _ (List.mem_append_right _ (List.mem_append_right _ (List.mem_append_right _ (List.mem_append_right _ (List.mem_of_getElem? (i := 36) (rfl))))))
theorem wd_737 : Cond.instanceMethod yX10_form ∈ lw_tbl := List.mem_append_right _ (List.mem_append_right _ (List.mem_append_right _ (List.mem_append_right _ (List.mem_append_right _ (List.mem_of_getElem? (i := 35) (rfl))))))
theorem wd_738 : Cond.methodLink RL 96 yX10_form ∈ lw_tbl := List.mem_append_right _ (List.mem_append_right _ (List.mem_append_right _ (List.mem_append_right _ (List.mem_append_right _ (List.mem_of_getElem? (i := 34) (rfl))))))
theorem wd_739 : Cond.code yX9_doubled cX9_doubled 1 (some .int) ∈ lw_tbl := List.mem_append_right _ (List.mem_append_right _ (List.mem_append_right _ (List.mem_append_left _ (List.mem_of_getElem? (i := 182) (rfl)))))
theorem wd_740 : Cond.methodLink RX7 29 yX7_numberOf ∈ lw_tbl := List.mem_append_right _ (List.mem_append_right _ (List.mem_append_right _ (List.mem_append_left _ (List.mem_of_getElem? (i := 195) (rfl)))))
theorem wd_741 : Cond.code yX7_isSame cX7_isSame 4 (some .boolean) ∈ lw_tbl := List.mem_append_right _ (List.mem_append_right _ (List.mem_append_right _ (List.mem_append_left _ (List.mem_of_getElem? (i := 194) (rfl)))))
theorem wd_742 : Cond.selects RX7 yX7_isSame yX7_isSame ∈ lw_tbl := List.mem_append_left _ (List.mem_of_getElem? (i := 23) rfl)
theorem wd_743 : Cond.instanceMethod yX7_isSame ∈ lw_tbl := List.mem_append_right _ (List.mem_append_right _ (List.mem_append_right _ (List.mem_append_left _ (List.mem_of_getElem? (i := 193) (rfl)))))
theorem wd_744 : Cond.methodLink RX7 25 yX7_isSame ∈ lw_tbl := List.mem_append_right _ (List.mem_append_right _ (List.mem_append_right _ (List.mem_append_left _ (List.mem_of_getElem? (i := 191) (rfl)))))
theorem wd_745 : Cond.code yX7_isAsOneBefore cX7_isAsOneBefore 3 (some .boolean) ∈ lw_tbl := List.mem_append_right _ (List.mem_append_right _ (List.mem_append_right _ (List.mem_append_left _ (List.mem_of_getElem? (i := 190) (rfl)))))
theorem wd_746 : Cond.selects RX7 yX7_isAsOneBefore yX7_isAsOneBefore ∈ lw_tbl := List.mem_append_left _ (List.mem_of_getElem? (i := 22) rfl)
theorem wd_747 : Cond.instanceMethod yX7_isAsOneBefore ∈ lw_tbl := List.mem_append_right _ (List.mem_append_right _ (List.mem_append_right _ (List.mem_append_left _ (List.mem_of_getElem? (i := 189) (rfl)))))
theorem wd_748 : Cond.methodLink RX7 21 yX7_isAsOneBefore ∈ lw_tbl := List.mem_append_right _ (List.mem_append_right _ (List.mem_append_right _ (List.mem_append_left _ (List.mem_of_getElem? (i := 187) (rfl)))))
theorem wd_749 : Cond.code yX7_countDoubled cX7_countDoubled 3 (some .int) ∈ lw_tbl := List.mem_append_right _ (List.mem_append_right _ (List.mem_append_right _ (List.mem_append_left _ (List.mem_of_getElem? (i := 186) (rfl)))))
theorem wd_750 : Cond.selects RX7 yX7_countDoubled yX7_countDoubled ∈ lw_tbl := List.mem_append_right _ (List.mem_append_right _ (List.mem_append_right _ (List.mem_append_left _ (List.mem_of_getElem? (i := 185) (rfl)))))
theorem wd_751 : Cond.instanceMethod yX7_countDoubled ∈ lw_tbl := List.mem_append_right _ (List.mem_append_right _ (List.mem_append_right _ (List.mem_append_left _ (List.mem_of_getElem? (i := 184) (rfl)))))
theorem wd_752 : Cond.methodLink RX9 176 yX7_countDoubled ∈ lw_tbl := List.mem_append_right _ (List.mem_append_right _ (List.mem_append_right _ (List.mem_append_left _ (List.mem_of_getElem? (i := 183) (rfl)))))
set_option maxRecDepth 20000 in
theorem in_wsX9_doubled : ∀ w ∈ wsX9_doubled, w ∈ lw_tbl := by
  unfold wsX9_doubled
  exact (List.forall_mem_cons.mpr ⟨wd_739, (List.forall_mem_append.mpr ⟨(List.forall_mem_append.mpr ⟨(List.forall_mem_cons.mpr ⟨wd_710, (List.forall_mem_cons.mpr ⟨wd_752, (List.forall_mem_cons.mpr ⟨wd_751, (List.forall_mem_cons.mpr ⟨wd_750, (List.forall_mem_cons.mpr ⟨wd_706, (List.forall_mem_cons.mpr ⟨wd_749, (List.forall_mem_cons.mpr ⟨wd_748, (List.forall_mem_cons.mpr ⟨wd_747, (List.forall_mem_cons.mpr ⟨wd_746, (List.forall_mem_cons.mpr ⟨wd_745, (List.forall_mem_cons.mpr ⟨wd_744, (List.forall_mem_cons.mpr ⟨wd_743, (List.forall_mem_cons.mpr ⟨wd_742, (List.forall_mem_cons.mpr ⟨wd_741, (List.forall_mem_cons.mpr ⟨wd_740, (List.forall_mem_cons.mpr ⟨wd_726, (List.forall_mem_cons.mpr ⟨wd_725, (List.forall_mem_cons.mpr ⟨wd_724, (List.forall_mem_cons.mpr ⟨wd_704, (List.forall_mem_cons.mpr ⟨wd_723, (List.forall_mem_cons.mpr ⟨wd_722, (List.forall_mem_cons.mpr ⟨wd_445, (List.forall_mem_cons.mpr ⟨wd_721, (fun _ h => absurd h List.not_mem_nil)⟩)⟩)⟩)⟩)⟩)⟩)⟩)⟩)⟩)⟩)⟩)⟩)⟩)⟩)⟩)⟩)⟩)⟩)⟩)⟩)⟩)⟩)⟩), us_X9⟩), us_X7⟩)⟩)
theorem wd_753 : Cond.selects RX9 yX9_doubled yX9_doubled ∈ lw_tbl := List.mem_append_right _ (List.mem_append_right _ (List.mem_append_right _ (List.mem_append_left _ (List.mem_of_getElem? (i := 181) (rfl)))))
theorem wd_754 : Cond.instanceMethod yX9_doubled ∈ lw_tbl := List.mem_append_right _ (List.mem_append_right _ (List.mem_append_right _ (List.mem_append_left _ (List.mem_of_getElem? (i := 180) (rfl)))))
theorem wd_755 : Cond.methodLink RL 97 yX9_doubled ∈ lw_tbl := List.mem_append_right _ (List.mem_append_right _ (List.mem_append_right _ (List.mem_append_left _ (List.mem_of_getElem? (i := 179) (rfl)))))
theorem wd_756 : Cond.code yX10_doubled cX10_doubled 7 (some .int) ∈ lw_tbl := List.mem_append_right _ (List.mem_append_right _ (List.mem_append_right _ (List.mem_append_right _ (List.mem_append_right _ (List.mem_of_getElem? (i := 45) (rfl))))))
set_option maxRecDepth 20000 in
theorem in_wsX10_doubled : ∀ w ∈ wsX10_doubled, w ∈ lw_tbl := by
  unfold wsX10_doubled
  exact (List.forall_mem_cons.mpr ⟨wd_756, (List.forall_mem_append.mpr ⟨(List.forall_mem_cons.mpr ⟨wd_735, (List.forall_mem_cons.mpr ⟨wd_734, (List.forall_mem_cons.mpr ⟨wd_733, (List.forall_mem_cons.mpr ⟨wd_88, (List.forall_mem_cons.mpr ⟨wd_732, (List.forall_mem_cons.mpr ⟨wd_716, (fun _ h => absurd h List.not_mem_nil)⟩)⟩)⟩)⟩)⟩)⟩), us_X10⟩)⟩)
theorem wd_757 : Cond.selects RX10 yX10_doubled yX10_doubled ∈ lw_tbl := List.mem_append_right _ (List.mem_append_right _ (List.mem_append_right _ (List.mem_append_right _ (List.mem_append_right _ (List.mem_of_getElem? (i := 44) (rfl))))))
theorem wd_758 : Cond.instanceMethod yX10_doubled ∈ lw_tbl := List.mem_append_right _ (List.mem_append_right _ (List.mem_append_right _ (List.mem_append_right _ (List.mem_append_right _ (List.mem_of_getElem? (i := 43) (rfl))))))
theorem wd_759 : Cond.methodLink RL 100 yX10_doubled ∈ lw_tbl := List.mem_append_right _ (List.mem_append_right _ (List.mem_append_right _ (List.mem_append_right _ (List.mem_append_right _ (List.mem_of_getElem? (i := 42) (rfl))))))
theorem wd_760 : Cond.code yX9_told cX9_told 2 (some .int) ∈ lw_tbl := List.mem_append_right _ (List.mem_append_right _ (List.mem_append_right _ (List.mem_append_left _ (List.mem_of_getElem? (i := 199) (rfl)))))
set_option maxRecDepth 20000 in
theorem in_wsX9_told : ∀ w ∈ wsX9_told, w ∈ lw_tbl := by
  unfold wsX9_told
  exact (List.forall_mem_cons.mpr ⟨wd_760, (List.forall_mem_append.mpr ⟨(List.forall_mem_append.mpr ⟨(List.forall_mem_append.mpr ⟨(List.forall_mem_append.mpr ⟨(List.forall_mem_append.mpr ⟨(List.forall_mem_cons.mpr ⟨wd_17, (List.forall_mem_cons.mpr ⟨wd_123, (List.forall_mem_cons.mpr ⟨wd_362, (List.forall_mem_cons.mpr ⟨wd_607, (fun _ h => absurd h List.not_mem_nil)⟩)⟩)⟩)⟩), us_X9⟩), us_X6⟩), us_X2⟩), us_X8⟩), us_X0⟩)⟩)
theorem wd_761 : Cond.selects RX9 yX9_told yX9_told ∈ lw_tbl := List.mem_append_right _ (List.mem_append_right _ (List.mem_append_right _ (List.mem_append_left _ (List.mem_of_getElem? (i := 198) (rfl)))))
theorem wd_762 : Cond.instanceMethod yX9_told ∈ lw_tbl := List.mem_append_right _ (List.mem_append_right _ (List.mem_append_right _ (List.mem_append_left _ (List.mem_of_getElem? (i := 197) (rfl)))))
theorem wd_763 : Cond.methodLink RL 101 yX9_told ∈ lw_tbl := List.mem_append_right _ (List.mem_append_right _ (List.mem_append_right _ (List.mem_append_left _ (List.mem_of_getElem? (i := 196) (rfl)))))
theorem wd_764 : Cond.code yX10_told cX10_told 2 (some .int) ∈ lw_tbl := List.mem_append_right _ (List.mem_append_right _ (List.mem_append_right _ (List.mem_append_right _ (List.mem_append_right _ (List.mem_of_getElem? (i := 49) (rfl))))))
set_option maxRecDepth 20000 in
theorem in_wsX10_told : ∀ w ∈ wsX10_told, w ∈ lw_tbl := by
  unfold wsX10_told
  exact (List.forall_mem_cons.mpr ⟨wd_764, (List.forall_mem_append.mpr ⟨(List.forall_mem_cons.mpr ⟨wd_34, (List.forall_mem_cons.mpr ⟨wd_290, (List.forall_mem_cons.mpr ⟨wd_521, (List.forall_mem_cons.mpr ⟨wd_618, (List.forall_mem_cons.mpr ⟨wd_289, (List.forall_mem_cons.mpr ⟨wd_288, (fun _ h => absurd h List.not_mem_nil)⟩)⟩)⟩)⟩)⟩)⟩), us_X10⟩)⟩)
theorem wd_765 : Cond.selects RX10 yX10_told yX10_told ∈ lw_tbl := List.mem_append_right _ (List.mem_append_right _ (List.mem_append_right _ (List.mem_append_right _ (List.mem_append_right _ (List.mem_of_getElem? (i := 48) (rfl))))))
theorem wd_766 : Cond.instanceMethod yX10_told ∈ lw_tbl := List.mem_append_right _ (List.mem_append_right _ (List.mem_append_right _ (List.mem_append_right _ (List.mem_append_right _ (List.mem_of_getElem? (i := 47) (rfl))))))
theorem wd_767 : Cond.methodLink RL 104 yX10_told ∈ lw_tbl := List.mem_append_right _ (List.mem_append_right _ (List.mem_append_right _ (List.mem_append_right _ (List.mem_append_right _ (List.mem_of_getElem? (i := 46) (rfl))))))
theorem wd_768 : Cond.code yX9_init cX9_init 1 none ∈ lw_tbl := List.mem_append_right _ (List.mem_append_left _ (List.mem_of_getElem? (i := 19) (rfl)))
theorem wd_769 : Cond.classLink RX9 48 RX0 ∈ lw_tbl := List.mem_append_right _ (List.mem_append_left _ (List.mem_of_getElem? (i := 186) (rfl)))
theorem wd_770 : Cond.initialized RX4 ∈ lw_tbl := List.mem_append_right _ (List.mem_append_left _ (List.mem_of_getElem? (i := 5) (rfl)))
theorem wd_771 : Cond.instantiable RX4 8 ∈ lw_tbl := List.mem_append_right _ (List.mem_append_left _ (List.mem_of_getElem? (i := 147) (rfl)))
theorem wd_772 : Cond.classLink RX9 37 RX4 ∈ lw_tbl := List.mem_append_right _ (List.mem_append_left _ (List.mem_of_getElem? (i := 146) (rfl)))
theorem wd_773 : Cond.instantiable RX8 7 ∈ lw_tbl := List.mem_append_right _ (List.mem_append_left _ (List.mem_of_getElem? (i := 113) (rfl)))
theorem wd_774 : Cond.classLink RX9 30 RX8 ∈ lw_tbl := List.mem_append_right _ (List.mem_append_left _ (List.mem_of_getElem? (i := 112) (rfl)))
theorem wd_775 : Cond.arrayClass .int ∈ lw_tbl := List.mem_append_right _ (List.mem_append_left _ (List.mem_of_getElem? (i := 111) (rfl)))
theorem wd_776 : Cond.instantiable RX2 16 ∈ lw_tbl := List.mem_append_right _ (List.mem_append_left _ (List.mem_of_getElem? (i := 41) (rfl)))
theorem wd_777 : Cond.classLink RX9 16 RX2 ∈ lw_tbl := List.mem_append_right _ (List.mem_append_left _ (List.mem_of_getElem? (i := 40) (rfl)))
theorem wd_778 : Cond.instantiable RX6 2 ∈ lw_tbl := List.mem_append_right _ (List.mem_append_left _ (List.mem_of_getElem? (i := 24) (rfl)))
theorem wd_779 : Cond.classLink RX9 9 RX6 ∈ lw_tbl := List.mem_append_right _ (List.mem_append_left _ (List.mem_of_getElem? (i := 23) (rfl)))
theorem wd_780 : Cond.methodLink RX9 3 objectInit ∈ lw_tbl := List.mem_append_right _ (List.mem_append_left _ (List.mem_of_getElem? (i := 20) (rfl)))
set_option maxRecDepth 20000 in
theorem in_wsX9_init_r1 : ∀ w ∈ wsX9_init_r1, w ∈ lw_tbl := by
  unfold wsX9_init_r1
  exact (List.forall_mem_cons.mpr ⟨wd_780, (List.forall_mem_cons.mpr ⟨wd_118, (List.forall_mem_cons.mpr ⟨wd_117, (List.forall_mem_cons.mpr ⟨wd_779, (List.forall_mem_cons.mpr ⟨wd_778, (List.forall_mem_cons.mpr ⟨wd_13, (List.forall_mem_cons.mpr ⟨wd_17, (List.forall_mem_cons.mpr ⟨wd_777, (List.forall_mem_cons.mpr ⟨wd_776, (List.forall_mem_cons.mpr ⟨wd_105, (List.forall_mem_cons.mpr ⟨wd_123, (List.forall_mem_cons.mpr ⟨wd_124, (List.forall_mem_cons.mpr ⟨wd_775, (List.forall_mem_cons.mpr ⟨wd_338, (List.forall_mem_cons.mpr ⟨wd_774, (List.forall_mem_cons.mpr ⟨wd_773, (List.forall_mem_cons.mpr ⟨wd_368, (List.forall_mem_cons.mpr ⟨wd_362, (List.forall_mem_cons.mpr ⟨wd_772, (List.forall_mem_cons.mpr ⟨wd_771, (List.forall_mem_cons.mpr ⟨wd_770, (List.forall_mem_cons.mpr ⟨wd_361, (List.forall_mem_cons.mpr ⟨wd_357, (List.forall_mem_cons.mpr ⟨wd_769, (fun _ h => absurd h List.not_mem_nil)⟩)⟩)⟩)⟩)⟩)⟩)⟩)⟩)⟩)⟩)⟩)⟩)⟩)⟩)⟩)⟩)⟩)⟩)⟩)⟩)⟩)⟩)⟩)⟩)
theorem wd_781 : Cond.methodLink RX2 3 objectInit ∈ lw_tbl := List.mem_append_right _ (List.mem_append_left _ (List.mem_of_getElem? (i := 45) (rfl)))
theorem wd_782 : Cond.code yX2_init cX2_init 1 none ∈ lw_tbl := List.mem_append_right _ (List.mem_append_left _ (List.mem_of_getElem? (i := 44) (rfl)))
theorem wd_783 : Cond.instanceMethod yX2_init ∈ lw_tbl := List.mem_append_right _ (List.mem_append_left _ (List.mem_of_getElem? (i := 43) (rfl)))
theorem wd_784 : Cond.arrayClass .char ∈ lw_tbl := List.mem_append_right _ (List.mem_append_left _ (List.mem_of_getElem? (i := 39) (rfl)))
theorem wd_785 : Cond.methodLink RX6 3 objectInit ∈ lw_tbl := List.mem_append_right _ (List.mem_append_left _ (List.mem_of_getElem? (i := 28) (rfl)))
theorem wd_786 : Cond.code yX6_init cX6_init 1 none ∈ lw_tbl := List.mem_append_right _ (List.mem_append_left _ (List.mem_of_getElem? (i := 27) (rfl)))
theorem wd_787 : Cond.instanceMethod yX6_init ∈ lw_tbl := List.mem_append_right _ (List.mem_append_left _ (List.mem_of_getElem? (i := 26) (rfl)))
theorem wd_788 : Cond.methodLink RX9 65 arraycopyName ∈ lw_tbl := List.mem_append_right _ (List.mem_append_left _ (List.mem_of_getElem? (i := 223) (rfl)))
theorem wd_789 : Cond.fieldLink RX9 62 "GrammarTunes" "WANTED_AT_FIRST" "[I" ∈ lw_tbl := List.mem_append_right _ (List.mem_append_left _ (List.mem_of_getElem? (i := 221) (rfl)))
theorem wd_790 : Cond.instantiable RX7 1 ∈ lw_tbl := List.mem_append_right _ (List.mem_append_left _ (List.mem_of_getElem? (i := 212) (rfl)))
theorem wd_791 : Cond.classLink RX9 55 RX7 ∈ lw_tbl := List.mem_append_right _ (List.mem_append_left _ (List.mem_of_getElem? (i := 211) (rfl)))
theorem wd_792 : Cond.instantiable RX0 5 ∈ lw_tbl := List.mem_append_right _ (List.mem_append_left _ (List.mem_of_getElem? (i := 187) (rfl)))
set_option maxRecDepth 20000 in
theorem in_wsX9_init_r2 : ∀ w ∈ wsX9_init_r2, w ∈ lw_tbl := by
  unfold wsX9_init_r2
  exact (List.forall_mem_cons.mpr ⟨wd_792, (List.forall_mem_cons.mpr ⟨wd_603, (List.forall_mem_cons.mpr ⟨wd_607, (List.forall_mem_cons.mpr ⟨wd_791, (List.forall_mem_cons.mpr ⟨wd_790, (List.forall_mem_cons.mpr ⟨wd_706, (List.forall_mem_cons.mpr ⟨wd_710, (List.forall_mem_cons.mpr ⟨wd_789, (List.forall_mem_cons.mpr ⟨wd_788, (List.forall_mem_cons.mpr ⟨wd_635, (List.forall_mem_cons.mpr ⟨wd_654, (List.forall_mem_cons.mpr ⟨wd_653, (List.forall_mem_cons.mpr ⟨wd_787, (List.forall_mem_cons.mpr ⟨wd_786, (List.forall_mem_cons.mpr ⟨wd_785, (List.forall_mem_cons.mpr ⟨wd_784, (List.forall_mem_cons.mpr ⟨wd_10, (List.forall_mem_cons.mpr ⟨wd_11, (List.forall_mem_cons.mpr ⟨wd_783, (List.forall_mem_cons.mpr ⟨wd_782, (List.forall_mem_cons.mpr ⟨wd_781, (List.forall_mem_cons.mpr ⟨wd_184, (List.forall_mem_cons.mpr ⟨wd_143, (List.forall_mem_cons.mpr ⟨wd_142, (fun _ h => absurd h List.not_mem_nil)⟩)⟩)⟩)⟩)⟩)⟩)⟩)⟩)⟩)⟩)⟩)⟩)⟩)⟩)⟩)⟩)⟩)⟩)⟩)⟩)⟩)⟩)⟩)⟩)
theorem wd_793 : Cond.instanceMethod yX4_init ∈ lw_tbl := List.mem_append_right _ (List.mem_append_left _ (List.mem_of_getElem? (i := 149) (rfl)))
theorem wd_794 : Cond.methodLink RX8 3 objectInit ∈ lw_tbl := List.mem_append_right _ (List.mem_append_left _ (List.mem_of_getElem? (i := 117) (rfl)))
theorem wd_795 : Cond.code yX8_init cX8_init 1 none ∈ lw_tbl := List.mem_append_right _ (List.mem_append_left _ (List.mem_of_getElem? (i := 116) (rfl)))
theorem wd_796 : Cond.instanceMethod yX8_init ∈ lw_tbl := List.mem_append_right _ (List.mem_append_left _ (List.mem_of_getElem? (i := 115) (rfl)))
set_option maxRecDepth 20000 in
theorem in_wsX9_init_r3 : ∀ w ∈ wsX9_init_r3, w ∈ lw_tbl := by
  unfold wsX9_init_r3
  exact (List.forall_mem_cons.mpr ⟨wd_141, (List.forall_mem_cons.mpr ⟨wd_213, (List.forall_mem_cons.mpr ⟨wd_212, (List.forall_mem_cons.mpr ⟨wd_211, (List.forall_mem_cons.mpr ⟨wd_231, (List.forall_mem_cons.mpr ⟨wd_230, (List.forall_mem_cons.mpr ⟨wd_229, (List.forall_mem_cons.mpr ⟨wd_228, (List.forall_mem_cons.mpr ⟨wd_146, (List.forall_mem_cons.mpr ⟨wd_145, (List.forall_mem_cons.mpr ⟨wd_144, (List.forall_mem_cons.mpr ⟨wd_186, (List.forall_mem_cons.mpr ⟨wd_185, (List.forall_mem_cons.mpr ⟨wd_796, (List.forall_mem_cons.mpr ⟨wd_795, (List.forall_mem_cons.mpr ⟨wd_794, (List.forall_mem_cons.mpr ⟨wd_438, (List.forall_mem_cons.mpr ⟨wd_452, (List.forall_mem_cons.mpr ⟨wd_453, (List.forall_mem_cons.mpr ⟨wd_468, (List.forall_mem_cons.mpr ⟨wd_439, (List.forall_mem_cons.mpr ⟨wd_433, (List.forall_mem_cons.mpr ⟨wd_366, (List.forall_mem_cons.mpr ⟨wd_793, (fun _ h => absurd h List.not_mem_nil)⟩)⟩)⟩)⟩)⟩)⟩)⟩)⟩)⟩)⟩)⟩)⟩)⟩)⟩)⟩)⟩)⟩)⟩)⟩)⟩)⟩)⟩)⟩)⟩)
theorem wd_797 : Cond.methodLink RX7 3 objectInit ∈ lw_tbl := List.mem_append_right _ (List.mem_append_left _ (List.mem_of_getElem? (i := 216) (rfl)))
theorem wd_798 : Cond.code yX7_init cX7_init 1 none ∈ lw_tbl := List.mem_append_right _ (List.mem_append_left _ (List.mem_of_getElem? (i := 215) (rfl)))
theorem wd_799 : Cond.instanceMethod yX7_init ∈ lw_tbl := List.mem_append_right _ (List.mem_append_left _ (List.mem_of_getElem? (i := 214) (rfl)))
theorem wd_800 : Cond.methodLink RX0 3 objectInit ∈ lw_tbl := List.mem_append_right _ (List.mem_append_left _ (List.mem_of_getElem? (i := 191) (rfl)))
theorem wd_801 : Cond.code yX0_init cX0_init 1 none ∈ lw_tbl := List.mem_append_right _ (List.mem_append_left _ (List.mem_of_getElem? (i := 190) (rfl)))
theorem wd_802 : Cond.instanceMethod yX0_init ∈ lw_tbl := List.mem_append_right _ (List.mem_append_left _ (List.mem_of_getElem? (i := 189) (rfl)))
theorem wd_803 : Cond.fieldLink RX4 34 "GrammarTunes$Places" "restOuter" "[I" ∈ lw_tbl := List.mem_append_right _ (List.mem_append_left _ (List.mem_of_getElem? (i := 166) (rfl)))
theorem wd_804 : Cond.fieldLink RX4 31 "GrammarTunes$Places" "restEnd" "[I" ∈ lw_tbl := List.mem_append_right _ (List.mem_append_left _ (List.mem_of_getElem? (i := 164) (rfl)))
theorem wd_805 : Cond.fieldLink RX4 28 "GrammarTunes$Places" "restFrom" "[I" ∈ lw_tbl := List.mem_append_right _ (List.mem_append_left _ (List.mem_of_getElem? (i := 162) (rfl)))
theorem wd_806 : Cond.fieldLink RX4 25 "GrammarTunes$Places" "waiting" "[I" ∈ lw_tbl := List.mem_append_right _ (List.mem_append_left _ (List.mem_of_getElem? (i := 160) (rfl)))
theorem wd_807 : Cond.fieldLink RX4 22 "GrammarTunes$Places" "items" "[I" ∈ lw_tbl := List.mem_append_right _ (List.mem_append_left _ (List.mem_of_getElem? (i := 158) (rfl)))
theorem wd_808 : Cond.fieldLink RX4 18 "GrammarTunes$Places" "tried" "[J" ∈ lw_tbl := List.mem_append_right _ (List.mem_append_left _ (List.mem_of_getElem? (i := 156) (rfl)))
theorem wd_809 : Cond.arrayClass .long ∈ lw_tbl := List.mem_append_right _ (List.mem_append_left _ (List.mem_of_getElem? (i := 185) (rfl)))
theorem wd_810 : Cond.fieldLink RX4 15 "GrammarTunes$Places" "weightLeft" "[I" ∈ lw_tbl := List.mem_append_right _ (List.mem_append_left _ (List.mem_of_getElem? (i := 154) (rfl)))
theorem wd_811 : Cond.fieldLink RX4 11 "GrammarTunes$Places" "letter" "[I" ∈ lw_tbl := List.mem_append_right _ (List.mem_append_left _ (List.mem_of_getElem? (i := 152) (rfl)))
theorem wd_812 : Cond.methodLink RX4 3 objectInit ∈ lw_tbl := List.mem_append_right _ (List.mem_append_left _ (List.mem_of_getElem? (i := 151) (rfl)))
theorem wd_813 : Cond.code yX4_init cX4_init 1 none ∈ lw_tbl := List.mem_append_right _ (List.mem_append_left _ (List.mem_of_getElem? (i := 150) (rfl)))
set_option maxRecDepth 20000 in
theorem in_wsX9_init_r4 : ∀ w ∈ wsX9_init_r4, w ∈ lw_tbl := by
  unfold wsX9_init_r4
  exact (List.forall_mem_cons.mpr ⟨wd_813, (List.forall_mem_cons.mpr ⟨wd_812, (List.forall_mem_cons.mpr ⟨wd_811, (List.forall_mem_cons.mpr ⟨wd_810, (List.forall_mem_cons.mpr ⟨wd_809, (List.forall_mem_cons.mpr ⟨wd_808, (List.forall_mem_cons.mpr ⟨wd_807, (List.forall_mem_cons.mpr ⟨wd_806, (List.forall_mem_cons.mpr ⟨wd_805, (List.forall_mem_cons.mpr ⟨wd_804, (List.forall_mem_cons.mpr ⟨wd_803, (List.forall_mem_cons.mpr ⟨wd_802, (List.forall_mem_cons.mpr ⟨wd_801, (List.forall_mem_cons.mpr ⟨wd_800, (List.forall_mem_cons.mpr ⟨wd_600, (List.forall_mem_cons.mpr ⟨wd_637, (List.forall_mem_cons.mpr ⟨wd_651, (List.forall_mem_cons.mpr ⟨wd_601, (List.forall_mem_cons.mpr ⟨wd_652, (List.forall_mem_cons.mpr ⟨wd_799, (List.forall_mem_cons.mpr ⟨wd_798, (List.forall_mem_cons.mpr ⟨wd_797, (List.forall_mem_cons.mpr ⟨wd_704, (fun _ h => absurd h List.not_mem_nil)⟩)⟩)⟩)⟩)⟩)⟩)⟩)⟩)⟩)⟩)⟩)⟩)⟩)⟩)⟩)⟩)⟩)⟩)⟩)⟩)⟩)⟩)⟩)
set_option maxRecDepth 20000 in
theorem in_wsX9_init : ∀ w ∈ wsX9_init, w ∈ lw_tbl := by
  unfold wsX9_init
  exact (List.forall_mem_cons.mpr ⟨wd_768, (List.forall_mem_append.mpr ⟨(List.forall_mem_append.mpr ⟨(List.forall_mem_append.mpr ⟨(List.forall_mem_append.mpr ⟨(List.forall_mem_append.mpr ⟨(List.forall_mem_append.mpr ⟨(List.forall_mem_append.mpr ⟨(List.forall_mem_append.mpr ⟨in_wsX9_init_r1, (List.forall_mem_append.mpr ⟨in_wsX9_init_r2, (List.forall_mem_append.mpr ⟨in_wsX9_init_r3, in_wsX9_init_r4⟩)⟩)⟩), us_X6⟩), us_X9⟩), us_X2⟩), us_X8⟩), us_X4⟩), us_X0⟩), us_X7⟩)⟩)
theorem wd_814 : Cond.code yX10_init cX10_init 1 none ∈ lw_tbl := List.mem_append_right _ (List.mem_append_right _ (List.mem_append_right _ (List.mem_append_left _ (List.mem_of_getElem? (i := 204) (rfl)))))
theorem wd_815 : Cond.methodLink RX10 1 objectInit ∈ lw_tbl := List.mem_append_right _ (List.mem_append_right _ (List.mem_append_right _ (List.mem_append_left _ (List.mem_of_getElem? (i := 205) (rfl)))))
set_option maxRecDepth 20000 in
theorem in_wsX10_init_r1 : ∀ w ∈ wsX10_init_r1, w ∈ lw_tbl := by
  unfold wsX10_init_r1
  exact (List.forall_mem_cons.mpr ⟨wd_815, (List.forall_mem_cons.mpr ⟨wd_118, (List.forall_mem_cons.mpr ⟨wd_117, (List.forall_mem_cons.mpr ⟨wd_775, (List.forall_mem_cons.mpr ⟨wd_527, (List.forall_mem_cons.mpr ⟨wd_33, (List.forall_mem_cons.mpr ⟨wd_283, (List.forall_mem_cons.mpr ⟨wd_287, (List.forall_mem_cons.mpr ⟨wd_282, (List.forall_mem_cons.mpr ⟨wd_281, (List.forall_mem_cons.mpr ⟨wd_280, (List.forall_mem_cons.mpr ⟨wd_286, (List.forall_mem_cons.mpr ⟨wd_285, (List.forall_mem_cons.mpr ⟨wd_279, (List.forall_mem_cons.mpr ⟨wd_278, (List.forall_mem_cons.mpr ⟨wd_284, (List.forall_mem_cons.mpr ⟨wd_290, (List.forall_mem_cons.mpr ⟨wd_289, (List.forall_mem_cons.mpr ⟨wd_288, (List.forall_mem_cons.mpr ⟨wd_277, (List.forall_mem_cons.mpr ⟨wd_345, (List.forall_mem_cons.mpr ⟨wd_526, (List.forall_mem_cons.mpr ⟨wd_525, (List.forall_mem_cons.mpr ⟨wd_524, (fun _ h => absurd h List.not_mem_nil)⟩)⟩)⟩)⟩)⟩)⟩)⟩)⟩)⟩)⟩)⟩)⟩)⟩)⟩)⟩)⟩)⟩)⟩)⟩)⟩)⟩)⟩)⟩)⟩)
theorem wd_816 : Cond.constant RX10 73 (40000) ∈ lw_tbl := List.mem_append_right _ (List.mem_append_right _ (List.mem_append_right _ (List.mem_append_left _ (List.mem_of_getElem? (i := 206) (rfl)))))
set_option maxRecDepth 20000 in
theorem in_wsX10_init_r2 : ∀ w ∈ wsX10_init_r2, w ∈ lw_tbl := by
  unfold wsX10_init_r2
  exact (List.forall_mem_cons.mpr ⟨wd_564, (List.forall_mem_cons.mpr ⟨wd_816, (List.forall_mem_cons.mpr ⟨wd_511, (List.forall_mem_cons.mpr ⟨wd_510, (List.forall_mem_cons.mpr ⟨wd_541, (List.forall_mem_cons.mpr ⟨wd_540, (List.forall_mem_cons.mpr ⟨wd_539, (List.forall_mem_cons.mpr ⟨wd_538, (List.forall_mem_cons.mpr ⟨wd_537, (List.forall_mem_cons.mpr ⟨wd_536, (List.forall_mem_cons.mpr ⟨wd_535, (List.forall_mem_cons.mpr ⟨wd_534, (List.forall_mem_cons.mpr ⟨wd_533, (List.forall_mem_cons.mpr ⟨wd_809, (List.forall_mem_cons.mpr ⟨wd_532, (List.forall_mem_cons.mpr ⟨wd_617, (List.forall_mem_cons.mpr ⟨wd_664, (List.forall_mem_cons.mpr ⟨wd_716, (fun _ h => absurd h List.not_mem_nil)⟩)⟩)⟩)⟩)⟩)⟩)⟩)⟩)⟩)⟩)⟩)⟩)⟩)⟩)⟩)⟩)⟩)⟩)
set_option maxRecDepth 20000 in
theorem in_wsX10_init : ∀ w ∈ wsX10_init, w ∈ lw_tbl := by
  unfold wsX10_init
  exact (List.forall_mem_cons.mpr ⟨wd_814, (List.forall_mem_append.mpr ⟨(List.forall_mem_append.mpr ⟨in_wsX10_init_r1, in_wsX10_init_r2⟩), us_X10⟩)⟩)
set_option maxRecDepth 20000 in
theorem gL_X9_text : GoodIn lw_tbl (wsV RL 15 RX9 yX9_text wsX9_text) := goodIn_app (goodIn_sub (List.forall_mem_cons.mpr ⟨wd_31, (List.forall_mem_cons.mpr ⟨wd_30, (List.forall_mem_cons.mpr ⟨wd_29, (List.forall_mem_cons.mpr ⟨wd_2, (fun _ h => absurd h List.not_mem_nil)⟩)⟩)⟩)⟩) (by decide +kernel)) (goodIn_sub in_wsX9_text (by decide +kernel))
set_option maxRecDepth 20000 in
theorem gL_X10_text : GoodIn lw_tbl (wsV RL 19 RX10 yX10_text wsX10_text) := goodIn_app (goodIn_sub (List.forall_mem_cons.mpr ⟨wd_91, (List.forall_mem_cons.mpr ⟨wd_90, (List.forall_mem_cons.mpr ⟨wd_89, (List.forall_mem_cons.mpr ⟨wd_88, (fun _ h => absurd h List.not_mem_nil)⟩)⟩)⟩)⟩) (by decide +kernel)) (goodIn_sub in_wsX10_text (by decide +kernel))
set_option maxRecDepth 20000 in
theorem gL_X9_cut : GoodIn lw_tbl (wsV RL 20 RX9 yX9_cut wsX9_cut) := goodIn_app (goodIn_sub (List.forall_mem_cons.mpr ⟨wd_99, (List.forall_mem_cons.mpr ⟨wd_98, (List.forall_mem_cons.mpr ⟨wd_97, (List.forall_mem_cons.mpr ⟨wd_2, (fun _ h => absurd h List.not_mem_nil)⟩)⟩)⟩)⟩) (by decide +kernel)) (goodIn_sub in_wsX9_cut (by decide +kernel))
set_option maxRecDepth 20000 in
theorem gL_X10_cut : GoodIn lw_tbl (wsV RL 24 RX10 yX10_cut wsX10_cut) := goodIn_app (goodIn_sub (List.forall_mem_cons.mpr ⟨wd_103, (List.forall_mem_cons.mpr ⟨wd_102, (List.forall_mem_cons.mpr ⟨wd_101, (List.forall_mem_cons.mpr ⟨wd_88, (fun _ h => absurd h List.not_mem_nil)⟩)⟩)⟩)⟩) (by decide +kernel)) (goodIn_sub in_wsX10_cut (by decide +kernel))
set_option maxRecDepth 20000 in
theorem gL_X9_read : GoodIn lw_tbl (wsV RL 25 RX9 yX9_read wsX9_read) := goodIn_app (goodIn_sub (List.forall_mem_cons.mpr ⟨wd_268, (List.forall_mem_cons.mpr ⟨wd_267, (List.forall_mem_cons.mpr ⟨wd_266, (List.forall_mem_cons.mpr ⟨wd_2, (fun _ h => absurd h List.not_mem_nil)⟩)⟩)⟩)⟩) (by decide +kernel)) (goodIn_sub in_wsX9_read (by decide +kernel))
set_option maxRecDepth 20000 in
theorem gL_X10_read : GoodIn lw_tbl (wsV RL 29 RX10 yX10_read wsX10_read) := goodIn_app (goodIn_sub (List.forall_mem_cons.mpr ⟨wd_326, (List.forall_mem_cons.mpr ⟨wd_325, (List.forall_mem_cons.mpr ⟨wd_324, (List.forall_mem_cons.mpr ⟨wd_88, (fun _ h => absurd h List.not_mem_nil)⟩)⟩)⟩)⟩) (by decide +kernel)) (goodIn_sub in_wsX10_read (by decide +kernel))
set_option maxRecDepth 20000 in
theorem gL_X9_rule : GoodIn lw_tbl (wsV RL 30 RX9 yX9_rule wsX9_rule) := goodIn_app (goodIn_sub (List.forall_mem_cons.mpr ⟨wd_332, (List.forall_mem_cons.mpr ⟨wd_331, (List.forall_mem_cons.mpr ⟨wd_330, (List.forall_mem_cons.mpr ⟨wd_2, (fun _ h => absurd h List.not_mem_nil)⟩)⟩)⟩)⟩) (by decide +kernel)) (goodIn_sub in_wsX9_rule (by decide +kernel))
set_option maxRecDepth 20000 in
theorem gL_X10_rule : GoodIn lw_tbl (wsV RL 34 RX10 yX10_rule wsX10_rule) := goodIn_app (goodIn_sub (List.forall_mem_cons.mpr ⟨wd_336, (List.forall_mem_cons.mpr ⟨wd_335, (List.forall_mem_cons.mpr ⟨wd_334, (List.forall_mem_cons.mpr ⟨wd_88, (fun _ h => absurd h List.not_mem_nil)⟩)⟩)⟩)⟩) (by decide +kernel)) (goodIn_sub in_wsX10_rule (by decide +kernel))
set_option maxRecDepth 20000 in
theorem gL_X9_want : GoodIn lw_tbl (wsV RL 35 RX9 yX9_want wsX9_want) := goodIn_app (goodIn_sub (List.forall_mem_cons.mpr ⟨wd_343, (List.forall_mem_cons.mpr ⟨wd_342, (List.forall_mem_cons.mpr ⟨wd_341, (List.forall_mem_cons.mpr ⟨wd_2, (fun _ h => absurd h List.not_mem_nil)⟩)⟩)⟩)⟩) (by decide +kernel)) (goodIn_sub in_wsX9_want (by decide +kernel))
set_option maxRecDepth 20000 in
theorem gL_X10_want : GoodIn lw_tbl (wsV RL 38 RX10 yX10_want wsX10_want) := goodIn_app (goodIn_sub (List.forall_mem_cons.mpr ⟨wd_348, (List.forall_mem_cons.mpr ⟨wd_347, (List.forall_mem_cons.mpr ⟨wd_346, (List.forall_mem_cons.mpr ⟨wd_88, (fun _ h => absurd h List.not_mem_nil)⟩)⟩)⟩)⟩) (by decide +kernel)) (goodIn_sub in_wsX10_want (by decide +kernel))
set_option maxRecDepth 20000 in
theorem gL_X9_make : GoodIn lw_tbl (wsV RL 39 RX9 yX9_make wsX9_make) := goodIn_app (goodIn_sub (List.forall_mem_cons.mpr ⟨wd_504, (List.forall_mem_cons.mpr ⟨wd_503, (List.forall_mem_cons.mpr ⟨wd_502, (List.forall_mem_cons.mpr ⟨wd_2, (fun _ h => absurd h List.not_mem_nil)⟩)⟩)⟩)⟩) (by decide +kernel)) (goodIn_sub in_wsX9_make (by decide +kernel))
set_option maxRecDepth 20000 in
theorem gL_X10_make : GoodIn lw_tbl (wsV RL 43 RX10 yX10_make wsX10_make) := goodIn_app (goodIn_sub (List.forall_mem_cons.mpr ⟨wd_573, (List.forall_mem_cons.mpr ⟨wd_572, (List.forall_mem_cons.mpr ⟨wd_571, (List.forall_mem_cons.mpr ⟨wd_88, (fun _ h => absurd h List.not_mem_nil)⟩)⟩)⟩)⟩) (by decide +kernel)) (goodIn_sub in_wsX10_make (by decide +kernel))
set_option maxRecDepth 20000 in
theorem gL_X9_tries : GoodIn lw_tbl (wsV RL 44 RX9 yX9_tries wsX9_tries) := goodIn_app (goodIn_sub (List.forall_mem_cons.mpr ⟨wd_577, (List.forall_mem_cons.mpr ⟨wd_576, (List.forall_mem_cons.mpr ⟨wd_575, (List.forall_mem_cons.mpr ⟨wd_2, (fun _ h => absurd h List.not_mem_nil)⟩)⟩)⟩)⟩) (by decide +kernel)) (goodIn_sub in_wsX9_tries (by decide +kernel))
set_option maxRecDepth 20000 in
theorem gL_X10_tries : GoodIn lw_tbl (wsV RL 47 RX10 yX10_tries wsX10_tries) := goodIn_app (goodIn_sub (List.forall_mem_cons.mpr ⟨wd_581, (List.forall_mem_cons.mpr ⟨wd_580, (List.forall_mem_cons.mpr ⟨wd_579, (List.forall_mem_cons.mpr ⟨wd_88, (fun _ h => absurd h List.not_mem_nil)⟩)⟩)⟩)⟩) (by decide +kernel)) (goodIn_sub in_wsX10_tries (by decide +kernel))
set_option maxRecDepth 20000 in
theorem gL_X9_item : GoodIn lw_tbl (wsV RL 48 RX9 yX9_item wsX9_item) := goodIn_app (goodIn_sub (List.forall_mem_cons.mpr ⟨wd_585, (List.forall_mem_cons.mpr ⟨wd_584, (List.forall_mem_cons.mpr ⟨wd_583, (List.forall_mem_cons.mpr ⟨wd_2, (fun _ h => absurd h List.not_mem_nil)⟩)⟩)⟩)⟩) (by decide +kernel)) (goodIn_sub in_wsX9_item (by decide +kernel))
set_option maxRecDepth 20000 in
theorem gL_X10_item : GoodIn lw_tbl (wsV RL 51 RX10 yX10_item wsX10_item) := goodIn_app (goodIn_sub (List.forall_mem_cons.mpr ⟨wd_589, (List.forall_mem_cons.mpr ⟨wd_588, (List.forall_mem_cons.mpr ⟨wd_587, (List.forall_mem_cons.mpr ⟨wd_88, (fun _ h => absurd h List.not_mem_nil)⟩)⟩)⟩)⟩) (by decide +kernel)) (goodIn_sub in_wsX10_item (by decide +kernel))
set_option maxRecDepth 20000 in
theorem gL_X9_below : GoodIn lw_tbl (wsV RL 52 RX9 yX9_below wsX9_below) := goodIn_app (goodIn_sub (List.forall_mem_cons.mpr ⟨wd_594, (List.forall_mem_cons.mpr ⟨wd_593, (List.forall_mem_cons.mpr ⟨wd_592, (List.forall_mem_cons.mpr ⟨wd_2, (fun _ h => absurd h List.not_mem_nil)⟩)⟩)⟩)⟩) (by decide +kernel)) (goodIn_sub in_wsX9_below (by decide +kernel))
set_option maxRecDepth 20000 in
theorem gL_X10_below : GoodIn lw_tbl (wsV RL 56 RX10 yX10_below wsX10_below) := goodIn_app (goodIn_sub (List.forall_mem_cons.mpr ⟨wd_598, (List.forall_mem_cons.mpr ⟨wd_597, (List.forall_mem_cons.mpr ⟨wd_596, (List.forall_mem_cons.mpr ⟨wd_88, (fun _ h => absurd h List.not_mem_nil)⟩)⟩)⟩)⟩) (by decide +kernel)) (goodIn_sub in_wsX10_below (by decide +kernel))
set_option maxRecDepth 20000 in
theorem gL_X9_corpus : GoodIn lw_tbl (wsV RL 57 RX9 yX9_corpus wsX9_corpus) := goodIn_app (goodIn_sub (List.forall_mem_cons.mpr ⟨wd_615, (List.forall_mem_cons.mpr ⟨wd_614, (List.forall_mem_cons.mpr ⟨wd_613, (List.forall_mem_cons.mpr ⟨wd_2, (fun _ h => absurd h List.not_mem_nil)⟩)⟩)⟩)⟩) (by decide +kernel)) (goodIn_sub in_wsX9_corpus (by decide +kernel))
set_option maxRecDepth 20000 in
theorem gL_X10_corpus : GoodIn lw_tbl (wsV RL 60 RX10 yX10_corpus wsX10_corpus) := goodIn_app (goodIn_sub (List.forall_mem_cons.mpr ⟨wd_621, (List.forall_mem_cons.mpr ⟨wd_620, (List.forall_mem_cons.mpr ⟨wd_619, (List.forall_mem_cons.mpr ⟨wd_88, (fun _ h => absurd h List.not_mem_nil)⟩)⟩)⟩)⟩) (by decide +kernel)) (goodIn_sub in_wsX10_corpus (by decide +kernel))
set_option maxRecDepth 20000 in
theorem gL_X9_forget : GoodIn lw_tbl (wsV RL 61 RX9 yX9_forget wsX9_forget) := goodIn_app (goodIn_sub (List.forall_mem_cons.mpr ⟨wd_629, (List.forall_mem_cons.mpr ⟨wd_628, (List.forall_mem_cons.mpr ⟨wd_627, (List.forall_mem_cons.mpr ⟨wd_2, (fun _ h => absurd h List.not_mem_nil)⟩)⟩)⟩)⟩) (by decide +kernel)) (goodIn_sub in_wsX9_forget (by decide +kernel))
set_option maxRecDepth 20000 in
theorem gL_X10_forget : GoodIn lw_tbl (wsV RL 64 RX10 yX10_forget wsX10_forget) := goodIn_app (goodIn_sub (List.forall_mem_cons.mpr ⟨wd_633, (List.forall_mem_cons.mpr ⟨wd_632, (List.forall_mem_cons.mpr ⟨wd_631, (List.forall_mem_cons.mpr ⟨wd_88, (fun _ h => absurd h List.not_mem_nil)⟩)⟩)⟩)⟩) (by decide +kernel)) (goodIn_sub in_wsX10_forget (by decide +kernel))
set_option maxRecDepth 20000 in
theorem gL_X9_walk : GoodIn lw_tbl (wsV RL 65 RX9 yX9_walk wsX9_walk) := goodIn_app (goodIn_sub (List.forall_mem_cons.mpr ⟨wd_657, (List.forall_mem_cons.mpr ⟨wd_656, (List.forall_mem_cons.mpr ⟨wd_655, (List.forall_mem_cons.mpr ⟨wd_2, (fun _ h => absurd h List.not_mem_nil)⟩)⟩)⟩)⟩) (by decide +kernel)) (goodIn_sub in_wsX9_walk (by decide +kernel))
set_option maxRecDepth 20000 in
theorem gL_X10_walk : GoodIn lw_tbl (wsV RL 69 RX10 yX10_walk wsX10_walk) := goodIn_app (goodIn_sub (List.forall_mem_cons.mpr ⟨wd_667, (List.forall_mem_cons.mpr ⟨wd_666, (List.forall_mem_cons.mpr ⟨wd_665, (List.forall_mem_cons.mpr ⟨wd_88, (fun _ h => absurd h List.not_mem_nil)⟩)⟩)⟩)⟩) (by decide +kernel)) (goodIn_sub in_wsX10_walk (by decide +kernel))
set_option maxRecDepth 20000 in
theorem gL_X9_step : GoodIn lw_tbl (wsV RL 70 RX9 yX9_step wsX9_step) := goodIn_app (goodIn_sub (List.forall_mem_cons.mpr ⟨wd_671, (List.forall_mem_cons.mpr ⟨wd_670, (List.forall_mem_cons.mpr ⟨wd_669, (List.forall_mem_cons.mpr ⟨wd_2, (fun _ h => absurd h List.not_mem_nil)⟩)⟩)⟩)⟩) (by decide +kernel)) (goodIn_sub in_wsX9_step (by decide +kernel))
set_option maxRecDepth 20000 in
theorem gL_X10_step : GoodIn lw_tbl (wsV RL 73 RX10 yX10_step wsX10_step) := goodIn_app (goodIn_sub (List.forall_mem_cons.mpr ⟨wd_675, (List.forall_mem_cons.mpr ⟨wd_674, (List.forall_mem_cons.mpr ⟨wd_673, (List.forall_mem_cons.mpr ⟨wd_88, (fun _ h => absurd h List.not_mem_nil)⟩)⟩)⟩)⟩) (by decide +kernel)) (goodIn_sub in_wsX10_step (by decide +kernel))
set_option maxRecDepth 20000 in
theorem gL_X9_steps : GoodIn lw_tbl (wsV RL 74 RX9 yX9_steps wsX9_steps) := goodIn_app (goodIn_sub (List.forall_mem_cons.mpr ⟨wd_679, (List.forall_mem_cons.mpr ⟨wd_678, (List.forall_mem_cons.mpr ⟨wd_677, (List.forall_mem_cons.mpr ⟨wd_2, (fun _ h => absurd h List.not_mem_nil)⟩)⟩)⟩)⟩) (by decide +kernel)) (goodIn_sub in_wsX9_steps (by decide +kernel))
set_option maxRecDepth 20000 in
theorem gL_X10_steps : GoodIn lw_tbl (wsV RL 77 RX10 yX10_steps wsX10_steps) := goodIn_app (goodIn_sub (List.forall_mem_cons.mpr ⟨wd_683, (List.forall_mem_cons.mpr ⟨wd_682, (List.forall_mem_cons.mpr ⟨wd_681, (List.forall_mem_cons.mpr ⟨wd_88, (fun _ h => absurd h List.not_mem_nil)⟩)⟩)⟩)⟩) (by decide +kernel)) (goodIn_sub in_wsX10_steps (by decide +kernel))
set_option maxRecDepth 20000 in
theorem gL_X9_stroke : GoodIn lw_tbl (wsV RL 78 RX9 yX9_stroke wsX9_stroke) := goodIn_app (goodIn_sub (List.forall_mem_cons.mpr ⟨wd_688, (List.forall_mem_cons.mpr ⟨wd_687, (List.forall_mem_cons.mpr ⟨wd_686, (List.forall_mem_cons.mpr ⟨wd_2, (fun _ h => absurd h List.not_mem_nil)⟩)⟩)⟩)⟩) (by decide +kernel)) (goodIn_sub in_wsX9_stroke (by decide +kernel))
set_option maxRecDepth 20000 in
theorem gL_X10_stroke : GoodIn lw_tbl (wsV RL 82 RX10 yX10_stroke wsX10_stroke) := goodIn_app (goodIn_sub (List.forall_mem_cons.mpr ⟨wd_693, (List.forall_mem_cons.mpr ⟨wd_692, (List.forall_mem_cons.mpr ⟨wd_691, (List.forall_mem_cons.mpr ⟨wd_88, (fun _ h => absurd h List.not_mem_nil)⟩)⟩)⟩)⟩) (by decide +kernel)) (goodIn_sub in_wsX10_stroke (by decide +kernel))
set_option maxRecDepth 20000 in
theorem gL_X9_turned : GoodIn lw_tbl (wsV RL 83 RX9 yX9_turned wsX9_turned) := goodIn_app (goodIn_sub (List.forall_mem_cons.mpr ⟨wd_698, (List.forall_mem_cons.mpr ⟨wd_697, (List.forall_mem_cons.mpr ⟨wd_696, (List.forall_mem_cons.mpr ⟨wd_2, (fun _ h => absurd h List.not_mem_nil)⟩)⟩)⟩)⟩) (by decide +kernel)) (goodIn_sub in_wsX9_turned (by decide +kernel))
set_option maxRecDepth 20000 in
theorem gL_X10_turned : GoodIn lw_tbl (wsV RL 87 RX10 yX10_turned wsX10_turned) := goodIn_app (goodIn_sub (List.forall_mem_cons.mpr ⟨wd_702, (List.forall_mem_cons.mpr ⟨wd_701, (List.forall_mem_cons.mpr ⟨wd_700, (List.forall_mem_cons.mpr ⟨wd_88, (fun _ h => absurd h List.not_mem_nil)⟩)⟩)⟩)⟩) (by decide +kernel)) (goodIn_sub in_wsX10_turned (by decide +kernel))
set_option maxRecDepth 20000 in
theorem gL_X9_place : GoodIn lw_tbl (wsV RL 88 RX9 yX9_place wsX9_place) := goodIn_app (goodIn_sub (List.forall_mem_cons.mpr ⟨wd_714, (List.forall_mem_cons.mpr ⟨wd_713, (List.forall_mem_cons.mpr ⟨wd_712, (List.forall_mem_cons.mpr ⟨wd_2, (fun _ h => absurd h List.not_mem_nil)⟩)⟩)⟩)⟩) (by decide +kernel)) (goodIn_sub in_wsX9_place (by decide +kernel))
set_option maxRecDepth 20000 in
theorem gL_X10_place : GoodIn lw_tbl (wsV RL 91 RX10 yX10_place wsX10_place) := goodIn_app (goodIn_sub (List.forall_mem_cons.mpr ⟨wd_719, (List.forall_mem_cons.mpr ⟨wd_718, (List.forall_mem_cons.mpr ⟨wd_717, (List.forall_mem_cons.mpr ⟨wd_88, (fun _ h => absurd h List.not_mem_nil)⟩)⟩)⟩)⟩) (by decide +kernel)) (goodIn_sub in_wsX10_place (by decide +kernel))
set_option maxRecDepth 20000 in
theorem gL_X9_form : GoodIn lw_tbl (wsV RL 92 RX9 yX9_form wsX9_form) := goodIn_app (goodIn_sub (List.forall_mem_cons.mpr ⟨wd_730, (List.forall_mem_cons.mpr ⟨wd_729, (List.forall_mem_cons.mpr ⟨wd_728, (List.forall_mem_cons.mpr ⟨wd_2, (fun _ h => absurd h List.not_mem_nil)⟩)⟩)⟩)⟩) (by decide +kernel)) (goodIn_sub in_wsX9_form (by decide +kernel))
set_option maxRecDepth 20000 in
theorem gL_X10_form : GoodIn lw_tbl (wsV RL 96 RX10 yX10_form wsX10_form) := goodIn_app (goodIn_sub (List.forall_mem_cons.mpr ⟨wd_738, (List.forall_mem_cons.mpr ⟨wd_737, (List.forall_mem_cons.mpr ⟨wd_736, (List.forall_mem_cons.mpr ⟨wd_88, (fun _ h => absurd h List.not_mem_nil)⟩)⟩)⟩)⟩) (by decide +kernel)) (goodIn_sub in_wsX10_form (by decide +kernel))
set_option maxRecDepth 20000 in
theorem gL_X9_doubled : GoodIn lw_tbl (wsV RL 97 RX9 yX9_doubled wsX9_doubled) := goodIn_app (goodIn_sub (List.forall_mem_cons.mpr ⟨wd_755, (List.forall_mem_cons.mpr ⟨wd_754, (List.forall_mem_cons.mpr ⟨wd_753, (List.forall_mem_cons.mpr ⟨wd_2, (fun _ h => absurd h List.not_mem_nil)⟩)⟩)⟩)⟩) (by decide +kernel)) (goodIn_sub in_wsX9_doubled (by decide +kernel))
set_option maxRecDepth 20000 in
theorem gL_X10_doubled : GoodIn lw_tbl (wsV RL 100 RX10 yX10_doubled wsX10_doubled) := goodIn_app (goodIn_sub (List.forall_mem_cons.mpr ⟨wd_759, (List.forall_mem_cons.mpr ⟨wd_758, (List.forall_mem_cons.mpr ⟨wd_757, (List.forall_mem_cons.mpr ⟨wd_88, (fun _ h => absurd h List.not_mem_nil)⟩)⟩)⟩)⟩) (by decide +kernel)) (goodIn_sub in_wsX10_doubled (by decide +kernel))
set_option maxRecDepth 20000 in
theorem gL_X9_told : GoodIn lw_tbl (wsV RL 101 RX9 yX9_told wsX9_told) := goodIn_app (goodIn_sub (List.forall_mem_cons.mpr ⟨wd_763, (List.forall_mem_cons.mpr ⟨wd_762, (List.forall_mem_cons.mpr ⟨wd_761, (List.forall_mem_cons.mpr ⟨wd_2, (fun _ h => absurd h List.not_mem_nil)⟩)⟩)⟩)⟩) (by decide +kernel)) (goodIn_sub in_wsX9_told (by decide +kernel))
set_option maxRecDepth 20000 in
theorem gL_X10_told : GoodIn lw_tbl (wsV RL 104 RX10 yX10_told wsX10_told) := goodIn_app (goodIn_sub (List.forall_mem_cons.mpr ⟨wd_767, (List.forall_mem_cons.mpr ⟨wd_766, (List.forall_mem_cons.mpr ⟨wd_765, (List.forall_mem_cons.mpr ⟨wd_88, (fun _ h => absurd h List.not_mem_nil)⟩)⟩)⟩)⟩) (by decide +kernel)) (goodIn_sub in_wsX10_told (by decide +kernel))
set_option maxRecDepth 20000 in
theorem gL_X9_init : GoodIn lw_tbl wsX9_init := goodIn_sub in_wsX9_init (by decide +kernel)
set_option maxRecDepth 20000 in
theorem gL_X10_init : GoodIn lw_tbl wsX10_init := goodIn_sub in_wsX10_init (by decide +kernel)
