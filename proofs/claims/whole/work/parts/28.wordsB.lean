theorem wd_817 : Cond.instantiable RX9 9 ∈ lw_tbl := List.mem_append_right _ (List.mem_append_left _ (List.mem_of_getElem? (i := 16) (rfl)))
theorem wd_818 : Cond.instantiable RX10 53 ∈ lw_tbl := List.mem_append_right _ (List.mem_append_right _ (List.mem_append_right _ (List.mem_append_left _ (List.mem_of_getElem? (i := 201) (rfl)))))
theorem wd_819 : Cond.classLink RL 7 RX9 ∈ lw_tbl := List.mem_append_right _ (List.mem_append_left _ (List.mem_of_getElem? (i := 15) (rfl)))
theorem wd_820 : Cond.classLink RL 10 RX10 ∈ lw_tbl := List.mem_append_right _ (List.mem_append_right _ (List.mem_append_right _ (List.mem_append_left _ (List.mem_of_getElem? (i := 200) (rfl)))))
theorem wd_821 : Cond.methodLink RL 9 yX9_init ∈ lw_tbl := List.mem_append_right _ (List.mem_append_left _ (List.mem_of_getElem? (i := 17) (rfl)))
theorem wd_822 : Cond.methodLink RL 12 yX10_init ∈ lw_tbl := List.mem_append_right _ (List.mem_append_right _ (List.mem_append_right _ (List.mem_append_left _ (List.mem_of_getElem? (i := 202) (rfl)))))
theorem wd_823 : Cond.instanceMethod yX9_init ∈ lw_tbl := List.mem_append_right _ (List.mem_append_left _ (List.mem_of_getElem? (i := 18) (rfl)))
theorem wd_824 : Cond.instanceMethod yX10_init ∈ lw_tbl := List.mem_append_right _ (List.mem_append_right _ (List.mem_append_right _ (List.mem_append_left _ (List.mem_of_getElem? (i := 203) (rfl)))))
theorem wd_825 : Cond.laysStatic RX9 "WANTED_AT_FIRST" "[I" ∈ lw_tbl := List.mem_append_right _ (List.mem_append_left _ (List.mem_of_getElem? (i := 222) (rfl)))
theorem wd_826 : Cond.laysStatic RX9 "WANTED_LEAST" "[I" ∈ lw_tbl := List.mem_append_right _ (List.mem_append_right _ (List.mem_append_left _ (List.mem_of_getElem? (i := 186) (rfl))))
theorem wd_827 : Cond.laysStatic RX9 "WANTED_GREATEST" "[I" ∈ lw_tbl := List.mem_append_right _ (List.mem_append_right _ (List.mem_append_left _ (List.mem_of_getElem? (i := 188) (rfl))))
theorem wd_828 : Cond.laysStatic RX8 "PITCH_OF_DEGREE" "[I" ∈ lw_tbl := List.mem_append_right _ (List.mem_append_right _ (List.mem_append_right _ (List.mem_append_left _ (List.mem_of_getElem? (i := 58) (rfl)))))
theorem wd_829 : Cond.methodLinkNest "GrammarTunes$Maker" 168 ⟨"GrammarTunes", "isWithin", "(III)Z"⟩ "GrammarTunes" ∈ lw_tbl := List.mem_append_right _ (List.mem_append_right _ (List.mem_append_right _ (List.mem_append_left _ (List.mem_of_getElem? (i := 67) (rfl)))))
theorem wd_830 : Cond.methodLinkNest "GrammarTunes$Tune" 34 ⟨"GrammarTunes", "isWithin", "(III)Z"⟩ "GrammarTunes" ∈ lw_tbl := List.mem_append_right _ (List.mem_append_right _ (List.mem_append_right _ (List.mem_append_left _ (List.mem_of_getElem? (i := 15) (rfl)))))
theorem wd_831 : Cond.methodLinkNest "GrammarTunes$Reader" 102 ⟨"GrammarTunes", "isDegree", "(I)Z"⟩ "GrammarTunes" ∈ lw_tbl := List.mem_append_right _ (List.mem_append_right _ (List.mem_append_left _ (List.mem_of_getElem? (i := 160) (rfl))))
theorem wd_832 : Cond.methodLinkNest "GrammarTunes$Reader" 93 ⟨"GrammarTunes", "isLetter", "(I)Z"⟩ "GrammarTunes" ∈ lw_tbl := List.mem_append_right _ (List.mem_append_right _ (List.mem_append_left _ (List.mem_of_getElem? (i := 140) (rfl))))
theorem wd_833 : Cond.methodLinkNest "GrammarTunes$Reader" 75 ⟨"GrammarTunes", "isDigit", "(I)Z"⟩ "GrammarTunes" ∈ lw_tbl := List.mem_append_right _ (List.mem_append_right _ (List.mem_append_left _ (List.mem_of_getElem? (i := 121) (rfl))))
theorem wd_834 : Cond.methodLinkNest "GrammarTunes$Grammar" 67 ⟨"GrammarTunes", "isWithin", "(III)Z"⟩ "GrammarTunes" ∈ lw_tbl := List.mem_append_right _ (List.mem_append_right _ (List.mem_append_left _ (List.mem_of_getElem? (i := 96) (rfl))))
theorem wd_835 : Cond.methodLinkNest "GrammarTunes$Script" 35 ⟨"GrammarTunes", "isBlank", "(I)Z"⟩ "GrammarTunes" ∈ lw_tbl := List.mem_append_right _ (List.mem_append_right _ (List.mem_append_left _ (List.mem_of_getElem? (i := 81) (rfl))))
theorem wd_836 : Cond.methodLinkNest "GrammarTunes$Script" 27 ⟨"GrammarTunes", "isWithin", "(III)Z"⟩ "GrammarTunes" ∈ lw_tbl := List.mem_append_right _ (List.mem_append_right _ (List.mem_append_left _ (List.mem_of_getElem? (i := 28) (rfl))))
theorem wd_837 : Cond.methodLinkNest "GrammarTunes" 57 ⟨"GrammarTunes$ToneRow", "<init>", "()V"⟩ "GrammarTunes" ∈ lw_tbl := List.mem_append_right _ (List.mem_append_left _ (List.mem_of_getElem? (i := 213) (rfl)))
theorem wd_838 : Cond.methodLinkNest "GrammarTunes" 50 ⟨"GrammarTunes$Chain", "<init>", "()V"⟩ "GrammarTunes" ∈ lw_tbl := List.mem_append_right _ (List.mem_append_left _ (List.mem_of_getElem? (i := 188) (rfl)))
theorem wd_839 : Cond.methodLinkNest "GrammarTunes" 39 ⟨"GrammarTunes$Places", "<init>", "()V"⟩ "GrammarTunes" ∈ lw_tbl := List.mem_append_right _ (List.mem_append_left _ (List.mem_of_getElem? (i := 148) (rfl)))
theorem wd_840 : Cond.methodLinkNest "GrammarTunes" 32 ⟨"GrammarTunes$Tune", "<init>", "()V"⟩ "GrammarTunes" ∈ lw_tbl := List.mem_append_right _ (List.mem_append_left _ (List.mem_of_getElem? (i := 114) (rfl)))
theorem wd_841 : Cond.methodLinkNest "GrammarTunes" 18 ⟨"GrammarTunes$Grammar", "<init>", "()V"⟩ "GrammarTunes" ∈ lw_tbl := List.mem_append_right _ (List.mem_append_left _ (List.mem_of_getElem? (i := 42) (rfl)))
theorem wd_842 : Cond.methodLinkNest "GrammarTunes" 11 ⟨"GrammarTunes$Script", "<init>", "()V"⟩ "GrammarTunes" ∈ lw_tbl := List.mem_append_right _ (List.mem_append_left _ (List.mem_of_getElem? (i := 25) (rfl)))
theorem wd_843 : Cond.fieldLinkNest "GrammarTunes" 124 "GrammarTunes$Maker" "tries" "I" "GrammarTunes" ∈ lw_tbl := List.mem_append_right _ (List.mem_append_right _ (List.mem_append_left _ (List.mem_of_getElem? (i := 216) (rfl))))
theorem wd_844 : Cond.fieldLinkNest "GrammarTunes" 159 "GrammarTunes$Chain" "walked" "I" "GrammarTunes" ∈ lw_tbl := List.mem_append_right _ (List.mem_append_left _ (List.mem_of_getElem? (i := 199) (rfl)))
theorem wd_845 : Cond.fieldLinkNest "GrammarTunes" 154 "GrammarTunes$Chain" "count" "I" "GrammarTunes" ∈ lw_tbl := List.mem_append_right _ (List.mem_append_left _ (List.mem_of_getElem? (i := 197) (rfl)))
theorem wd_846 : Cond.fieldLinkNest "GrammarTunes" 162 "GrammarTunes$Chain" "path" "[I" "GrammarTunes" ∈ lw_tbl := List.mem_append_right _ (List.mem_append_left _ (List.mem_of_getElem? (i := 194) (rfl)))
theorem wd_847 : Cond.fieldLinkNest "GrammarTunes$Maker" 107 "GrammarTunes$Places" "restOuter" "[I" "GrammarTunes" ∈ lw_tbl := List.mem_append_right _ (List.mem_append_left _ (List.mem_of_getElem? (i := 167) (rfl)))
theorem wd_848 : Cond.fieldLinkNest "GrammarTunes$Maker" 104 "GrammarTunes$Places" "restEnd" "[I" "GrammarTunes" ∈ lw_tbl := List.mem_append_right _ (List.mem_append_left _ (List.mem_of_getElem? (i := 165) (rfl)))
theorem wd_849 : Cond.fieldLinkNest "GrammarTunes$Maker" 101 "GrammarTunes$Places" "restFrom" "[I" "GrammarTunes" ∈ lw_tbl := List.mem_append_right _ (List.mem_append_left _ (List.mem_of_getElem? (i := 163) (rfl)))
theorem wd_850 : Cond.fieldLinkNest "GrammarTunes$Maker" 99 "GrammarTunes$Places" "waiting" "[I" "GrammarTunes" ∈ lw_tbl := List.mem_append_right _ (List.mem_append_left _ (List.mem_of_getElem? (i := 161) (rfl)))
theorem wd_851 : Cond.fieldLinkNest "GrammarTunes$Maker" 96 "GrammarTunes$Places" "items" "[I" "GrammarTunes" ∈ lw_tbl := List.mem_append_right _ (List.mem_append_left _ (List.mem_of_getElem? (i := 159) (rfl)))
theorem wd_852 : Cond.fieldLinkNest "GrammarTunes$Maker" 92 "GrammarTunes$Places" "tried" "[J" "GrammarTunes" ∈ lw_tbl := List.mem_append_right _ (List.mem_append_left _ (List.mem_of_getElem? (i := 157) (rfl)))
theorem wd_853 : Cond.fieldLinkNest "GrammarTunes$Maker" 67 "GrammarTunes$Places" "weightLeft" "[I" "GrammarTunes" ∈ lw_tbl := List.mem_append_right _ (List.mem_append_left _ (List.mem_of_getElem? (i := 155) (rfl)))
theorem wd_854 : Cond.fieldLinkNest "GrammarTunes$Maker" 86 "GrammarTunes$Places" "letter" "[I" "GrammarTunes" ∈ lw_tbl := List.mem_append_right _ (List.mem_append_left _ (List.mem_of_getElem? (i := 153) (rfl)))
theorem wd_855 : Cond.fieldLinkNest "GrammarTunes" 130 "GrammarTunes$Tune" "count" "I" "GrammarTunes" ∈ lw_tbl := List.mem_append_right _ (List.mem_append_left _ (List.mem_of_getElem? (i := 130) (rfl)))
theorem wd_856 : Cond.fieldLinkNest "GrammarTunes$Maker" 79 "GrammarTunes$Tune" "count" "I" "GrammarTunes" ∈ lw_tbl := List.mem_append_right _ (List.mem_append_left _ (List.mem_of_getElem? (i := 129) (rfl)))
theorem wd_857 : Cond.fieldLinkNest "GrammarTunes" 142 "GrammarTunes$Tune" "degree" "[I" "GrammarTunes" ∈ lw_tbl := List.mem_append_right _ (List.mem_append_left _ (List.mem_of_getElem? (i := 125) (rfl)))
theorem wd_858 : Cond.fieldLinkNest "GrammarTunes" 139 "GrammarTunes$Tune" "begin" "[I" "GrammarTunes" ∈ lw_tbl := List.mem_append_right _ (List.mem_append_left _ (List.mem_of_getElem? (i := 123) (rfl)))
theorem wd_859 : Cond.fieldLinkNest "GrammarTunes" 136 "GrammarTunes$Tune" "length" "[I" "GrammarTunes" ∈ lw_tbl := List.mem_append_right _ (List.mem_append_left _ (List.mem_of_getElem? (i := 121) (rfl)))
theorem wd_860 : Cond.fieldLinkNest "GrammarTunes" 133 "GrammarTunes$Tune" "pitch" "[I" "GrammarTunes" ∈ lw_tbl := List.mem_append_right _ (List.mem_append_left _ (List.mem_of_getElem? (i := 119) (rfl)))
theorem wd_861 : Cond.fieldLinkNest "GrammarTunes$Maker" 59 "GrammarTunes$Grammar" "startLetter" "I" "GrammarTunes" ∈ lw_tbl := List.mem_append_right _ (List.mem_append_left _ (List.mem_of_getElem? (i := 76) (rfl)))
theorem wd_862 : Cond.fieldLinkNest "GrammarTunes" 184 "GrammarTunes$Grammar" "signs" "I" "GrammarTunes" ∈ lw_tbl := List.mem_append_right _ (List.mem_append_left _ (List.mem_of_getElem? (i := 74) (rfl)))
theorem wd_863 : Cond.fieldLinkNest "GrammarTunes" 181 "GrammarTunes$Grammar" "alternatives" "I" "GrammarTunes" ∈ lw_tbl := List.mem_append_right _ (List.mem_append_left _ (List.mem_of_getElem? (i := 72) (rfl)))
theorem wd_864 : Cond.fieldLinkNest "GrammarTunes" 88 "GrammarTunes$Grammar" "rules" "I" "GrammarTunes" ∈ lw_tbl := List.mem_append_right _ (List.mem_append_left _ (List.mem_of_getElem? (i := 70) (rfl)))
theorem wd_865 : Cond.fieldLinkNest "GrammarTunes$Maker" 158 "GrammarTunes$Grammar" "length" "[I" "GrammarTunes" ∈ lw_tbl := List.mem_append_right _ (List.mem_append_left _ (List.mem_of_getElem? (i := 68) (rfl)))
theorem wd_866 : Cond.fieldLinkNest "GrammarTunes$Maker" 148 "GrammarTunes$Grammar" "octave" "[I" "GrammarTunes" ∈ lw_tbl := List.mem_append_right _ (List.mem_append_left _ (List.mem_of_getElem? (i := 66) (rfl)))
theorem wd_867 : Cond.fieldLinkNest "GrammarTunes$Maker" 145 "GrammarTunes$Grammar" "degree" "[I" "GrammarTunes" ∈ lw_tbl := List.mem_append_right _ (List.mem_append_left _ (List.mem_of_getElem? (i := 64) (rfl)))
theorem wd_868 : Cond.fieldLinkNest "GrammarTunes$Maker" 137 "GrammarTunes$Grammar" "letter" "[I" "GrammarTunes" ∈ lw_tbl := List.mem_append_right _ (List.mem_append_left _ (List.mem_of_getElem? (i := 62) (rfl)))
theorem wd_869 : Cond.fieldLinkNest "GrammarTunes$Maker" 117 "GrammarTunes$Grammar" "endSign" "[I" "GrammarTunes" ∈ lw_tbl := List.mem_append_right _ (List.mem_append_left _ (List.mem_of_getElem? (i := 60) (rfl)))
theorem wd_870 : Cond.fieldLinkNest "GrammarTunes$Maker" 114 "GrammarTunes$Grammar" "firstSign" "[I" "GrammarTunes" ∈ lw_tbl := List.mem_append_right _ (List.mem_append_left _ (List.mem_of_getElem? (i := 58) (rfl)))
theorem wd_871 : Cond.fieldLinkNest "GrammarTunes$Maker" 131 "GrammarTunes$Grammar" "weight" "[I" "GrammarTunes" ∈ lw_tbl := List.mem_append_right _ (List.mem_append_left _ (List.mem_of_getElem? (i := 56) (rfl)))
theorem wd_872 : Cond.fieldLinkNest "GrammarTunes" 102 "GrammarTunes$Grammar" "weightsOf" "[I" "GrammarTunes" ∈ lw_tbl := List.mem_append_right _ (List.mem_append_left _ (List.mem_of_getElem? (i := 53) (rfl)))
theorem wd_873 : Cond.fieldLinkNest "GrammarTunes$Maker" 89 "GrammarTunes$Grammar" "weightsOf" "[I" "GrammarTunes" ∈ lw_tbl := List.mem_append_right _ (List.mem_append_left _ (List.mem_of_getElem? (i := 52) (rfl)))
theorem wd_874 : Cond.fieldLinkNest "GrammarTunes$Maker" 128 "GrammarTunes$Grammar" "alternativesOf" "[I" "GrammarTunes" ∈ lw_tbl := List.mem_append_right _ (List.mem_append_left _ (List.mem_of_getElem? (i := 50) (rfl)))
theorem wd_875 : Cond.fieldLinkNest "GrammarTunes" 99 "GrammarTunes$Grammar" "alternativesOf" "[I" "GrammarTunes" ∈ lw_tbl := List.mem_append_right _ (List.mem_append_left _ (List.mem_of_getElem? (i := 49) (rfl)))
theorem wd_876 : Cond.fieldLinkNest "GrammarTunes$Maker" 120 "GrammarTunes$Grammar" "firstOf" "[I" "GrammarTunes" ∈ lw_tbl := List.mem_append_right _ (List.mem_append_left _ (List.mem_of_getElem? (i := 47) (rfl)))
theorem wd_877 : Cond.fieldLinkNest "GrammarTunes" 179 "GrammarTunes$Script" "length" "I" "GrammarTunes" ∈ lw_tbl := List.mem_append_right _ (List.mem_append_left _ (List.mem_of_getElem? (i := 33) (rfl)))
theorem wd_878 : Cond.fieldLinkNest "GrammarTunes$Reader" 51 "GrammarTunes$Script" "length" "I" "GrammarTunes" ∈ lw_tbl := List.mem_append_right _ (List.mem_append_left _ (List.mem_of_getElem? (i := 32) (rfl)))
theorem wd_879 : Cond.fieldLinkNest "GrammarTunes$Reader" 54 "GrammarTunes$Script" "characters" "[C" "GrammarTunes" ∈ lw_tbl := List.mem_append_right _ (List.mem_append_left _ (List.mem_of_getElem? (i := 30) (rfl)))
theorem wx_inst_X0 : Cond.instantiable RX0 5 ∈ lw_tbl := wd_792
theorem wx_inst_X1 : Cond.instantiable RX1 1 ∈ lw_tbl := wd_359
theorem wx_inst_X2 : Cond.instantiable RX2 16 ∈ lw_tbl := wd_776
theorem wx_inst_X3 : Cond.instantiable RX3 12 ∈ lw_tbl := wd_364
theorem wx_inst_X4 : Cond.instantiable RX4 8 ∈ lw_tbl := wd_771
theorem wx_inst_X5 : Cond.instantiable RX5 4 ∈ lw_tbl := wd_126
theorem wx_inst_X6 : Cond.instantiable RX6 2 ∈ lw_tbl := wd_778
theorem wx_inst_X7 : Cond.instantiable RX7 1 ∈ lw_tbl := wd_790
theorem wx_inst_X8 : Cond.instantiable RX8 7 ∈ lw_tbl := wd_773
theorem wx_inst_X9 : Cond.instantiable RX9 9 ∈ lw_tbl := wd_817
theorem wx_inst_X10 : Cond.instantiable RX10 53 ∈ lw_tbl := wd_818
theorem wx_ini_X9 : Cond.initialized RX9 ∈ lw_tbl := wd_2
theorem wx_ini_X10 : Cond.initialized RX10 ∈ lw_tbl := wd_88
theorem wx_ini_X8 : Cond.initialized RX8 ∈ lw_tbl := wd_368
theorem wx_arr_char : Cond.arrayClass .char ∈ lw_tbl := wd_784
theorem wx_arr_int : Cond.arrayClass .int ∈ lw_tbl := wd_775
theorem wx_arr_long : Cond.arrayClass .long ∈ lw_tbl := wd_809
theorem wx_cl_X9 : Cond.classLink RL 7 RX9 ∈ lw_tbl := wd_819
theorem wx_cl_X10 : Cond.classLink RL 10 RX10 ∈ lw_tbl := wd_820
theorem wx_ml_X9 : Cond.methodLink RL 9 yX9_init ∈ lw_tbl := wd_821
theorem wx_ml_X10 : Cond.methodLink RL 12 yX10_init ∈ lw_tbl := wd_822
theorem wx_im_X9 : Cond.instanceMethod yX9_init ∈ lw_tbl := wd_823
theorem wx_im_X10 : Cond.instanceMethod yX10_init ∈ lw_tbl := wd_824
theorem wx_ls0 : Cond.laysStatic RX9 "WANTED_AT_FIRST" "[I" ∈ lw_tbl := wd_825
theorem wx_ls1 : Cond.laysStatic RX9 "WANTED_LEAST" "[I" ∈ lw_tbl := wd_826
theorem wx_ls2 : Cond.laysStatic RX9 "WANTED_GREATEST" "[I" ∈ lw_tbl := wd_827
theorem wx_ls3 : Cond.laysStatic RX8 "PITCH_OF_DEGREE" "[I" ∈ lw_tbl := wd_828
set_option maxRecDepth 20000 in
theorem in_nest : ∀ w ∈ nestWords, w ∈ lw_tbl := by
  unfold nestWords
  exact (List.forall_mem_cons.mpr ⟨wd_879, (List.forall_mem_cons.mpr ⟨wd_878, (List.forall_mem_cons.mpr ⟨wd_877, (List.forall_mem_cons.mpr ⟨wd_876, (List.forall_mem_cons.mpr ⟨wd_875, (List.forall_mem_cons.mpr ⟨wd_874, (List.forall_mem_cons.mpr ⟨wd_873, (List.forall_mem_cons.mpr ⟨wd_872, (List.forall_mem_cons.mpr ⟨wd_871, (List.forall_mem_cons.mpr ⟨wd_870, (List.forall_mem_cons.mpr ⟨wd_869, (List.forall_mem_cons.mpr ⟨wd_868, (List.forall_mem_cons.mpr ⟨wd_867, (List.forall_mem_cons.mpr ⟨wd_866, (List.forall_mem_cons.mpr ⟨wd_865, (List.forall_mem_cons.mpr ⟨wd_864, (List.forall_mem_cons.mpr ⟨wd_863, (List.forall_mem_cons.mpr ⟨wd_862, (List.forall_mem_cons.mpr ⟨wd_861, (List.forall_mem_cons.mpr ⟨wd_860, (List.forall_mem_cons.mpr ⟨wd_859, (List.forall_mem_cons.mpr ⟨wd_858, (List.forall_mem_cons.mpr ⟨wd_857, (List.forall_mem_cons.mpr ⟨wd_856, (List.forall_mem_cons.mpr ⟨wd_855, (List.forall_mem_cons.mpr ⟨wd_854, (List.forall_mem_cons.mpr ⟨wd_853, (List.forall_mem_cons.mpr ⟨wd_852, (List.forall_mem_cons.mpr ⟨wd_851, (List.forall_mem_cons.mpr ⟨wd_850, (List.forall_mem_cons.mpr ⟨wd_849, (List.forall_mem_cons.mpr ⟨wd_848, (List.forall_mem_cons.mpr ⟨wd_847, (List.forall_mem_cons.mpr ⟨wd_846, (List.forall_mem_cons.mpr ⟨wd_845, (List.forall_mem_cons.mpr ⟨wd_844, (List.forall_mem_cons.mpr ⟨wd_843, (List.forall_mem_cons.mpr ⟨wd_842, (List.forall_mem_cons.mpr ⟨wd_841, (List.forall_mem_cons.mpr ⟨wd_840, (List.forall_mem_cons.mpr ⟨wd_839, (List.forall_mem_cons.mpr ⟨wd_838, (List.forall_mem_cons.mpr ⟨wd_837, (List.forall_mem_cons.mpr ⟨wd_836, (List.forall_mem_cons.mpr ⟨wd_835, (List.forall_mem_cons.mpr ⟨wd_834, (List.forall_mem_cons.mpr ⟨wd_833, (List.forall_mem_cons.mpr ⟨wd_832, (List.forall_mem_cons.mpr ⟨wd_831, (List.forall_mem_cons.mpr ⟨wd_830, (List.forall_mem_cons.mpr ⟨wd_829, (fun _ h => absurd h List.not_mem_nil)⟩)⟩)⟩)⟩)⟩)⟩)⟩)⟩)⟩)⟩)⟩)⟩)⟩)⟩)⟩)⟩)⟩)⟩)⟩)⟩)⟩)⟩)⟩)⟩)⟩)⟩)⟩)⟩)⟩)⟩)⟩)⟩)⟩)⟩)⟩)⟩)⟩)⟩)⟩)⟩)⟩)⟩)⟩)⟩)⟩)⟩)⟩)⟩)⟩)⟩)⟩)
