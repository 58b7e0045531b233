/-! the words in use, by their places -/
theorem zk_1 : (Jvm.Cond.initialized "SeenToMove") ∈ zTT := zTT_in (List.mem_of_getElem? (i := 1) (by decide +kernel)) rfl
theorem zk_2 : (Jvm.Cond.initialized "SeenToMove$Tape") ∈ zTT := zTT_in (List.mem_of_getElem? (i := 2) (by decide +kernel)) rfl
theorem zk_7 : (Jvm.Cond.initialized "SeenToMove$Field") ∈ zTT := zTT_in (List.mem_of_getElem? (i := 7) (by decide +kernel)) rfl
theorem zk_8 : (Jvm.Cond.initialized "SeenToMove$State") ∈ zTT := zTT_in (List.mem_of_getElem? (i := 8) (by decide +kernel)) rfl
theorem zk_9 : (Jvm.Cond.initialized "SeenToMove$Sentence") ∈ zTT := zTT_in (List.mem_of_getElem? (i := 9) (by decide +kernel)) rfl
theorem zk_10 : (Jvm.Cond.initialized "SeenToMove$FieldText") ∈ zTT := zTT_in (List.mem_of_getElem? (i := 10) (by decide +kernel)) rfl
theorem zk_11 : (Jvm.Cond.initialized "SeenToMove$BookText") ∈ zTT := zTT_in (List.mem_of_getElem? (i := 11) (by decide +kernel)) rfl
theorem zk_12 : (Jvm.Cond.initialized "SeenToMove$SentenceText") ∈ zTT := zTT_in (List.mem_of_getElem? (i := 12) (by decide +kernel)) rfl
theorem zk_13 : (Jvm.Cond.initialized "SeenToMove$Undos") ∈ zTT := zTT_in (List.mem_of_getElem? (i := 13) (by decide +kernel)) rfl
theorem zk_15 : (Jvm.Cond.initialized "SeenToMove$Fits") ∈ zTT := zTT_in (List.mem_of_getElem? (i := 15) (by decide +kernel)) rfl
theorem zk_16 : (Jvm.Cond.initialized "SeenToMove$Answers") ∈ zTT := zTT_in (List.mem_of_getElem? (i := 16) (by decide +kernel)) rfl
theorem zk_17 : (Jvm.Cond.initialized "SeenToMoveModel") ∈ zTT := zTT_in (List.mem_of_getElem? (i := 17) (by decide +kernel)) rfl
theorem zk_18 : (Jvm.Cond.initialized "java/lang/Math") ∈ zTT := zTT_in (List.mem_of_getElem? (i := 18) (by decide +kernel)) rfl
theorem zk_19 : (Jvm.Cond.initialized "java/lang/System") ∈ zTT := zTT_in (List.mem_of_getElem? (i := 19) (by decide +kernel)) rfl
theorem zk_24 : (Jvm.Cond.initialized "java/lang/Integer") ∈ zTT := zTT_in (List.mem_of_getElem? (i := 24) (by decide +kernel)) rfl
theorem zk_89 : (Jvm.Cond.static ({ cls := "SeenToMove", name := "putName", desc := "([JIJ)V" } : Jvm.MethodName)) ∈ zTT := zTT_in (List.mem_of_getElem? (i := 89) (by decide +kernel)) rfl
theorem zk_90 : (Jvm.Cond.code ({ cls := "SeenToMove", name := "putName", desc := "([JIJ)V" } : Jvm.MethodName) prog_1_method_61_code (4 : Nat) (Option.none : Option Jvm.ClassFile.FieldType)) ∈ zTT := zTT_in (List.mem_of_getElem? (i := 90) (by decide +kernel)) rfl
theorem zk_91 : (Jvm.Cond.fieldLink "SeenToMove$Tape" (9 : Nat) "SeenToMove$Tape" "bytes" "[B") ∈ zTT := zTT_in (List.mem_of_getElem? (i := 91) (by decide +kernel)) rfl
theorem zk_92 : (Jvm.Cond.fieldLink "SeenToMove$Tape" (15 : Nat) "SeenToMove$Tape" "words" "[J") ∈ zTT := zTT_in (List.mem_of_getElem? (i := 92) (by decide +kernel)) rfl
theorem zk_94 : (Jvm.Cond.fieldLink "SeenToMove$Fits" (25 : Nat) "SeenToMove$Tape" "size" "I") ∈ zTT := zTT_in (List.mem_of_getElem? (i := 94) (by decide +kernel)) rfl
theorem zk_95 : (Jvm.Cond.fieldLink "SeenToMove" (102 : Nat) "SeenToMove$Tape" "size" "I") ∈ zTT := zTT_in (List.mem_of_getElem? (i := 95) (by decide +kernel)) rfl
theorem zk_96 : (Jvm.Cond.fieldLink "SeenToMove$Tape" (35 : Nat) "SeenToMove$Tape" "size" "I") ∈ zTT := zTT_in (List.mem_of_getElem? (i := 96) (by decide +kernel)) rfl
theorem zk_97 : (Jvm.Cond.fieldLink "SeenToMove$Tape" (39 : Nat) "SeenToMove$Tape" "most" "I") ∈ zTT := zTT_in (List.mem_of_getElem? (i := 97) (by decide +kernel)) rfl
theorem zk_98 : (Jvm.Cond.fieldLink "SeenToMove$Tape" (42 : Nat) "SeenToMove$Tape" "next" "I") ∈ zTT := zTT_in (List.mem_of_getElem? (i := 98) (by decide +kernel)) rfl
theorem zk_99 : (Jvm.Cond.fieldLink "SeenToMove$FieldText" (59 : Nat) "SeenToMove$Tape" "kind" "I") ∈ zTT := zTT_in (List.mem_of_getElem? (i := 99) (by decide +kernel)) rfl
theorem zk_100 : (Jvm.Cond.fieldLink "SeenToMove$BookText" (49 : Nat) "SeenToMove$Tape" "kind" "I") ∈ zTT := zTT_in (List.mem_of_getElem? (i := 100) (by decide +kernel)) rfl
theorem zk_102 : (Jvm.Cond.fieldLink "SeenToMove$Tape" (77 : Nat) "SeenToMove$Tape" "kind" "I") ∈ zTT := zTT_in (List.mem_of_getElem? (i := 102) (by decide +kernel)) rfl
theorem zk_103 : (Jvm.Cond.fieldLink "SeenToMove$Tape" (51 : Nat) "SeenToMove$Tape" "place" "I") ∈ zTT := zTT_in (List.mem_of_getElem? (i := 103) (by decide +kernel)) rfl
theorem zk_104 : (Jvm.Cond.fieldLink "SeenToMove$Tape" (63 : Nat) "SeenToMove$Tape" "behind" "I") ∈ zTT := zTT_in (List.mem_of_getElem? (i := 104) (by decide +kernel)) rfl
theorem zk_105 : (Jvm.Cond.fieldLink "SeenToMove$FieldText" (128 : Nat) "SeenToMove$Tape" "behind" "I") ∈ zTT := zTT_in (List.mem_of_getElem? (i := 105) (by decide +kernel)) rfl
theorem zk_106 : (Jvm.Cond.fieldLink "SeenToMove$FieldText" (63 : Nat) "SeenToMove$Tape" "value" "I") ∈ zTT := zTT_in (List.mem_of_getElem? (i := 106) (by decide +kernel)) rfl
theorem zk_107 : (Jvm.Cond.fieldLink "SeenToMove$SentenceText" (66 : Nat) "SeenToMove$Tape" "value" "I") ∈ zTT := zTT_in (List.mem_of_getElem? (i := 107) (by decide +kernel)) rfl
theorem zk_108 : (Jvm.Cond.fieldLink "SeenToMove$Tape" (74 : Nat) "SeenToMove$Tape" "value" "I") ∈ zTT := zTT_in (List.mem_of_getElem? (i := 108) (by decide +kernel)) rfl
theorem zk_109 : (Jvm.Cond.fieldLink "SeenToMove$BookText" (65 : Nat) "SeenToMove$Tape" "name" "J") ∈ zTT := zTT_in (List.mem_of_getElem? (i := 109) (by decide +kernel)) rfl
theorem zk_110 : (Jvm.Cond.fieldLink "SeenToMove$Tape" (86 : Nat) "SeenToMove$Tape" "name" "J") ∈ zTT := zTT_in (List.mem_of_getElem? (i := 110) (by decide +kernel)) rfl
theorem zk_111 : (Jvm.Cond.fieldLink "SeenToMove$FieldText" (135 : Nat) "SeenToMove$Tape" "name" "J") ∈ zTT := zTT_in (List.mem_of_getElem? (i := 111) (by decide +kernel)) rfl
theorem zk_112 : (Jvm.Cond.fieldLink "SeenToMove$FieldText" (90 : Nat) "SeenToMove$Tape" "fault" "I") ∈ zTT := zTT_in (List.mem_of_getElem? (i := 112) (by decide +kernel)) rfl
theorem zk_113 : (Jvm.Cond.fieldLink "SeenToMove$Tape" (45 : Nat) "SeenToMove$Tape" "fault" "I") ∈ zTT := zTT_in (List.mem_of_getElem? (i := 113) (by decide +kernel)) rfl
theorem zk_114 : (Jvm.Cond.fieldLink "SeenToMove" (114 : Nat) "SeenToMove$Tape" "fault" "I") ∈ zTT := zTT_in (List.mem_of_getElem? (i := 114) (by decide +kernel)) rfl
theorem zk_115 : (Jvm.Cond.fieldLink "SeenToMove$Tape" (48 : Nat) "SeenToMove$Tape" "faultPlace" "I") ∈ zTT := zTT_in (List.mem_of_getElem? (i := 115) (by decide +kernel)) rfl
theorem zk_116 : (Jvm.Cond.fieldLink "SeenToMove" (118 : Nat) "SeenToMove$Tape" "faultPlace" "I") ∈ zTT := zTT_in (List.mem_of_getElem? (i := 116) (by decide +kernel)) rfl
theorem zk_117 : (Jvm.Cond.laysFinal "SeenToMove$Tape" "SeenToMove$Tape" "bytes" "[B") ∈ zTT := zTT_in (List.mem_of_getElem? (i := 117) (by decide +kernel)) rfl
theorem zk_119 : (Jvm.Cond.laysFinal "SeenToMove$Tape" "SeenToMove$Tape" "words" "[J") ∈ zTT := zTT_in (List.mem_of_getElem? (i := 119) (by decide +kernel)) rfl
theorem zk_121 : (Jvm.Cond.lays "SeenToMove$Tape" "SeenToMove$Tape" "size" "I") ∈ zTT := zTT_in (List.mem_of_getElem? (i := 121) (by decide +kernel)) rfl
theorem zk_123 : (Jvm.Cond.lays "SeenToMove$Tape" "SeenToMove$Tape" "most" "I") ∈ zTT := zTT_in (List.mem_of_getElem? (i := 123) (by decide +kernel)) rfl
theorem zk_125 : (Jvm.Cond.lays "SeenToMove$Tape" "SeenToMove$Tape" "next" "I") ∈ zTT := zTT_in (List.mem_of_getElem? (i := 125) (by decide +kernel)) rfl
theorem zk_127 : (Jvm.Cond.lays "SeenToMove$Tape" "SeenToMove$Tape" "kind" "I") ∈ zTT := zTT_in (List.mem_of_getElem? (i := 127) (by decide +kernel)) rfl
theorem zk_129 : (Jvm.Cond.lays "SeenToMove$Tape" "SeenToMove$Tape" "place" "I") ∈ zTT := zTT_in (List.mem_of_getElem? (i := 129) (by decide +kernel)) rfl
theorem zk_131 : (Jvm.Cond.lays "SeenToMove$Tape" "SeenToMove$Tape" "behind" "I") ∈ zTT := zTT_in (List.mem_of_getElem? (i := 131) (by decide +kernel)) rfl
theorem zk_133 : (Jvm.Cond.lays "SeenToMove$Tape" "SeenToMove$Tape" "value" "I") ∈ zTT := zTT_in (List.mem_of_getElem? (i := 133) (by decide +kernel)) rfl
theorem zk_135 : (Jvm.Cond.lays "SeenToMove$Tape" "SeenToMove$Tape" "name" "J") ∈ zTT := zTT_in (List.mem_of_getElem? (i := 135) (by decide +kernel)) rfl
theorem zk_137 : (Jvm.Cond.lays "SeenToMove$Tape" "SeenToMove$Tape" "fault" "I") ∈ zTT := zTT_in (List.mem_of_getElem? (i := 137) (by decide +kernel)) rfl
theorem zk_139 : (Jvm.Cond.lays "SeenToMove$Tape" "SeenToMove$Tape" "faultPlace" "I") ∈ zTT := zTT_in (List.mem_of_getElem? (i := 139) (by decide +kernel)) rfl
theorem zk_150 : (Jvm.Cond.fieldLink "SeenToMove$Field" (9 : Nat) "SeenToMove$Field" "wide" "I") ∈ zTT := zTT_in (List.mem_of_getElem? (i := 150) (by decide +kernel)) rfl
theorem zk_151 : (Jvm.Cond.fieldLink "SeenToMove$FieldText" (104 : Nat) "SeenToMove$Field" "wide" "I") ∈ zTT := zTT_in (List.mem_of_getElem? (i := 151) (by decide +kernel)) rfl
theorem zk_152 : (Jvm.Cond.fieldLink "SeenToMove$State" (54 : Nat) "SeenToMove$Field" "wide" "I") ∈ zTT := zTT_in (List.mem_of_getElem? (i := 152) (by decide +kernel)) rfl
theorem zk_153 : (Jvm.Cond.fieldLink "SeenToMove" (404 : Nat) "SeenToMove$Field" "wide" "I") ∈ zTT := zTT_in (List.mem_of_getElem? (i := 153) (by decide +kernel)) rfl
theorem zk_154 : (Jvm.Cond.fieldLink "SeenToMove$Field" (15 : Nat) "SeenToMove$Field" "high" "I") ∈ zTT := zTT_in (List.mem_of_getElem? (i := 154) (by decide +kernel)) rfl
theorem zk_155 : (Jvm.Cond.fieldLink "SeenToMove$State" (49 : Nat) "SeenToMove$Field" "high" "I") ∈ zTT := zTT_in (List.mem_of_getElem? (i := 155) (by decide +kernel)) rfl
theorem zk_156 : (Jvm.Cond.fieldLink "SeenToMove$FieldText" (107 : Nat) "SeenToMove$Field" "high" "I") ∈ zTT := zTT_in (List.mem_of_getElem? (i := 156) (by decide +kernel)) rfl
theorem zk_157 : (Jvm.Cond.fieldLink "SeenToMove" (407 : Nat) "SeenToMove$Field" "high" "I") ∈ zTT := zTT_in (List.mem_of_getElem? (i := 157) (by decide +kernel)) rfl
theorem zk_158 : (Jvm.Cond.fieldLink "SeenToMove$Field" (50 : Nat) "SeenToMove$Field" "owners" "I") ∈ zTT := zTT_in (List.mem_of_getElem? (i := 158) (by decide +kernel)) rfl
theorem zk_159 : (Jvm.Cond.fieldLink "SeenToMove$State" (74 : Nat) "SeenToMove$Field" "owners" "I") ∈ zTT := zTT_in (List.mem_of_getElem? (i := 159) (by decide +kernel)) rfl
theorem zk_161 : (Jvm.Cond.fieldLink "SeenToMove$FieldText" (143 : Nat) "SeenToMove$Field" "owners" "I") ∈ zTT := zTT_in (List.mem_of_getElem? (i := 161) (by decide +kernel)) rfl
theorem zk_162 : (Jvm.Cond.fieldLink "SeenToMove" (226 : Nat) "SeenToMove$Field" "owners" "I") ∈ zTT := zTT_in (List.mem_of_getElem? (i := 162) (by decide +kernel)) rfl
theorem zk_163 : (Jvm.Cond.fieldLink "SeenToMove$Field" (53 : Nat) "SeenToMove$Field" "figures" "I") ∈ zTT := zTT_in (List.mem_of_getElem? (i := 163) (by decide +kernel)) rfl
theorem zk_164 : (Jvm.Cond.fieldLink "SeenToMove$BookText" (76 : Nat) "SeenToMove$Field" "figures" "I") ∈ zTT := zTT_in (List.mem_of_getElem? (i := 164) (by decide +kernel)) rfl
theorem zk_165 : (Jvm.Cond.fieldLink "SeenToMove$State" (65 : Nat) "SeenToMove$Field" "figures" "I") ∈ zTT := zTT_in (List.mem_of_getElem? (i := 165) (by decide +kernel)) rfl
theorem zk_166 : (Jvm.Cond.fieldLink "SeenToMove$FieldText" (166 : Nat) "SeenToMove$Field" "figures" "I") ∈ zTT := zTT_in (List.mem_of_getElem? (i := 166) (by decide +kernel)) rfl
theorem zk_167 : (Jvm.Cond.fieldLink "SeenToMove" (220 : Nat) "SeenToMove$Field" "figures" "I") ∈ zTT := zTT_in (List.mem_of_getElem? (i := 167) (by decide +kernel)) rfl
theorem zk_168 : (Jvm.Cond.fieldLink "SeenToMove$Field" (56 : Nat) "SeenToMove$Field" "lookers" "I") ∈ zTT := zTT_in (List.mem_of_getElem? (i := 168) (by decide +kernel)) rfl
theorem zk_169 : (Jvm.Cond.fieldLink "SeenToMove$BookText" (62 : Nat) "SeenToMove$Field" "lookers" "I") ∈ zTT := zTT_in (List.mem_of_getElem? (i := 169) (by decide +kernel)) rfl
theorem zk_171 : (Jvm.Cond.fieldLink "SeenToMove$State" (84 : Nat) "SeenToMove$Field" "lookers" "I") ∈ zTT := zTT_in (List.mem_of_getElem? (i := 171) (by decide +kernel)) rfl
theorem zk_172 : (Jvm.Cond.fieldLink "SeenToMove$FieldText" (187 : Nat) "SeenToMove$Field" "lookers" "I") ∈ zTT := zTT_in (List.mem_of_getElem? (i := 172) (by decide +kernel)) rfl
theorem zk_173 : (Jvm.Cond.fieldLink "SeenToMove" (223 : Nat) "SeenToMove$Field" "lookers" "I") ∈ zTT := zTT_in (List.mem_of_getElem? (i := 173) (by decide +kernel)) rfl
theorem zk_174 : (Jvm.Cond.fieldLink "SeenToMove$Field" (18 : Nat) "SeenToMove$Field" "ownerNames" "[J") ∈ zTT := zTT_in (List.mem_of_getElem? (i := 174) (by decide +kernel)) rfl
theorem zk_176 : (Jvm.Cond.fieldLink "SeenToMove$FieldText" (146 : Nat) "SeenToMove$Field" "ownerNames" "[J") ∈ zTT := zTT_in (List.mem_of_getElem? (i := 176) (by decide +kernel)) rfl
theorem zk_177 : (Jvm.Cond.fieldLink "SeenToMove$Field" (22 : Nat) "SeenToMove$Field" "figureNames" "[J") ∈ zTT := zTT_in (List.mem_of_getElem? (i := 177) (by decide +kernel)) rfl
theorem zk_178 : (Jvm.Cond.fieldLink "SeenToMove$BookText" (73 : Nat) "SeenToMove$Field" "figureNames" "[J") ∈ zTT := zTT_in (List.mem_of_getElem? (i := 178) (by decide +kernel)) rfl
theorem zk_179 : (Jvm.Cond.fieldLink "SeenToMove$FieldText" (169 : Nat) "SeenToMove$Field" "figureNames" "[J") ∈ zTT := zTT_in (List.mem_of_getElem? (i := 179) (by decide +kernel)) rfl
theorem zk_181 : (Jvm.Cond.fieldLink "SeenToMove$Field" (25 : Nat) "SeenToMove$Field" "lookerNames" "[J") ∈ zTT := zTT_in (List.mem_of_getElem? (i := 181) (by decide +kernel)) rfl
theorem zk_182 : (Jvm.Cond.fieldLink "SeenToMove$BookText" (56 : Nat) "SeenToMove$Field" "lookerNames" "[J") ∈ zTT := zTT_in (List.mem_of_getElem? (i := 182) (by decide +kernel)) rfl
theorem zk_184 : (Jvm.Cond.fieldLink "SeenToMove$FieldText" (190 : Nat) "SeenToMove$Field" "lookerNames" "[J") ∈ zTT := zTT_in (List.mem_of_getElem? (i := 184) (by decide +kernel)) rfl
theorem zk_185 : (Jvm.Cond.fieldLink "SeenToMove$Field" (28 : Nat) "SeenToMove$Field" "hedges" "[I") ∈ zTT := zTT_in (List.mem_of_getElem? (i := 185) (by decide +kernel)) rfl
theorem zk_186 : (Jvm.Cond.fieldLink "SeenToMove$FieldText" (110 : Nat) "SeenToMove$Field" "hedges" "[I") ∈ zTT := zTT_in (List.mem_of_getElem? (i := 186) (by decide +kernel)) rfl
theorem zk_187 : (Jvm.Cond.fieldLink "SeenToMove" (193 : Nat) "SeenToMove$Field" "hedges" "[I") ∈ zTT := zTT_in (List.mem_of_getElem? (i := 187) (by decide +kernel)) rfl
theorem zk_188 : (Jvm.Cond.fieldLink "SeenToMove$Field" (32 : Nat) "SeenToMove$Field" "firstLand" "[I") ∈ zTT := zTT_in (List.mem_of_getElem? (i := 188) (by decide +kernel)) rfl
theorem zk_189 : (Jvm.Cond.fieldLink "SeenToMove$State" (77 : Nat) "SeenToMove$Field" "firstLand" "[I") ∈ zTT := zTT_in (List.mem_of_getElem? (i := 189) (by decide +kernel)) rfl
theorem zk_190 : (Jvm.Cond.fieldLink "SeenToMove" (319 : Nat) "SeenToMove$Field" "firstLand" "[I") ∈ zTT := zTT_in (List.mem_of_getElem? (i := 190) (by decide +kernel)) rfl
theorem zk_191 : (Jvm.Cond.fieldLink "SeenToMove$Field" (35 : Nat) "SeenToMove$Field" "figureOwners" "[I") ∈ zTT := zTT_in (List.mem_of_getElem? (i := 191) (by decide +kernel)) rfl
theorem zk_192 : (Jvm.Cond.fieldLink "SeenToMove$State" (68 : Nat) "SeenToMove$Field" "figureOwners" "[I") ∈ zTT := zTT_in (List.mem_of_getElem? (i := 192) (by decide +kernel)) rfl
theorem zk_194 : (Jvm.Cond.fieldLink "SeenToMove$Sentence" (63 : Nat) "SeenToMove$Field" "figureOwners" "[I") ∈ zTT := zTT_in (List.mem_of_getElem? (i := 194) (by decide +kernel)) rfl
theorem zk_195 : (Jvm.Cond.fieldLink "SeenToMove$FieldText" (172 : Nat) "SeenToMove$Field" "figureOwners" "[I") ∈ zTT := zTT_in (List.mem_of_getElem? (i := 195) (by decide +kernel)) rfl
theorem zk_196 : (Jvm.Cond.fieldLink "SeenToMove$Field" (38 : Nat) "SeenToMove$Field" "everys" "[I") ∈ zTT := zTT_in (List.mem_of_getElem? (i := 196) (by decide +kernel)) rfl
theorem zk_198 : (Jvm.Cond.fieldLink "SeenToMove$Sentence" (73 : Nat) "SeenToMove$Field" "everys" "[I") ∈ zTT := zTT_in (List.mem_of_getElem? (i := 198) (by decide +kernel)) rfl
theorem zk_199 : (Jvm.Cond.fieldLink "SeenToMove$FieldText" (184 : Nat) "SeenToMove$Field" "everys" "[I") ∈ zTT := zTT_in (List.mem_of_getElem? (i := 199) (by decide +kernel)) rfl
theorem zk_200 : (Jvm.Cond.fieldLink "SeenToMove$State" (119 : Nat) "SeenToMove$Field" "everys" "[I") ∈ zTT := zTT_in (List.mem_of_getElem? (i := 200) (by decide +kernel)) rfl
theorem zk_201 : (Jvm.Cond.fieldLink "SeenToMove$Field" (41 : Nat) "SeenToMove$Field" "firstCells" "[I") ∈ zTT := zTT_in (List.mem_of_getElem? (i := 201) (by decide +kernel)) rfl
theorem zk_202 : (Jvm.Cond.fieldLink "SeenToMove$State" (71 : Nat) "SeenToMove$Field" "firstCells" "[I") ∈ zTT := zTT_in (List.mem_of_getElem? (i := 202) (by decide +kernel)) rfl
theorem zk_203 : (Jvm.Cond.fieldLink "SeenToMove$Sentence" (58 : Nat) "SeenToMove$Field" "firstCells" "[I") ∈ zTT := zTT_in (List.mem_of_getElem? (i := 203) (by decide +kernel)) rfl
theorem zk_204 : (Jvm.Cond.fieldLink "SeenToMove$Field" (44 : Nat) "SeenToMove$Field" "froms" "[I") ∈ zTT := zTT_in (List.mem_of_getElem? (i := 204) (by decide +kernel)) rfl
theorem zk_205 : (Jvm.Cond.fieldLink "SeenToMove$State" (93 : Nat) "SeenToMove$Field" "froms" "[I") ∈ zTT := zTT_in (List.mem_of_getElem? (i := 205) (by decide +kernel)) rfl
theorem zk_206 : (Jvm.Cond.fieldLink "SeenToMove$FieldText" (199 : Nat) "SeenToMove$Field" "froms" "[I") ∈ zTT := zTT_in (List.mem_of_getElem? (i := 206) (by decide +kernel)) rfl
theorem zk_207 : (Jvm.Cond.fieldLink "SeenToMove$Field" (47 : Nat) "SeenToMove$Field" "longs" "[I") ∈ zTT := zTT_in (List.mem_of_getElem? (i := 207) (by decide +kernel)) rfl
theorem zk_208 : (Jvm.Cond.fieldLink "SeenToMove$State" (102 : Nat) "SeenToMove$Field" "longs" "[I") ∈ zTT := zTT_in (List.mem_of_getElem? (i := 208) (by decide +kernel)) rfl
theorem zk_209 : (Jvm.Cond.fieldLink "SeenToMove$FieldText" (202 : Nat) "SeenToMove$Field" "longs" "[I") ∈ zTT := zTT_in (List.mem_of_getElem? (i := 209) (by decide +kernel)) rfl
theorem zk_210 : (Jvm.Cond.lays "SeenToMove$Field" "SeenToMove$Field" "wide" "I") ∈ zTT := zTT_in (List.mem_of_getElem? (i := 210) (by decide +kernel)) rfl
theorem zk_212 : (Jvm.Cond.lays "SeenToMove$Field" "SeenToMove$Field" "high" "I") ∈ zTT := zTT_in (List.mem_of_getElem? (i := 212) (by decide +kernel)) rfl
theorem zk_214 : (Jvm.Cond.lays "SeenToMove$Field" "SeenToMove$Field" "owners" "I") ∈ zTT := zTT_in (List.mem_of_getElem? (i := 214) (by decide +kernel)) rfl
theorem zk_216 : (Jvm.Cond.lays "SeenToMove$Field" "SeenToMove$Field" "figures" "I") ∈ zTT := zTT_in (List.mem_of_getElem? (i := 216) (by decide +kernel)) rfl
theorem zk_218 : (Jvm.Cond.lays "SeenToMove$Field" "SeenToMove$Field" "lookers" "I") ∈ zTT := zTT_in (List.mem_of_getElem? (i := 218) (by decide +kernel)) rfl
theorem zk_220 : (Jvm.Cond.laysFinal "SeenToMove$Field" "SeenToMove$Field" "ownerNames" "[J") ∈ zTT := zTT_in (List.mem_of_getElem? (i := 220) (by decide +kernel)) rfl
theorem zk_222 : (Jvm.Cond.laysFinal "SeenToMove$Field" "SeenToMove$Field" "figureNames" "[J") ∈ zTT := zTT_in (List.mem_of_getElem? (i := 222) (by decide +kernel)) rfl
theorem zk_224 : (Jvm.Cond.laysFinal "SeenToMove$Field" "SeenToMove$Field" "lookerNames" "[J") ∈ zTT := zTT_in (List.mem_of_getElem? (i := 224) (by decide +kernel)) rfl
theorem zk_226 : (Jvm.Cond.laysFinal "SeenToMove$Field" "SeenToMove$Field" "hedges" "[I") ∈ zTT := zTT_in (List.mem_of_getElem? (i := 226) (by decide +kernel)) rfl
theorem zk_228 : (Jvm.Cond.laysFinal "SeenToMove$Field" "SeenToMove$Field" "firstLand" "[I") ∈ zTT := zTT_in (List.mem_of_getElem? (i := 228) (by decide +kernel)) rfl
theorem zk_230 : (Jvm.Cond.laysFinal "SeenToMove$Field" "SeenToMove$Field" "figureOwners" "[I") ∈ zTT := zTT_in (List.mem_of_getElem? (i := 230) (by decide +kernel)) rfl
theorem zk_232 : (Jvm.Cond.laysFinal "SeenToMove$Field" "SeenToMove$Field" "everys" "[I") ∈ zTT := zTT_in (List.mem_of_getElem? (i := 232) (by decide +kernel)) rfl
theorem zk_234 : (Jvm.Cond.laysFinal "SeenToMove$Field" "SeenToMove$Field" "firstCells" "[I") ∈ zTT := zTT_in (List.mem_of_getElem? (i := 234) (by decide +kernel)) rfl
theorem zk_236 : (Jvm.Cond.laysFinal "SeenToMove$Field" "SeenToMove$Field" "froms" "[I") ∈ zTT := zTT_in (List.mem_of_getElem? (i := 236) (by decide +kernel)) rfl
theorem zk_238 : (Jvm.Cond.laysFinal "SeenToMove$Field" "SeenToMove$Field" "longs" "[I") ∈ zTT := zTT_in (List.mem_of_getElem? (i := 238) (by decide +kernel)) rfl
theorem zk_248 : (Jvm.Cond.fieldLink "SeenToMove$State" (33 : Nat) "SeenToMove$State" "field" "LSeenToMove$Field;") ∈ zTT := zTT_in (List.mem_of_getElem? (i := 248) (by decide +kernel)) rfl
theorem zk_249 : (Jvm.Cond.fieldLink "SeenToMove$Sentence" (54 : Nat) "SeenToMove$State" "field" "LSeenToMove$Field;") ∈ zTT := zTT_in (List.mem_of_getElem? (i := 249) (by decide +kernel)) rfl
theorem zk_250 : (Jvm.Cond.fieldLink "SeenToMove$State" (37 : Nat) "SeenToMove$State" "hour" "I") ∈ zTT := zTT_in (List.mem_of_getElem? (i := 250) (by decide +kernel)) rfl
theorem zk_251 : (Jvm.Cond.fieldLink "SeenToMove$Answers" (36 : Nat) "SeenToMove$State" "hour" "I") ∈ zTT := zTT_in (List.mem_of_getElem? (i := 251) (by decide +kernel)) rfl
theorem zk_252 : (Jvm.Cond.fieldLink "SeenToMove$BookText" (128 : Nat) "SeenToMove$State" "hour" "I") ∈ zTT := zTT_in (List.mem_of_getElem? (i := 252) (by decide +kernel)) rfl
theorem zk_253 : (Jvm.Cond.fieldLink "SeenToMove" (205 : Nat) "SeenToMove$State" "hour" "I") ∈ zTT := zTT_in (List.mem_of_getElem? (i := 253) (by decide +kernel)) rfl
theorem zk_254 : (Jvm.Cond.fieldLink "SeenToMove$State" (9 : Nat) "SeenToMove$State" "cells" "[I") ∈ zTT := zTT_in (List.mem_of_getElem? (i := 254) (by decide +kernel)) rfl
theorem zk_255 : (Jvm.Cond.fieldLink "SeenToMove" (144 : Nat) "SeenToMove$State" "cells" "[I") ∈ zTT := zTT_in (List.mem_of_getElem? (i := 255) (by decide +kernel)) rfl
theorem zk_256 : (Jvm.Cond.fieldLink "SeenToMove$Sentence" (51 : Nat) "SeenToMove$State" "cells" "[I") ∈ zTT := zTT_in (List.mem_of_getElem? (i := 256) (by decide +kernel)) rfl
theorem zk_257 : (Jvm.Cond.fieldLink "SeenToMove$FieldText" (175 : Nat) "SeenToMove$State" "cells" "[I") ∈ zTT := zTT_in (List.mem_of_getElem? (i := 257) (by decide +kernel)) rfl
theorem zk_258 : (Jvm.Cond.fieldLink "SeenToMove$State" (15 : Nat) "SeenToMove$State" "faces" "[I") ∈ zTT := zTT_in (List.mem_of_getElem? (i := 258) (by decide +kernel)) rfl
theorem zk_260 : (Jvm.Cond.fieldLink "SeenToMove$FieldText" (178 : Nat) "SeenToMove$State" "faces" "[I") ∈ zTT := zTT_in (List.mem_of_getElem? (i := 260) (by decide +kernel)) rfl
theorem zk_261 : (Jvm.Cond.fieldLink "SeenToMove$State" (18 : Nat) "SeenToMove$State" "gone" "[I") ∈ zTT := zTT_in (List.mem_of_getElem? (i := 261) (by decide +kernel)) rfl
theorem zk_262 : (Jvm.Cond.fieldLink "SeenToMove" (160 : Nat) "SeenToMove$State" "gone" "[I") ∈ zTT := zTT_in (List.mem_of_getElem? (i := 262) (by decide +kernel)) rfl
theorem zk_263 : (Jvm.Cond.fieldLink "SeenToMove$Sentence" (66 : Nat) "SeenToMove$State" "gone" "[I") ∈ zTT := zTT_in (List.mem_of_getElem? (i := 263) (by decide +kernel)) rfl
theorem zk_264 : (Jvm.Cond.fieldLink "SeenToMove$State" (21 : Nat) "SeenToMove$State" "posts" "[I") ∈ zTT := zTT_in (List.mem_of_getElem? (i := 264) (by decide +kernel)) rfl
theorem zk_265 : (Jvm.Cond.fieldLink "SeenToMove" (173 : Nat) "SeenToMove$State" "posts" "[I") ∈ zTT := zTT_in (List.mem_of_getElem? (i := 265) (by decide +kernel)) rfl
theorem zk_266 : (Jvm.Cond.fieldLink "SeenToMove$FieldText" (193 : Nat) "SeenToMove$State" "posts" "[I") ∈ zTT := zTT_in (List.mem_of_getElem? (i := 266) (by decide +kernel)) rfl
theorem zk_267 : (Jvm.Cond.fieldLink "SeenToMove$State" (24 : Nat) "SeenToMove$State" "sides" "[I") ∈ zTT := zTT_in (List.mem_of_getElem? (i := 267) (by decide +kernel)) rfl
theorem zk_268 : (Jvm.Cond.fieldLink "SeenToMove" (176 : Nat) "SeenToMove$State" "sides" "[I") ∈ zTT := zTT_in (List.mem_of_getElem? (i := 268) (by decide +kernel)) rfl
theorem zk_269 : (Jvm.Cond.fieldLink "SeenToMove$FieldText" (196 : Nat) "SeenToMove$State" "sides" "[I") ∈ zTT := zTT_in (List.mem_of_getElem? (i := 269) (by decide +kernel)) rfl
theorem zk_270 : (Jvm.Cond.fieldLink "SeenToMove$State" (27 : Nat) "SeenToMove$State" "closed" "[I") ∈ zTT := zTT_in (List.mem_of_getElem? (i := 270) (by decide +kernel)) rfl
theorem zk_271 : (Jvm.Cond.fieldLink "SeenToMove" (179 : Nat) "SeenToMove$State" "closed" "[I") ∈ zTT := zTT_in (List.mem_of_getElem? (i := 271) (by decide +kernel)) rfl
theorem zk_272 : (Jvm.Cond.fieldLink "SeenToMove$State" (30 : Nat) "SeenToMove$State" "owned" "[I") ∈ zTT := zTT_in (List.mem_of_getElem? (i := 272) (by decide +kernel)) rfl
theorem zk_273 : (Jvm.Cond.fieldLink "SeenToMove" (202 : Nat) "SeenToMove$State" "owned" "[I") ∈ zTT := zTT_in (List.mem_of_getElem? (i := 273) (by decide +kernel)) rfl
theorem zk_274 : (Jvm.Cond.laysFinal "SeenToMove$State" "SeenToMove$State" "field" "LSeenToMove$Field;") ∈ zTT := zTT_in (List.mem_of_getElem? (i := 274) (by decide +kernel)) rfl
theorem zk_276 : (Jvm.Cond.lays "SeenToMove$State" "SeenToMove$State" "hour" "I") ∈ zTT := zTT_in (List.mem_of_getElem? (i := 276) (by decide +kernel)) rfl
theorem zk_278 : (Jvm.Cond.laysFinal "SeenToMove$State" "SeenToMove$State" "cells" "[I") ∈ zTT := zTT_in (List.mem_of_getElem? (i := 278) (by decide +kernel)) rfl
theorem zk_280 : (Jvm.Cond.laysFinal "SeenToMove$State" "SeenToMove$State" "faces" "[I") ∈ zTT := zTT_in (List.mem_of_getElem? (i := 280) (by decide +kernel)) rfl
theorem zk_282 : (Jvm.Cond.laysFinal "SeenToMove$State" "SeenToMove$State" "gone" "[I") ∈ zTT := zTT_in (List.mem_of_getElem? (i := 282) (by decide +kernel)) rfl
theorem zk_284 : (Jvm.Cond.laysFinal "SeenToMove$State" "SeenToMove$State" "posts" "[I") ∈ zTT := zTT_in (List.mem_of_getElem? (i := 284) (by decide +kernel)) rfl
theorem zk_286 : (Jvm.Cond.laysFinal "SeenToMove$State" "SeenToMove$State" "sides" "[I") ∈ zTT := zTT_in (List.mem_of_getElem? (i := 286) (by decide +kernel)) rfl
theorem zk_288 : (Jvm.Cond.laysFinal "SeenToMove$State" "SeenToMove$State" "closed" "[I") ∈ zTT := zTT_in (List.mem_of_getElem? (i := 288) (by decide +kernel)) rfl
theorem zk_290 : (Jvm.Cond.laysFinal "SeenToMove$State" "SeenToMove$State" "owned" "[I") ∈ zTT := zTT_in (List.mem_of_getElem? (i := 290) (by decide +kernel)) rfl
theorem zk_299 : (Jvm.Cond.fieldLink "SeenToMove$Sentence" (21 : Nat) "SeenToMove$Sentence" "size" "I") ∈ zTT := zTT_in (List.mem_of_getElem? (i := 299) (by decide +kernel)) rfl
theorem zk_300 : (Jvm.Cond.fieldLink "SeenToMove" (389 : Nat) "SeenToMove$Sentence" "size" "I") ∈ zTT := zTT_in (List.mem_of_getElem? (i := 300) (by decide +kernel)) rfl
theorem zk_301 : (Jvm.Cond.fieldLink "SeenToMove$Sentence" (9 : Nat) "SeenToMove$Sentence" "steps" "[I") ∈ zTT := zTT_in (List.mem_of_getElem? (i := 301) (by decide +kernel)) rfl
theorem zk_302 : (Jvm.Cond.fieldLink "SeenToMove$Sentence" (15 : Nat) "SeenToMove$Sentence" "signs" "[I") ∈ zTT := zTT_in (List.mem_of_getElem? (i := 302) (by decide +kernel)) rfl
theorem zk_303 : (Jvm.Cond.fieldLink "SeenToMove$Sentence" (18 : Nat) "SeenToMove$Sentence" "numbers" "[I") ∈ zTT := zTT_in (List.mem_of_getElem? (i := 303) (by decide +kernel)) rfl
theorem zk_304 : (Jvm.Cond.lays "SeenToMove$Sentence" "SeenToMove$Sentence" "size" "I") ∈ zTT := zTT_in (List.mem_of_getElem? (i := 304) (by decide +kernel)) rfl
theorem zk_306 : (Jvm.Cond.laysFinal "SeenToMove$Sentence" "SeenToMove$Sentence" "steps" "[I") ∈ zTT := zTT_in (List.mem_of_getElem? (i := 306) (by decide +kernel)) rfl
theorem zk_308 : (Jvm.Cond.laysFinal "SeenToMove$Sentence" "SeenToMove$Sentence" "signs" "[I") ∈ zTT := zTT_in (List.mem_of_getElem? (i := 308) (by decide +kernel)) rfl
theorem zk_310 : (Jvm.Cond.laysFinal "SeenToMove$Sentence" "SeenToMove$Sentence" "numbers" "[I") ∈ zTT := zTT_in (List.mem_of_getElem? (i := 310) (by decide +kernel)) rfl
theorem zk_323 : (Jvm.Cond.fieldLink "SeenToMove$FieldText" (31 : Nat) "SeenToMove$FieldText" "tape" "LSeenToMove$Tape;") ∈ zTT := zTT_in (List.mem_of_getElem? (i := 323) (by decide +kernel)) rfl
theorem zk_324 : (Jvm.Cond.fieldLink "SeenToMove$FieldText" (12 : Nat) "SeenToMove$FieldText" "field" "LSeenToMove$Field;") ∈ zTT := zTT_in (List.mem_of_getElem? (i := 324) (by decide +kernel)) rfl
theorem zk_325 : (Jvm.Cond.fieldLink "SeenToMove" (121 : Nat) "SeenToMove$FieldText" "field" "LSeenToMove$Field;") ∈ zTT := zTT_in (List.mem_of_getElem? (i := 325) (by decide +kernel)) rfl
theorem zk_326 : (Jvm.Cond.fieldLink "SeenToMove$FieldText" (23 : Nat) "SeenToMove$FieldText" "state" "LSeenToMove$State;") ∈ zTT := zTT_in (List.mem_of_getElem? (i := 326) (by decide +kernel)) rfl
theorem zk_327 : (Jvm.Cond.fieldLink "SeenToMove" (125 : Nat) "SeenToMove$FieldText" "state" "LSeenToMove$State;") ∈ zTT := zTT_in (List.mem_of_getElem? (i := 327) (by decide +kernel)) rfl
theorem zk_328 : (Jvm.Cond.fieldLink "SeenToMove$FieldText" (27 : Nat) "SeenToMove$FieldText" "rowOwners" "[I") ∈ zTT := zTT_in (List.mem_of_getElem? (i := 328) (by decide +kernel)) rfl
theorem zk_329 : (Jvm.Cond.fieldLink "SeenToMove$FieldText" (42 : Nat) "SeenToMove$FieldText" "isSized" "Z") ∈ zTT := zTT_in (List.mem_of_getElem? (i := 329) (by decide +kernel)) rfl
theorem zk_330 : (Jvm.Cond.fieldLink "SeenToMove$FieldText" (46 : Nat) "SeenToMove$FieldText" "isPlaced" "Z") ∈ zTT := zTT_in (List.mem_of_getElem? (i := 330) (by decide +kernel)) rfl
theorem zk_331 : (Jvm.Cond.laysFinal "SeenToMove$FieldText" "SeenToMove$FieldText" "tape" "LSeenToMove$Tape;") ∈ zTT := zTT_in (List.mem_of_getElem? (i := 331) (by decide +kernel)) rfl
theorem zk_333 : (Jvm.Cond.laysFinal "SeenToMove$FieldText" "SeenToMove$FieldText" "field" "LSeenToMove$Field;") ∈ zTT := zTT_in (List.mem_of_getElem? (i := 333) (by decide +kernel)) rfl
theorem zk_335 : (Jvm.Cond.laysFinal "SeenToMove$FieldText" "SeenToMove$FieldText" "state" "LSeenToMove$State;") ∈ zTT := zTT_in (List.mem_of_getElem? (i := 335) (by decide +kernel)) rfl
theorem zk_337 : (Jvm.Cond.laysFinal "SeenToMove$FieldText" "SeenToMove$FieldText" "rowOwners" "[I") ∈ zTT := zTT_in (List.mem_of_getElem? (i := 337) (by decide +kernel)) rfl
theorem zk_339 : (Jvm.Cond.lays "SeenToMove$FieldText" "SeenToMove$FieldText" "isSized" "Z") ∈ zTT := zTT_in (List.mem_of_getElem? (i := 339) (by decide +kernel)) rfl
theorem zk_341 : (Jvm.Cond.lays "SeenToMove$FieldText" "SeenToMove$FieldText" "isPlaced" "Z") ∈ zTT := zTT_in (List.mem_of_getElem? (i := 341) (by decide +kernel)) rfl
theorem zk_350 : (Jvm.Cond.fieldLink "SeenToMove$BookText" (21 : Nat) "SeenToMove$BookText" "tape" "LSeenToMove$Tape;") ∈ zTT := zTT_in (List.mem_of_getElem? (i := 350) (by decide +kernel)) rfl
theorem zk_351 : (Jvm.Cond.fieldLink "SeenToMove$BookText" (25 : Nat) "SeenToMove$BookText" "field" "LSeenToMove$Field;") ∈ zTT := zTT_in (List.mem_of_getElem? (i := 351) (by decide +kernel)) rfl
theorem zk_352 : (Jvm.Cond.fieldLink "SeenToMove$BookText" (29 : Nat) "SeenToMove$BookText" "size" "I") ∈ zTT := zTT_in (List.mem_of_getElem? (i := 352) (by decide +kernel)) rfl
theorem zk_353 : (Jvm.Cond.fieldLink "SeenToMove" (368 : Nat) "SeenToMove$BookText" "size" "I") ∈ zTT := zTT_in (List.mem_of_getElem? (i := 353) (by decide +kernel)) rfl
theorem zk_354 : (Jvm.Cond.fieldLink "SeenToMove$BookText" (9 : Nat) "SeenToMove$BookText" "deeds" "[I") ∈ zTT := zTT_in (List.mem_of_getElem? (i := 354) (by decide +kernel)) rfl
theorem zk_355 : (Jvm.Cond.fieldLink "SeenToMove$BookText" (15 : Nat) "SeenToMove$BookText" "whos" "[I") ∈ zTT := zTT_in (List.mem_of_getElem? (i := 355) (by decide +kernel)) rfl
theorem zk_356 : (Jvm.Cond.fieldLink "SeenToMove$BookText" (18 : Nat) "SeenToMove$BookText" "tos" "[I") ∈ zTT := zTT_in (List.mem_of_getElem? (i := 356) (by decide +kernel)) rfl
theorem zk_357 : (Jvm.Cond.laysFinal "SeenToMove$BookText" "SeenToMove$BookText" "tape" "LSeenToMove$Tape;") ∈ zTT := zTT_in (List.mem_of_getElem? (i := 357) (by decide +kernel)) rfl
theorem zk_359 : (Jvm.Cond.laysFinal "SeenToMove$BookText" "SeenToMove$BookText" "field" "LSeenToMove$Field;") ∈ zTT := zTT_in (List.mem_of_getElem? (i := 359) (by decide +kernel)) rfl
theorem zk_361 : (Jvm.Cond.lays "SeenToMove$BookText" "SeenToMove$BookText" "size" "I") ∈ zTT := zTT_in (List.mem_of_getElem? (i := 361) (by decide +kernel)) rfl
theorem zk_363 : (Jvm.Cond.laysFinal "SeenToMove$BookText" "SeenToMove$BookText" "deeds" "[I") ∈ zTT := zTT_in (List.mem_of_getElem? (i := 363) (by decide +kernel)) rfl
theorem zk_365 : (Jvm.Cond.laysFinal "SeenToMove$BookText" "SeenToMove$BookText" "whos" "[I") ∈ zTT := zTT_in (List.mem_of_getElem? (i := 365) (by decide +kernel)) rfl
theorem zk_367 : (Jvm.Cond.laysFinal "SeenToMove$BookText" "SeenToMove$BookText" "tos" "[I") ∈ zTT := zTT_in (List.mem_of_getElem? (i := 367) (by decide +kernel)) rfl
theorem zk_378 : (Jvm.Cond.fieldLink "SeenToMove$SentenceText" (18 : Nat) "SeenToMove$SentenceText" "tape" "LSeenToMove$Tape;") ∈ zTT := zTT_in (List.mem_of_getElem? (i := 378) (by decide +kernel)) rfl
theorem zk_383 : (Jvm.Cond.laysFinal "SeenToMove$SentenceText" "SeenToMove$SentenceText" "tape" "LSeenToMove$Tape;") ∈ zTT := zTT_in (List.mem_of_getElem? (i := 383) (by decide +kernel)) rfl
theorem zk_385 : (Jvm.Cond.laysFinal "SeenToMove$SentenceText" "SeenToMove$SentenceText" "field" "LSeenToMove$Field;") ∈ zTT := zTT_in (List.mem_of_getElem? (i := 385) (by decide +kernel)) rfl
theorem zk_387 : (Jvm.Cond.laysFinal "SeenToMove$SentenceText" "SeenToMove$SentenceText" "sentence" "LSeenToMove$Sentence;") ∈ zTT := zTT_in (List.mem_of_getElem? (i := 387) (by decide +kernel)) rfl
theorem zk_389 : (Jvm.Cond.lays "SeenToMove$SentenceText" "SeenToMove$SentenceText" "ones" "I") ∈ zTT := zTT_in (List.mem_of_getElem? (i := 389) (by decide +kernel)) rfl
theorem zk_401 : (Jvm.Cond.fieldLink "SeenToMove$Undos" (11 : Nat) "SeenToMove$Undos" "ring" "[LSeenToMove$State;") ∈ zTT := zTT_in (List.mem_of_getElem? (i := 401) (by decide +kernel)) rfl
theorem zk_402 : (Jvm.Cond.fieldLink "SeenToMove$Undos" (20 : Nat) "SeenToMove$Undos" "size" "I") ∈ zTT := zTT_in (List.mem_of_getElem? (i := 402) (by decide +kernel)) rfl
theorem zk_403 : (Jvm.Cond.fieldLink "SeenToMove$Undos" (24 : Nat) "SeenToMove$Undos" "next" "I") ∈ zTT := zTT_in (List.mem_of_getElem? (i := 403) (by decide +kernel)) rfl
theorem zk_404 : (Jvm.Cond.laysFinal "SeenToMove$Undos" "SeenToMove$Undos" "ring" "[LSeenToMove$State;") ∈ zTT := zTT_in (List.mem_of_getElem? (i := 404) (by decide +kernel)) rfl
theorem zk_406 : (Jvm.Cond.lays "SeenToMove$Undos" "SeenToMove$Undos" "size" "I") ∈ zTT := zTT_in (List.mem_of_getElem? (i := 406) (by decide +kernel)) rfl
theorem zk_408 : (Jvm.Cond.lays "SeenToMove$Undos" "SeenToMove$Undos" "next" "I") ∈ zTT := zTT_in (List.mem_of_getElem? (i := 408) (by decide +kernel)) rfl
theorem zk_424 : (Jvm.Cond.fieldLink "SeenToMove" (398 : Nat) "SeenToMove$Image" "field" "LSeenToMove$Field;") ∈ zTT := zTT_in (List.mem_of_getElem? (i := 424) (by decide +kernel)) rfl
theorem zk_426 : (Jvm.Cond.fieldLink "SeenToMove" (399 : Nat) "SeenToMove$Image" "state" "LSeenToMove$State;") ∈ zTT := zTT_in (List.mem_of_getElem? (i := 426) (by decide +kernel)) rfl
theorem zk_428 : (Jvm.Cond.fieldLink "SeenToMove" (400 : Nat) "SeenToMove$Image" "sentence" "LSeenToMove$Sentence;") ∈ zTT := zTT_in (List.mem_of_getElem? (i := 428) (by decide +kernel)) rfl
theorem zk_429 : (Jvm.Cond.fieldLink "SeenToMove" (401 : Nat) "SeenToMove$Image" "isKept" "Z") ∈ zTT := zTT_in (List.mem_of_getElem? (i := 429) (by decide +kernel)) rfl
theorem zk_430 : (Jvm.Cond.laysFinal "SeenToMove$Image" "SeenToMove$Image" "field" "LSeenToMove$Field;") ∈ zTT := zTT_in (List.mem_of_getElem? (i := 430) (by decide +kernel)) rfl
theorem zk_432 : (Jvm.Cond.laysFinal "SeenToMove$Image" "SeenToMove$Image" "state" "LSeenToMove$State;") ∈ zTT := zTT_in (List.mem_of_getElem? (i := 432) (by decide +kernel)) rfl
theorem zk_434 : (Jvm.Cond.laysFinal "SeenToMove$Image" "SeenToMove$Image" "sentence" "LSeenToMove$Sentence;") ∈ zTT := zTT_in (List.mem_of_getElem? (i := 434) (by decide +kernel)) rfl
theorem zk_436 : (Jvm.Cond.lays "SeenToMove$Image" "SeenToMove$Image" "isKept" "Z") ∈ zTT := zTT_in (List.mem_of_getElem? (i := 436) (by decide +kernel)) rfl
theorem zk_445 : (Jvm.Cond.fieldLink "SeenToMove$Fits" (9 : Nat) "SeenToMove$Fits" "numbers" "[I") ∈ zTT := zTT_in (List.mem_of_getElem? (i := 445) (by decide +kernel)) rfl
theorem zk_446 : (Jvm.Cond.fieldLink "SeenToMove" (313 : Nat) "SeenToMove$Fits" "numbers" "[I") ∈ zTT := zTT_in (List.mem_of_getElem? (i := 446) (by decide +kernel)) rfl
theorem zk_447 : (Jvm.Cond.fieldLink "SeenToMove$Fits" (58 : Nat) "SeenToMove$Fits" "size" "I") ∈ zTT := zTT_in (List.mem_of_getElem? (i := 447) (by decide +kernel)) rfl
theorem zk_448 : (Jvm.Cond.fieldLink "SeenToMove" (312 : Nat) "SeenToMove$Fits" "size" "I") ∈ zTT := zTT_in (List.mem_of_getElem? (i := 448) (by decide +kernel)) rfl
theorem zk_449 : (Jvm.Cond.fieldLink "SeenToMove$Fits" (15 : Nat) "SeenToMove$Fits" "asked" "I") ∈ zTT := zTT_in (List.mem_of_getElem? (i := 449) (by decide +kernel)) rfl
theorem zk_450 : (Jvm.Cond.fieldLink "SeenToMove" (316 : Nat) "SeenToMove$Fits" "asked" "I") ∈ zTT := zTT_in (List.mem_of_getElem? (i := 450) (by decide +kernel)) rfl
theorem zk_451 : (Jvm.Cond.fieldLink "SeenToMove$Fits" (19 : Nat) "SeenToMove$Fits" "shown" "[I") ∈ zTT := zTT_in (List.mem_of_getElem? (i := 451) (by decide +kernel)) rfl
theorem zk_452 : (Jvm.Cond.fieldLink "SeenToMove$Fits" (30 : Nat) "SeenToMove$Fits" "shownSize" "I") ∈ zTT := zTT_in (List.mem_of_getElem? (i := 452) (by decide +kernel)) rfl
theorem zk_453 : (Jvm.Cond.fieldLink "SeenToMove$Fits" (22 : Nat) "SeenToMove$Fits" "paths" "[I") ∈ zTT := zTT_in (List.mem_of_getElem? (i := 453) (by decide +kernel)) rfl
theorem zk_454 : (Jvm.Cond.laysFinal "SeenToMove$Fits" "SeenToMove$Fits" "numbers" "[I") ∈ zTT := zTT_in (List.mem_of_getElem? (i := 454) (by decide +kernel)) rfl
theorem zk_456 : (Jvm.Cond.lays "SeenToMove$Fits" "SeenToMove$Fits" "size" "I") ∈ zTT := zTT_in (List.mem_of_getElem? (i := 456) (by decide +kernel)) rfl
theorem zk_458 : (Jvm.Cond.lays "SeenToMove$Fits" "SeenToMove$Fits" "asked" "I") ∈ zTT := zTT_in (List.mem_of_getElem? (i := 458) (by decide +kernel)) rfl
theorem zk_460 : (Jvm.Cond.laysFinal "SeenToMove$Fits" "SeenToMove$Fits" "shown" "[I") ∈ zTT := zTT_in (List.mem_of_getElem? (i := 460) (by decide +kernel)) rfl
theorem zk_462 : (Jvm.Cond.lays "SeenToMove$Fits" "SeenToMove$Fits" "shownSize" "I") ∈ zTT := zTT_in (List.mem_of_getElem? (i := 462) (by decide +kernel)) rfl
theorem zk_464 : (Jvm.Cond.laysFinal "SeenToMove$Fits" "SeenToMove$Fits" "paths" "[I") ∈ zTT := zTT_in (List.mem_of_getElem? (i := 464) (by decide +kernel)) rfl
theorem zk_473 : (Jvm.Cond.fieldLink "SeenToMove" (117 : Nat) "SeenToMove$Answers" "fault" "I") ∈ zTT := zTT_in (List.mem_of_getElem? (i := 473) (by decide +kernel)) rfl
theorem zk_475 : (Jvm.Cond.fieldLink "SeenToMove" (281 : Nat) "SeenToMove$Answers" "coverSides" "[I") ∈ zTT := zTT_in (List.mem_of_getElem? (i := 475) (by decide +kernel)) rfl
theorem zk_476 : (Jvm.Cond.fieldLink "SeenToMove" (278 : Nat) "SeenToMove$Answers" "coverLookers" "I") ∈ zTT := zTT_in (List.mem_of_getElem? (i := 476) (by decide +kernel)) rfl
theorem zk_478 : (Jvm.Cond.fieldLink "SeenToMove" (294 : Nat) "SeenToMove$Answers" "fewest" "I") ∈ zTT := zTT_in (List.mem_of_getElem? (i := 478) (by decide +kernel)) rfl
theorem zk_480 : (Jvm.Cond.fieldLink "SeenToMove" (301 : Nat) "SeenToMove$Answers" "blinded" "I") ∈ zTT := zTT_in (List.mem_of_getElem? (i := 480) (by decide +kernel)) rfl
theorem zk_481 : (Jvm.Cond.fieldLink "SeenToMove$Answers" (22 : Nat) "SeenToMove$Answers" "line" "[I") ∈ zTT := zTT_in (List.mem_of_getElem? (i := 481) (by decide +kernel)) rfl
theorem zk_482 : (Jvm.Cond.fieldLink "SeenToMove" (357 : Nat) "SeenToMove$Answers" "line" "[I") ∈ zTT := zTT_in (List.mem_of_getElem? (i := 482) (by decide +kernel)) rfl
theorem zk_483 : (Jvm.Cond.fieldLink "SeenToMove$Answers" (45 : Nat) "SeenToMove$Answers" "lineSize" "I") ∈ zTT := zTT_in (List.mem_of_getElem? (i := 483) (by decide +kernel)) rfl
theorem zk_484 : (Jvm.Cond.fieldLink "SeenToMove" (327 : Nat) "SeenToMove$Answers" "lineSize" "I") ∈ zTT := zTT_in (List.mem_of_getElem? (i := 484) (by decide +kernel)) rfl
theorem zk_485 : (Jvm.Cond.fieldLink "SeenToMove$Answers" (25 : Nat) "SeenToMove$Answers" "told" "[I") ∈ zTT := zTT_in (List.mem_of_getElem? (i := 485) (by decide +kernel)) rfl
theorem zk_486 : (Jvm.Cond.fieldLink "SeenToMove" (381 : Nat) "SeenToMove$Answers" "told" "[I") ∈ zTT := zTT_in (List.mem_of_getElem? (i := 486) (by decide +kernel)) rfl
theorem zk_487 : (Jvm.Cond.fieldLink "SeenToMove$Answers" (28 : Nat) "SeenToMove$Answers" "hasTold" "Z") ∈ zTT := zTT_in (List.mem_of_getElem? (i := 487) (by decide +kernel)) rfl
theorem zk_488 : (Jvm.Cond.fieldLink "SeenToMove" (377 : Nat) "SeenToMove$Answers" "hasTold" "Z") ∈ zTT := zTT_in (List.mem_of_getElem? (i := 488) (by decide +kernel)) rfl
theorem zk_489 : (Jvm.Cond.lays "SeenToMove$Answers" "SeenToMove$Answers" "fault" "I") ∈ zTT := zTT_in (List.mem_of_getElem? (i := 489) (by decide +kernel)) rfl
theorem zk_491 : (Jvm.Cond.laysFinal "SeenToMove$Answers" "SeenToMove$Answers" "coverSides" "[I") ∈ zTT := zTT_in (List.mem_of_getElem? (i := 491) (by decide +kernel)) rfl
theorem zk_493 : (Jvm.Cond.lays "SeenToMove$Answers" "SeenToMove$Answers" "coverLookers" "I") ∈ zTT := zTT_in (List.mem_of_getElem? (i := 493) (by decide +kernel)) rfl
theorem zk_495 : (Jvm.Cond.lays "SeenToMove$Answers" "SeenToMove$Answers" "fewest" "I") ∈ zTT := zTT_in (List.mem_of_getElem? (i := 495) (by decide +kernel)) rfl
theorem zk_497 : (Jvm.Cond.lays "SeenToMove$Answers" "SeenToMove$Answers" "blinded" "I") ∈ zTT := zTT_in (List.mem_of_getElem? (i := 497) (by decide +kernel)) rfl
theorem zk_499 : (Jvm.Cond.laysFinal "SeenToMove$Answers" "SeenToMove$Answers" "line" "[I") ∈ zTT := zTT_in (List.mem_of_getElem? (i := 499) (by decide +kernel)) rfl
theorem zk_501 : (Jvm.Cond.lays "SeenToMove$Answers" "SeenToMove$Answers" "lineSize" "I") ∈ zTT := zTT_in (List.mem_of_getElem? (i := 501) (by decide +kernel)) rfl
theorem zk_503 : (Jvm.Cond.laysFinal "SeenToMove$Answers" "SeenToMove$Answers" "told" "[I") ∈ zTT := zTT_in (List.mem_of_getElem? (i := 503) (by decide +kernel)) rfl
theorem zk_505 : (Jvm.Cond.lays "SeenToMove$Answers" "SeenToMove$Answers" "hasTold" "Z") ∈ zTT := zTT_in (List.mem_of_getElem? (i := 505) (by decide +kernel)) rfl
theorem zk_508 : (Jvm.Cond.fieldLink "SeenToMove" (10 : Nat) "SeenToMove" "tape" "LSeenToMove$Tape;") ∈ zTT := zTT_in (List.mem_of_getElem? (i := 508) (by decide +kernel)) rfl
theorem zk_509 : (Jvm.Cond.fieldLink "SeenToMove" (19 : Nat) "SeenToMove" "field" "LSeenToMove$Field;") ∈ zTT := zTT_in (List.mem_of_getElem? (i := 509) (by decide +kernel)) rfl
theorem zk_510 : (Jvm.Cond.fieldLink "SeenToMove" (28 : Nat) "SeenToMove" "state" "LSeenToMove$State;") ∈ zTT := zTT_in (List.mem_of_getElem? (i := 510) (by decide +kernel)) rfl
theorem zk_511 : (Jvm.Cond.fieldLink "SeenToMove" (32 : Nat) "SeenToMove" "scratch" "LSeenToMove$State;") ∈ zTT := zTT_in (List.mem_of_getElem? (i := 511) (by decide +kernel)) rfl
theorem zk_512 : (Jvm.Cond.fieldLink "SeenToMove" (38 : Nat) "SeenToMove" "sentence" "LSeenToMove$Sentence;") ∈ zTT := zTT_in (List.mem_of_getElem? (i := 512) (by decide +kernel)) rfl
theorem zk_513 : (Jvm.Cond.fieldLink "SeenToMove" (47 : Nat) "SeenToMove" "fieldText" "LSeenToMove$FieldText;") ∈ zTT := zTT_in (List.mem_of_getElem? (i := 513) (by decide +kernel)) rfl
theorem zk_514 : (Jvm.Cond.fieldLink "SeenToMove" (56 : Nat) "SeenToMove" "bookText" "LSeenToMove$BookText;") ∈ zTT := zTT_in (List.mem_of_getElem? (i := 514) (by decide +kernel)) rfl
theorem zk_516 : (Jvm.Cond.fieldLink "SeenToMove" (70 : Nat) "SeenToMove" "undos" "LSeenToMove$Undos;") ∈ zTT := zTT_in (List.mem_of_getElem? (i := 516) (by decide +kernel)) rfl
theorem zk_517 : (Jvm.Cond.fieldLink "SeenToMove" (77 : Nat) "SeenToMove" "firstImage" "LSeenToMove$Image;") ∈ zTT := zTT_in (List.mem_of_getElem? (i := 517) (by decide +kernel)) rfl
theorem zk_518 : (Jvm.Cond.fieldLink "SeenToMove" (81 : Nat) "SeenToMove" "secondImage" "LSeenToMove$Image;") ∈ zTT := zTT_in (List.mem_of_getElem? (i := 518) (by decide +kernel)) rfl
theorem zk_519 : (Jvm.Cond.fieldLink "SeenToMove" (87 : Nat) "SeenToMove" "latestFits" "LSeenToMove$Fits;") ∈ zTT := zTT_in (List.mem_of_getElem? (i := 519) (by decide +kernel)) rfl
theorem zk_520 : (Jvm.Cond.fieldLink "SeenToMove" (94 : Nat) "SeenToMove" "latest" "LSeenToMove$Answers;") ∈ zTT := zTT_in (List.mem_of_getElem? (i := 520) (by decide +kernel)) rfl
theorem zk_521 : (Jvm.Cond.fieldLink "SeenToMove" (98 : Nat) "SeenToMove" "sights" "[I") ∈ zTT := zTT_in (List.mem_of_getElem? (i := 521) (by decide +kernel)) rfl
theorem zk_522 : (Jvm.Cond.laysFinal "SeenToMove" "SeenToMove" "tape" "LSeenToMove$Tape;") ∈ zTT := zTT_in (List.mem_of_getElem? (i := 522) (by decide +kernel)) rfl
theorem zk_524 : (Jvm.Cond.laysFinal "SeenToMove" "SeenToMove" "field" "LSeenToMove$Field;") ∈ zTT := zTT_in (List.mem_of_getElem? (i := 524) (by decide +kernel)) rfl
theorem zk_526 : (Jvm.Cond.laysFinal "SeenToMove" "SeenToMove" "state" "LSeenToMove$State;") ∈ zTT := zTT_in (List.mem_of_getElem? (i := 526) (by decide +kernel)) rfl
theorem zk_528 : (Jvm.Cond.laysFinal "SeenToMove" "SeenToMove" "scratch" "LSeenToMove$State;") ∈ zTT := zTT_in (List.mem_of_getElem? (i := 528) (by decide +kernel)) rfl
theorem zk_530 : (Jvm.Cond.laysFinal "SeenToMove" "SeenToMove" "sentence" "LSeenToMove$Sentence;") ∈ zTT := zTT_in (List.mem_of_getElem? (i := 530) (by decide +kernel)) rfl
theorem zk_532 : (Jvm.Cond.laysFinal "SeenToMove" "SeenToMove" "fieldText" "LSeenToMove$FieldText;") ∈ zTT := zTT_in (List.mem_of_getElem? (i := 532) (by decide +kernel)) rfl
theorem zk_534 : (Jvm.Cond.laysFinal "SeenToMove" "SeenToMove" "bookText" "LSeenToMove$BookText;") ∈ zTT := zTT_in (List.mem_of_getElem? (i := 534) (by decide +kernel)) rfl
theorem zk_536 : (Jvm.Cond.laysFinal "SeenToMove" "SeenToMove" "sentenceText" "LSeenToMove$SentenceText;") ∈ zTT := zTT_in (List.mem_of_getElem? (i := 536) (by decide +kernel)) rfl
theorem zk_538 : (Jvm.Cond.laysFinal "SeenToMove" "SeenToMove" "undos" "LSeenToMove$Undos;") ∈ zTT := zTT_in (List.mem_of_getElem? (i := 538) (by decide +kernel)) rfl
theorem zk_540 : (Jvm.Cond.laysFinal "SeenToMove" "SeenToMove" "firstImage" "LSeenToMove$Image;") ∈ zTT := zTT_in (List.mem_of_getElem? (i := 540) (by decide +kernel)) rfl
theorem zk_542 : (Jvm.Cond.laysFinal "SeenToMove" "SeenToMove" "secondImage" "LSeenToMove$Image;") ∈ zTT := zTT_in (List.mem_of_getElem? (i := 542) (by decide +kernel)) rfl
theorem zk_544 : (Jvm.Cond.laysFinal "SeenToMove" "SeenToMove" "latestFits" "LSeenToMove$Fits;") ∈ zTT := zTT_in (List.mem_of_getElem? (i := 544) (by decide +kernel)) rfl
theorem zk_546 : (Jvm.Cond.laysFinal "SeenToMove" "SeenToMove" "latest" "LSeenToMove$Answers;") ∈ zTT := zTT_in (List.mem_of_getElem? (i := 546) (by decide +kernel)) rfl
theorem zk_548 : (Jvm.Cond.laysFinal "SeenToMove" "SeenToMove" "sights" "[I") ∈ zTT := zTT_in (List.mem_of_getElem? (i := 548) (by decide +kernel)) rfl
theorem zk_552 : (Jvm.Cond.instanceMethod ({ cls := "SeenToMove", name := "feed", desc := "(IIIII)I" } : Jvm.MethodName)) ∈ zTT := zTT_in (List.mem_of_getElem? (i := 552) (by decide +kernel)) rfl
theorem zk_553 : (Jvm.Cond.selects "SeenToMove" ({ cls := "SeenToMove", name := "feed", desc := "(IIIII)I" } : Jvm.MethodName) ({ cls := "SeenToMove", name := "feed", desc := "(IIIII)I" } : Jvm.MethodName)) ∈ zTT := zTT_in (List.mem_of_getElem? (i := 553) (by decide +kernel)) rfl
theorem zk_554 : (Jvm.Cond.code ({ cls := "SeenToMove", name := "feed", desc := "(IIIII)I" } : Jvm.MethodName) prog_1_method_2_code (6 : Nat) (Option.some Jvm.ClassFile.FieldType.int)) ∈ zTT := zTT_in (List.mem_of_getElem? (i := 554) (by decide +kernel)) rfl
theorem zk_555 : (Jvm.Cond.methodLink "SeenToMove" (106 : Nat) ({ cls := "SeenToMove$Tape", name := "add", desc := "(I)V" } : Jvm.MethodName)) ∈ zTT := zTT_in (List.mem_of_getElem? (i := 555) (by decide +kernel)) rfl
theorem zk_556 : (Jvm.Cond.instanceMethod ({ cls := "SeenToMove$Tape", name := "add", desc := "(I)V" } : Jvm.MethodName)) ∈ zTT := zTT_in (List.mem_of_getElem? (i := 556) (by decide +kernel)) rfl
theorem zk_557 : (Jvm.Cond.selects "SeenToMove$Tape" ({ cls := "SeenToMove$Tape", name := "add", desc := "(I)V" } : Jvm.MethodName) ({ cls := "SeenToMove$Tape", name := "add", desc := "(I)V" } : Jvm.MethodName)) ∈ zTT := zTT_in (List.mem_of_getElem? (i := 557) (by decide +kernel)) rfl
theorem zk_558 : (Jvm.Cond.code ({ cls := "SeenToMove$Tape", name := "add", desc := "(I)V" } : Jvm.MethodName) prog_11_method_2_code (3 : Nat) (Option.none : Option Jvm.ClassFile.FieldType)) ∈ zTT := zTT_in (List.mem_of_getElem? (i := 558) (by decide +kernel)) rfl
theorem zk_560 : (Jvm.Cond.instanceMethod ({ cls := "SeenToMove", name := "end", desc := "(I)Z" } : Jvm.MethodName)) ∈ zTT := zTT_in (List.mem_of_getElem? (i := 560) (by decide +kernel)) rfl
theorem zk_561 : (Jvm.Cond.selects "SeenToMove" ({ cls := "SeenToMove", name := "end", desc := "(I)Z" } : Jvm.MethodName) ({ cls := "SeenToMove", name := "end", desc := "(I)Z" } : Jvm.MethodName)) ∈ zTT := zTT_in (List.mem_of_getElem? (i := 561) (by decide +kernel)) rfl
theorem zk_562 : (Jvm.Cond.code ({ cls := "SeenToMove", name := "end", desc := "(I)Z" } : Jvm.MethodName) prog_1_method_3_code (2 : Nat) (Option.some Jvm.ClassFile.FieldType.boolean)) ∈ zTT := zTT_in (List.mem_of_getElem? (i := 562) (by decide +kernel)) rfl
theorem zk_564 : (Jvm.Cond.instanceMethod ({ cls := "SeenToMove", name := "field", desc := "()I" } : Jvm.MethodName)) ∈ zTT := zTT_in (List.mem_of_getElem? (i := 564) (by decide +kernel)) rfl
theorem zk_565 : (Jvm.Cond.selects "SeenToMove" ({ cls := "SeenToMove", name := "field", desc := "()I" } : Jvm.MethodName) ({ cls := "SeenToMove", name := "field", desc := "()I" } : Jvm.MethodName)) ∈ zTT := zTT_in (List.mem_of_getElem? (i := 565) (by decide +kernel)) rfl
theorem zk_566 : (Jvm.Cond.code ({ cls := "SeenToMove", name := "field", desc := "()I" } : Jvm.MethodName) prog_1_method_4_code (2 : Nat) (Option.some Jvm.ClassFile.FieldType.int)) ∈ zTT := zTT_in (List.mem_of_getElem? (i := 566) (by decide +kernel)) rfl
theorem zk_567 : (Jvm.Cond.methodLink "SeenToMove" (110 : Nat) ({ cls := "SeenToMove$FieldText", name := "read", desc := "()I" } : Jvm.MethodName)) ∈ zTT := zTT_in (List.mem_of_getElem? (i := 567) (by decide +kernel)) rfl
theorem zk_568 : (Jvm.Cond.instanceMethod ({ cls := "SeenToMove$FieldText", name := "read", desc := "()I" } : Jvm.MethodName)) ∈ zTT := zTT_in (List.mem_of_getElem? (i := 568) (by decide +kernel)) rfl
theorem zk_569 : (Jvm.Cond.selects "SeenToMove$FieldText" ({ cls := "SeenToMove$FieldText", name := "read", desc := "()I" } : Jvm.MethodName) ({ cls := "SeenToMove$FieldText", name := "read", desc := "()I" } : Jvm.MethodName)) ∈ zTT := zTT_in (List.mem_of_getElem? (i := 569) (by decide +kernel)) rfl
theorem zk_570 : (Jvm.Cond.code ({ cls := "SeenToMove$FieldText", name := "read", desc := "()I" } : Jvm.MethodName) prog_5_method_2_code (3 : Nat) (Option.some Jvm.ClassFile.FieldType.int)) ∈ zTT := zTT_in (List.mem_of_getElem? (i := 570) (by decide +kernel)) rfl
theorem zk_571 : (Jvm.Cond.methodLink "SeenToMove$FieldText" (35 : Nat) ({ cls := "SeenToMove$Field", name := "clear", desc := "()V" } : Jvm.MethodName)) ∈ zTT := zTT_in (List.mem_of_getElem? (i := 571) (by decide +kernel)) rfl
theorem zk_572 : (Jvm.Cond.instanceMethod ({ cls := "SeenToMove$Field", name := "clear", desc := "()V" } : Jvm.MethodName)) ∈ zTT := zTT_in (List.mem_of_getElem? (i := 572) (by decide +kernel)) rfl
theorem zk_573 : (Jvm.Cond.selects "SeenToMove$Field" ({ cls := "SeenToMove$Field", name := "clear", desc := "()V" } : Jvm.MethodName) ({ cls := "SeenToMove$Field", name := "clear", desc := "()V" } : Jvm.MethodName)) ∈ zTT := zTT_in (List.mem_of_getElem? (i := 573) (by decide +kernel)) rfl
theorem zk_574 : (Jvm.Cond.code ({ cls := "SeenToMove$Field", name := "clear", desc := "()V" } : Jvm.MethodName) prog_4_method_2_code (1 : Nat) (Option.none : Option Jvm.ClassFile.FieldType)) ∈ zTT := zTT_in (List.mem_of_getElem? (i := 574) (by decide +kernel)) rfl
theorem zkn_575 : (Jvm.Cond.methodLinkNest "SeenToMove$Field" (59 : Nat) ({ cls := "SeenToMove", name := "fill", desc := "([II)V" } : Jvm.MethodName) "SeenToMove") ∈ zNest := List.mem_filter.mpr ⟨List.mem_of_getElem? (i := 575) (by decide +kernel), rfl⟩
theorem zk_576 : (Jvm.Cond.static ({ cls := "SeenToMove", name := "fill", desc := "([II)V" } : Jvm.MethodName)) ∈ zTT := zTT_in (List.mem_of_getElem? (i := 576) (by decide +kernel)) rfl
theorem zk_577 : (Jvm.Cond.code ({ cls := "SeenToMove", name := "fill", desc := "([II)V" } : Jvm.MethodName) prog_1_method_63_code (3 : Nat) (Option.none : Option Jvm.ClassFile.FieldType)) ∈ zTT := zTT_in (List.mem_of_getElem? (i := 577) (by decide +kernel)) rfl
theorem zkn_578 : (Jvm.Cond.methodLinkNest "SeenToMove$FieldText" (38 : Nat) ({ cls := "SeenToMove", name := "fill", desc := "([II)V" } : Jvm.MethodName) "SeenToMove") ∈ zNest := List.mem_filter.mpr ⟨List.mem_of_getElem? (i := 578) (by decide +kernel), rfl⟩
theorem zk_579 : (Jvm.Cond.methodLink "SeenToMove$FieldText" (49 : Nat) ({ cls := "SeenToMove$Tape", name := "start", desc := "(I)V" } : Jvm.MethodName)) ∈ zTT := zTT_in (List.mem_of_getElem? (i := 579) (by decide +kernel)) rfl
theorem zk_580 : (Jvm.Cond.instanceMethod ({ cls := "SeenToMove$Tape", name := "start", desc := "(I)V" } : Jvm.MethodName)) ∈ zTT := zTT_in (List.mem_of_getElem? (i := 580) (by decide +kernel)) rfl
theorem zk_581 : (Jvm.Cond.selects "SeenToMove$Tape" ({ cls := "SeenToMove$Tape", name := "start", desc := "(I)V" } : Jvm.MethodName) ({ cls := "SeenToMove$Tape", name := "start", desc := "(I)V" } : Jvm.MethodName)) ∈ zTT := zTT_in (List.mem_of_getElem? (i := 581) (by decide +kernel)) rfl
theorem zk_582 : (Jvm.Cond.code ({ cls := "SeenToMove$Tape", name := "start", desc := "(I)V" } : Jvm.MethodName) prog_11_method_4_code (2 : Nat) (Option.none : Option Jvm.ClassFile.FieldType)) ∈ zTT := zTT_in (List.mem_of_getElem? (i := 582) (by decide +kernel)) rfl
theorem zk_583 : (Jvm.Cond.methodLink "SeenToMove$Tape" (54 : Nat) ({ cls := "SeenToMove$Tape", name := "advance", desc := "()V" } : Jvm.MethodName)) ∈ zTT := zTT_in (List.mem_of_getElem? (i := 583) (by decide +kernel)) rfl
theorem zk_584 : (Jvm.Cond.instanceMethod ({ cls := "SeenToMove$Tape", name := "advance", desc := "()V" } : Jvm.MethodName)) ∈ zTT := zTT_in (List.mem_of_getElem? (i := 584) (by decide +kernel)) rfl
theorem zk_585 : (Jvm.Cond.selects "SeenToMove$Tape" ({ cls := "SeenToMove$Tape", name := "advance", desc := "()V" } : Jvm.MethodName) ({ cls := "SeenToMove$Tape", name := "advance", desc := "()V" } : Jvm.MethodName)) ∈ zTT := zTT_in (List.mem_of_getElem? (i := 585) (by decide +kernel)) rfl
theorem zk_586 : (Jvm.Cond.code ({ cls := "SeenToMove$Tape", name := "advance", desc := "()V" } : Jvm.MethodName) prog_11_method_5_code (3 : Nat) (Option.none : Option Jvm.ClassFile.FieldType)) ∈ zTT := zTT_in (List.mem_of_getElem? (i := 586) (by decide +kernel)) rfl
theorem zk_587 : (Jvm.Cond.methodLink "SeenToMove$Tape" (57 : Nat) ({ cls := "java/lang/Math", name := "min", desc := "(II)I" } : Jvm.MethodName)) ∈ zTT := zTT_in (List.mem_of_getElem? (i := 587) (by decide +kernel)) rfl
theorem zk_588 : (Jvm.Cond.static ({ cls := "java/lang/Math", name := "min", desc := "(II)I" } : Jvm.MethodName)) ∈ zTT := zTT_in (List.mem_of_getElem? (i := 588) (by decide +kernel)) rfl
theorem zk_589 : (Jvm.Cond.code ({ cls := "java/lang/Math", name := "min", desc := "(II)I" } : Jvm.MethodName) prog_20_method_69_code (2 : Nat) (Option.some Jvm.ClassFile.FieldType.int)) ∈ zTT := zTT_in (List.mem_of_getElem? (i := 589) (by decide +kernel)) rfl
theorem zk_590 : (Jvm.Cond.methodLink "SeenToMove$Tape" (66 : Nat) ({ cls := "SeenToMove$Tape", name := "signAt", desc := "(I)I" } : Jvm.MethodName)) ∈ zTT := zTT_in (List.mem_of_getElem? (i := 590) (by decide +kernel)) rfl
theorem zk_591 : (Jvm.Cond.instanceMethod ({ cls := "SeenToMove$Tape", name := "signAt", desc := "(I)I" } : Jvm.MethodName)) ∈ zTT := zTT_in (List.mem_of_getElem? (i := 591) (by decide +kernel)) rfl
theorem zk_592 : (Jvm.Cond.selects "SeenToMove$Tape" ({ cls := "SeenToMove$Tape", name := "signAt", desc := "(I)I" } : Jvm.MethodName) ({ cls := "SeenToMove$Tape", name := "signAt", desc := "(I)I" } : Jvm.MethodName)) ∈ zTT := zTT_in (List.mem_of_getElem? (i := 592) (by decide +kernel)) rfl
theorem zk_593 : (Jvm.Cond.code ({ cls := "SeenToMove$Tape", name := "signAt", desc := "(I)I" } : Jvm.MethodName) prog_11_method_3_code (2 : Nat) (Option.some Jvm.ClassFile.FieldType.int)) ∈ zTT := zTT_in (List.mem_of_getElem? (i := 593) (by decide +kernel)) rfl
theorem zk_594 : (Jvm.Cond.methodLink "SeenToMove$Tape" (70 : Nat) ({ cls := "SeenToMove$Tape", name := "isBlank", desc := "(I)Z" } : Jvm.MethodName)) ∈ zTT := zTT_in (List.mem_of_getElem? (i := 594) (by decide +kernel)) rfl
theorem zk_595 : (Jvm.Cond.static ({ cls := "SeenToMove$Tape", name := "isBlank", desc := "(I)Z" } : Jvm.MethodName)) ∈ zTT := zTT_in (List.mem_of_getElem? (i := 595) (by decide +kernel)) rfl
theorem zk_596 : (Jvm.Cond.code ({ cls := "SeenToMove$Tape", name := "isBlank", desc := "(I)Z" } : Jvm.MethodName) prog_11_method_7_code (1 : Nat) (Option.some Jvm.ClassFile.FieldType.boolean)) ∈ zTT := zTT_in (List.mem_of_getElem? (i := 596) (by decide +kernel)) rfl
theorem zk_597 : (Jvm.Cond.methodLink "SeenToMove$Tape" (80 : Nat) ({ cls := "SeenToMove$Tape", name := "isTokenSign", desc := "(I)Z" } : Jvm.MethodName)) ∈ zTT := zTT_in (List.mem_of_getElem? (i := 597) (by decide +kernel)) rfl
theorem zk_598 : (Jvm.Cond.static ({ cls := "SeenToMove$Tape", name := "isTokenSign", desc := "(I)Z" } : Jvm.MethodName)) ∈ zTT := zTT_in (List.mem_of_getElem? (i := 598) (by decide +kernel)) rfl
theorem zk_599 : (Jvm.Cond.code ({ cls := "SeenToMove$Tape", name := "isTokenSign", desc := "(I)Z" } : Jvm.MethodName) prog_11_method_8_code (1 : Nat) (Option.some Jvm.ClassFile.FieldType.boolean)) ∈ zTT := zTT_in (List.mem_of_getElem? (i := 599) (by decide +kernel)) rfl
theorem zk_600 : (Jvm.Cond.methodLink "SeenToMove$Tape" (83 : Nat) ({ cls := "SeenToMove$Tape", name := "readRun", desc := "()I" } : Jvm.MethodName)) ∈ zTT := zTT_in (List.mem_of_getElem? (i := 600) (by decide +kernel)) rfl
theorem zk_602 : (Jvm.Cond.instanceMethod ({ cls := "SeenToMove$Tape", name := "readRun", desc := "()I" } : Jvm.MethodName)) ∈ zTT := zTT_in (List.mem_of_getElem? (i := 602) (by decide +kernel)) rfl
theorem zk_603 : (Jvm.Cond.code ({ cls := "SeenToMove$Tape", name := "readRun", desc := "()I" } : Jvm.MethodName) prog_11_method_6_code (6 : Nat) (Option.some Jvm.ClassFile.FieldType.int)) ∈ zTT := zTT_in (List.mem_of_getElem? (i := 603) (by decide +kernel)) rfl
theorem zkn_604 : (Jvm.Cond.methodLinkNest "SeenToMove$Tape" (90 : Nat) ({ cls := "SeenToMove", name := "placeOf", desc := "([JIJ)I" } : Jvm.MethodName) "SeenToMove") ∈ zNest := List.mem_filter.mpr ⟨List.mem_of_getElem? (i := 604) (by decide +kernel), rfl⟩
theorem zk_605 : (Jvm.Cond.static ({ cls := "SeenToMove", name := "placeOf", desc := "([JIJ)I" } : Jvm.MethodName)) ∈ zTT := zTT_in (List.mem_of_getElem? (i := 605) (by decide +kernel)) rfl
theorem zk_606 : (Jvm.Cond.code ({ cls := "SeenToMove", name := "placeOf", desc := "([JIJ)I" } : Jvm.MethodName) prog_1_method_62_code (5 : Nat) (Option.some Jvm.ClassFile.FieldType.int)) ∈ zTT := zTT_in (List.mem_of_getElem? (i := 606) (by decide +kernel)) rfl
theorem zk_607 : (Jvm.Cond.methodLink "SeenToMove$FieldText" (55 : Nat) ({ cls := "SeenToMove$Tape", name := "goesOn", desc := "()Z" } : Jvm.MethodName)) ∈ zTT := zTT_in (List.mem_of_getElem? (i := 607) (by decide +kernel)) rfl
theorem zk_608 : (Jvm.Cond.instanceMethod ({ cls := "SeenToMove$Tape", name := "goesOn", desc := "()Z" } : Jvm.MethodName)) ∈ zTT := zTT_in (List.mem_of_getElem? (i := 608) (by decide +kernel)) rfl
theorem zk_609 : (Jvm.Cond.selects "SeenToMove$Tape" ({ cls := "SeenToMove$Tape", name := "goesOn", desc := "()Z" } : Jvm.MethodName) ({ cls := "SeenToMove$Tape", name := "goesOn", desc := "()Z" } : Jvm.MethodName)) ∈ zTT := zTT_in (List.mem_of_getElem? (i := 609) (by decide +kernel)) rfl
theorem zk_610 : (Jvm.Cond.code ({ cls := "SeenToMove$Tape", name := "goesOn", desc := "()Z" } : Jvm.MethodName) prog_11_method_11_code (1 : Nat) (Option.some Jvm.ClassFile.FieldType.boolean)) ∈ zTT := zTT_in (List.mem_of_getElem? (i := 610) (by decide +kernel)) rfl
theorem zk_611 : (Jvm.Cond.methodLink "SeenToMove$Tape" (98 : Nat) ({ cls := "SeenToMove$Tape", name := "fail", desc := "(I)V" } : Jvm.MethodName)) ∈ zTT := zTT_in (List.mem_of_getElem? (i := 611) (by decide +kernel)) rfl
theorem zk_612 : (Jvm.Cond.instanceMethod ({ cls := "SeenToMove$Tape", name := "fail", desc := "(I)V" } : Jvm.MethodName)) ∈ zTT := zTT_in (List.mem_of_getElem? (i := 612) (by decide +kernel)) rfl
theorem zk_613 : (Jvm.Cond.selects "SeenToMove$Tape" ({ cls := "SeenToMove$Tape", name := "fail", desc := "(I)V" } : Jvm.MethodName) ({ cls := "SeenToMove$Tape", name := "fail", desc := "(I)V" } : Jvm.MethodName)) ∈ zTT := zTT_in (List.mem_of_getElem? (i := 613) (by decide +kernel)) rfl
theorem zk_614 : (Jvm.Cond.code ({ cls := "SeenToMove$Tape", name := "fail", desc := "(I)V" } : Jvm.MethodName) prog_11_method_9_code (2 : Nat) (Option.none : Option Jvm.ClassFile.FieldType)) ∈ zTT := zTT_in (List.mem_of_getElem? (i := 614) (by decide +kernel)) rfl
theorem zk_615 : (Jvm.Cond.methodLink "SeenToMove$Tape" (94 : Nat) ({ cls := "SeenToMove$Tape", name := "failAt", desc := "(II)V" } : Jvm.MethodName)) ∈ zTT := zTT_in (List.mem_of_getElem? (i := 615) (by decide +kernel)) rfl
theorem zk_616 : (Jvm.Cond.instanceMethod ({ cls := "SeenToMove$Tape", name := "failAt", desc := "(II)V" } : Jvm.MethodName)) ∈ zTT := zTT_in (List.mem_of_getElem? (i := 616) (by decide +kernel)) rfl
theorem zk_617 : (Jvm.Cond.selects "SeenToMove$Tape" ({ cls := "SeenToMove$Tape", name := "failAt", desc := "(II)V" } : Jvm.MethodName) ({ cls := "SeenToMove$Tape", name := "failAt", desc := "(II)V" } : Jvm.MethodName)) ∈ zTT := zTT_in (List.mem_of_getElem? (i := 617) (by decide +kernel)) rfl
theorem zk_618 : (Jvm.Cond.code ({ cls := "SeenToMove$Tape", name := "failAt", desc := "(II)V" } : Jvm.MethodName) prog_11_method_10_code (3 : Nat) (Option.none : Option Jvm.ClassFile.FieldType)) ∈ zTT := zTT_in (List.mem_of_getElem? (i := 618) (by decide +kernel)) rfl
theorem zk_619 : (Jvm.Cond.methodLink "SeenToMove$FieldText" (66 : Nat) ({ cls := "SeenToMove$FieldText", name := "readSize", desc := "()V" } : Jvm.MethodName)) ∈ zTT := zTT_in (List.mem_of_getElem? (i := 619) (by decide +kernel)) rfl
theorem zk_621 : (Jvm.Cond.instanceMethod ({ cls := "SeenToMove$FieldText", name := "readSize", desc := "()V" } : Jvm.MethodName)) ∈ zTT := zTT_in (List.mem_of_getElem? (i := 621) (by decide +kernel)) rfl
theorem zk_622 : (Jvm.Cond.code ({ cls := "SeenToMove$FieldText", name := "readSize", desc := "()V" } : Jvm.MethodName) prog_5_method_3_code (1 : Nat) (Option.none : Option Jvm.ClassFile.FieldType)) ∈ zTT := zTT_in (List.mem_of_getElem? (i := 622) (by decide +kernel)) rfl
theorem zk_623 : (Jvm.Cond.methodLink "SeenToMove$FieldText" (84 : Nat) ({ cls := "SeenToMove$Tape", name := "fail", desc := "(I)V" } : Jvm.MethodName)) ∈ zTT := zTT_in (List.mem_of_getElem? (i := 623) (by decide +kernel)) rfl
theorem zk_624 : (Jvm.Cond.methodLink "SeenToMove$FieldText" (97 : Nat) ({ cls := "SeenToMove$Tape", name := "advance", desc := "()V" } : Jvm.MethodName)) ∈ zTT := zTT_in (List.mem_of_getElem? (i := 624) (by decide +kernel)) rfl
theorem zk_625 : (Jvm.Cond.methodLink "SeenToMove$FieldText" (100 : Nat) ({ cls := "SeenToMove$Tape", name := "needNumber", desc := "(II)I" } : Jvm.MethodName)) ∈ zTT := zTT_in (List.mem_of_getElem? (i := 625) (by decide +kernel)) rfl
theorem zk_626 : (Jvm.Cond.instanceMethod ({ cls := "SeenToMove$Tape", name := "needNumber", desc := "(II)I" } : Jvm.MethodName)) ∈ zTT := zTT_in (List.mem_of_getElem? (i := 626) (by decide +kernel)) rfl
theorem zk_627 : (Jvm.Cond.selects "SeenToMove$Tape" ({ cls := "SeenToMove$Tape", name := "needNumber", desc := "(II)I" } : Jvm.MethodName) ({ cls := "SeenToMove$Tape", name := "needNumber", desc := "(II)I" } : Jvm.MethodName)) ∈ zTT := zTT_in (List.mem_of_getElem? (i := 627) (by decide +kernel)) rfl
theorem zk_628 : (Jvm.Cond.code ({ cls := "SeenToMove$Tape", name := "needNumber", desc := "(II)I" } : Jvm.MethodName) prog_11_method_16_code (4 : Nat) (Option.some Jvm.ClassFile.FieldType.int)) ∈ zTT := zTT_in (List.mem_of_getElem? (i := 628) (by decide +kernel)) rfl
theorem zk_629 : (Jvm.Cond.methodLink "SeenToMove$FieldText" (69 : Nat) ({ cls := "SeenToMove$FieldText", name := "readHedge", desc := "()V" } : Jvm.MethodName)) ∈ zTT := zTT_in (List.mem_of_getElem? (i := 629) (by decide +kernel)) rfl
theorem zk_631 : (Jvm.Cond.instanceMethod ({ cls := "SeenToMove$FieldText", name := "readHedge", desc := "()V" } : Jvm.MethodName)) ∈ zTT := zTT_in (List.mem_of_getElem? (i := 631) (by decide +kernel)) rfl
theorem zk_632 : (Jvm.Cond.code ({ cls := "SeenToMove$FieldText", name := "readHedge", desc := "()V" } : Jvm.MethodName) prog_5_method_4_code (1 : Nat) (Option.none : Option Jvm.ClassFile.FieldType)) ∈ zTT := zTT_in (List.mem_of_getElem? (i := 632) (by decide +kernel)) rfl
theorem zk_633 : (Jvm.Cond.methodLink "SeenToMove$FieldText" (113 : Nat) ({ cls := "SeenToMove$FieldText", name := "readCell", desc := "()I" } : Jvm.MethodName)) ∈ zTT := zTT_in (List.mem_of_getElem? (i := 633) (by decide +kernel)) rfl
theorem zk_635 : (Jvm.Cond.instanceMethod ({ cls := "SeenToMove$FieldText", name := "readCell", desc := "()I" } : Jvm.MethodName)) ∈ zTT := zTT_in (List.mem_of_getElem? (i := 635) (by decide +kernel)) rfl
theorem zk_636 : (Jvm.Cond.code ({ cls := "SeenToMove$FieldText", name := "readCell", desc := "()I" } : Jvm.MethodName) prog_5_method_5_code (4 : Nat) (Option.some Jvm.ClassFile.FieldType.int)) ∈ zTT := zTT_in (List.mem_of_getElem? (i := 636) (by decide +kernel)) rfl
theorem zk_637 : (Jvm.Cond.methodLink "SeenToMove$FieldText" (121 : Nat) ({ cls := "SeenToMove$Field", name := "hasHedge", desc := "(I)Z" } : Jvm.MethodName)) ∈ zTT := zTT_in (List.mem_of_getElem? (i := 637) (by decide +kernel)) rfl
theorem zk_638 : (Jvm.Cond.instanceMethod ({ cls := "SeenToMove$Field", name := "hasHedge", desc := "(I)Z" } : Jvm.MethodName)) ∈ zTT := zTT_in (List.mem_of_getElem? (i := 638) (by decide +kernel)) rfl
theorem zk_639 : (Jvm.Cond.selects "SeenToMove$Field" ({ cls := "SeenToMove$Field", name := "hasHedge", desc := "(I)Z" } : Jvm.MethodName) ({ cls := "SeenToMove$Field", name := "hasHedge", desc := "(I)Z" } : Jvm.MethodName)) ∈ zTT := zTT_in (List.mem_of_getElem? (i := 639) (by decide +kernel)) rfl
theorem zk_640 : (Jvm.Cond.code ({ cls := "SeenToMove$Field", name := "hasHedge", desc := "(I)Z" } : Jvm.MethodName) prog_4_method_9_code (2 : Nat) (Option.some Jvm.ClassFile.FieldType.boolean)) ∈ zTT := zTT_in (List.mem_of_getElem? (i := 640) (by decide +kernel)) rfl
theorem zk_641 : (Jvm.Cond.methodLink "SeenToMove$FieldText" (125 : Nat) ({ cls := "SeenToMove$State", name := "hasSomebody", desc := "(I)Z" } : Jvm.MethodName)) ∈ zTT := zTT_in (List.mem_of_getElem? (i := 641) (by decide +kernel)) rfl
theorem zk_642 : (Jvm.Cond.instanceMethod ({ cls := "SeenToMove$State", name := "hasSomebody", desc := "(I)Z" } : Jvm.MethodName)) ∈ zTT := zTT_in (List.mem_of_getElem? (i := 642) (by decide +kernel)) rfl
theorem zk_643 : (Jvm.Cond.selects "SeenToMove$State" ({ cls := "SeenToMove$State", name := "hasSomebody", desc := "(I)Z" } : Jvm.MethodName) ({ cls := "SeenToMove$State", name := "hasSomebody", desc := "(I)Z" } : Jvm.MethodName)) ∈ zTT := zTT_in (List.mem_of_getElem? (i := 643) (by decide +kernel)) rfl
theorem zk_644 : (Jvm.Cond.code ({ cls := "SeenToMove$State", name := "hasSomebody", desc := "(I)Z" } : Jvm.MethodName) prog_10_method_6_code (2 : Nat) (Option.some Jvm.ClassFile.FieldType.boolean)) ∈ zTT := zTT_in (List.mem_of_getElem? (i := 644) (by decide +kernel)) rfl
theorem zk_645 : (Jvm.Cond.methodLink "SeenToMove$State" (87 : Nat) ({ cls := "SeenToMove$State", name := "figureIn", desc := "(I)I" } : Jvm.MethodName)) ∈ zTT := zTT_in (List.mem_of_getElem? (i := 645) (by decide +kernel)) rfl
theorem zk_646 : (Jvm.Cond.instanceMethod ({ cls := "SeenToMove$State", name := "figureIn", desc := "(I)I" } : Jvm.MethodName)) ∈ zTT := zTT_in (List.mem_of_getElem? (i := 646) (by decide +kernel)) rfl
theorem zk_647 : (Jvm.Cond.selects "SeenToMove$State" ({ cls := "SeenToMove$State", name := "figureIn", desc := "(I)I" } : Jvm.MethodName) ({ cls := "SeenToMove$State", name := "figureIn", desc := "(I)I" } : Jvm.MethodName)) ∈ zTT := zTT_in (List.mem_of_getElem? (i := 647) (by decide +kernel)) rfl
theorem zk_648 : (Jvm.Cond.code ({ cls := "SeenToMove$State", name := "figureIn", desc := "(I)I" } : Jvm.MethodName) prog_10_method_4_code (3 : Nat) (Option.some Jvm.ClassFile.FieldType.int)) ∈ zTT := zTT_in (List.mem_of_getElem? (i := 648) (by decide +kernel)) rfl
theorem zk_649 : (Jvm.Cond.methodLink "SeenToMove$State" (90 : Nat) ({ cls := "SeenToMove$State", name := "lookerIn", desc := "(I)I" } : Jvm.MethodName)) ∈ zTT := zTT_in (List.mem_of_getElem? (i := 649) (by decide +kernel)) rfl
theorem zk_650 : (Jvm.Cond.instanceMethod ({ cls := "SeenToMove$State", name := "lookerIn", desc := "(I)I" } : Jvm.MethodName)) ∈ zTT := zTT_in (List.mem_of_getElem? (i := 650) (by decide +kernel)) rfl
theorem zk_651 : (Jvm.Cond.selects "SeenToMove$State" ({ cls := "SeenToMove$State", name := "lookerIn", desc := "(I)I" } : Jvm.MethodName) ({ cls := "SeenToMove$State", name := "lookerIn", desc := "(I)I" } : Jvm.MethodName)) ∈ zTT := zTT_in (List.mem_of_getElem? (i := 651) (by decide +kernel)) rfl
theorem zk_652 : (Jvm.Cond.code ({ cls := "SeenToMove$State", name := "lookerIn", desc := "(I)I" } : Jvm.MethodName) prog_10_method_5_code (3 : Nat) (Option.some Jvm.ClassFile.FieldType.int)) ∈ zTT := zTT_in (List.mem_of_getElem? (i := 652) (by decide +kernel)) rfl
theorem zk_653 : (Jvm.Cond.methodLink "SeenToMove$FieldText" (131 : Nat) ({ cls := "SeenToMove$Tape", name := "failAt", desc := "(II)V" } : Jvm.MethodName)) ∈ zTT := zTT_in (List.mem_of_getElem? (i := 653) (by decide +kernel)) rfl
theorem zkn_654 : (Jvm.Cond.methodLinkNest "SeenToMove$FieldText" (117 : Nat) ({ cls := "SeenToMove", name := "put", desc := "([III)V" } : Jvm.MethodName) "SeenToMove") ∈ zNest := List.mem_filter.mpr ⟨List.mem_of_getElem? (i := 654) (by decide +kernel), rfl⟩
theorem zk_655 : (Jvm.Cond.static ({ cls := "SeenToMove", name := "put", desc := "([III)V" } : Jvm.MethodName)) ∈ zTT := zTT_in (List.mem_of_getElem? (i := 655) (by decide +kernel)) rfl
theorem zk_656 : (Jvm.Cond.code ({ cls := "SeenToMove", name := "put", desc := "([III)V" } : Jvm.MethodName) prog_1_method_59_code (3 : Nat) (Option.none : Option Jvm.ClassFile.FieldType)) ∈ zTT := zTT_in (List.mem_of_getElem? (i := 656) (by decide +kernel)) rfl
theorem zk_657 : (Jvm.Cond.methodLink "SeenToMove$FieldText" (72 : Nat) ({ cls := "SeenToMove$FieldText", name := "readOwner", desc := "()V" } : Jvm.MethodName)) ∈ zTT := zTT_in (List.mem_of_getElem? (i := 657) (by decide +kernel)) rfl
theorem zk_659 : (Jvm.Cond.instanceMethod ({ cls := "SeenToMove$FieldText", name := "readOwner", desc := "()V" } : Jvm.MethodName)) ∈ zTT := zTT_in (List.mem_of_getElem? (i := 659) (by decide +kernel)) rfl
theorem zk_660 : (Jvm.Cond.code ({ cls := "SeenToMove$FieldText", name := "readOwner", desc := "()V" } : Jvm.MethodName) prog_5_method_7_code (1 : Nat) (Option.none : Option Jvm.ClassFile.FieldType)) ∈ zTT := zTT_in (List.mem_of_getElem? (i := 660) (by decide +kernel)) rfl
theorem zk_661 : (Jvm.Cond.methodLink "SeenToMove$FieldText" (150 : Nat) ({ cls := "SeenToMove$FieldText", name := "readNewName", desc := "()J" } : Jvm.MethodName)) ∈ zTT := zTT_in (List.mem_of_getElem? (i := 661) (by decide +kernel)) rfl
theorem zk_663 : (Jvm.Cond.instanceMethod ({ cls := "SeenToMove$FieldText", name := "readNewName", desc := "()J" } : Jvm.MethodName)) ∈ zTT := zTT_in (List.mem_of_getElem? (i := 663) (by decide +kernel)) rfl
theorem zk_664 : (Jvm.Cond.code ({ cls := "SeenToMove$FieldText", name := "readNewName", desc := "()J" } : Jvm.MethodName) prog_5_method_6_code (3 : Nat) (Option.some Jvm.ClassFile.FieldType.long)) ∈ zTT := zTT_in (List.mem_of_getElem? (i := 664) (by decide +kernel)) rfl
theorem zk_665 : (Jvm.Cond.methodLink "SeenToMove$FieldText" (139 : Nat) ({ cls := "SeenToMove$Field", name := "isTold", desc := "(J)Z" } : Jvm.MethodName)) ∈ zTT := zTT_in (List.mem_of_getElem? (i := 665) (by decide +kernel)) rfl
theorem zk_666 : (Jvm.Cond.instanceMethod ({ cls := "SeenToMove$Field", name := "isTold", desc := "(J)Z" } : Jvm.MethodName)) ∈ zTT := zTT_in (List.mem_of_getElem? (i := 666) (by decide +kernel)) rfl
theorem zk_667 : (Jvm.Cond.selects "SeenToMove$Field" ({ cls := "SeenToMove$Field", name := "isTold", desc := "(J)Z" } : Jvm.MethodName) ({ cls := "SeenToMove$Field", name := "isTold", desc := "(J)Z" } : Jvm.MethodName)) ∈ zTT := zTT_in (List.mem_of_getElem? (i := 667) (by decide +kernel)) rfl
theorem zk_668 : (Jvm.Cond.code ({ cls := "SeenToMove$Field", name := "isTold", desc := "(J)Z" } : Jvm.MethodName) prog_4_method_7_code (3 : Nat) (Option.some Jvm.ClassFile.FieldType.boolean)) ∈ zTT := zTT_in (List.mem_of_getElem? (i := 668) (by decide +kernel)) rfl
theorem zkn_669 : (Jvm.Cond.methodLinkNest "SeenToMove$Field" (71 : Nat) ({ cls := "SeenToMove", name := "placeOf", desc := "([JIJ)I" } : Jvm.MethodName) "SeenToMove") ∈ zNest := List.mem_filter.mpr ⟨List.mem_of_getElem? (i := 669) (by decide +kernel), rfl⟩
theorem zkn_670 : (Jvm.Cond.methodLinkNest "SeenToMove$FieldText" (154 : Nat) ({ cls := "SeenToMove", name := "putName", desc := "([JIJ)V" } : Jvm.MethodName) "SeenToMove") ∈ zNest := List.mem_filter.mpr ⟨List.mem_of_getElem? (i := 670) (by decide +kernel), rfl⟩
theorem zk_671 : (Jvm.Cond.methodLink "SeenToMove$FieldText" (75 : Nat) ({ cls := "SeenToMove$FieldText", name := "readLand", desc := "()V" } : Jvm.MethodName)) ∈ zTT := zTT_in (List.mem_of_getElem? (i := 671) (by decide +kernel)) rfl
theorem zk_673 : (Jvm.Cond.instanceMethod ({ cls := "SeenToMove$FieldText", name := "readLand", desc := "()V" } : Jvm.MethodName)) ∈ zTT := zTT_in (List.mem_of_getElem? (i := 673) (by decide +kernel)) rfl
theorem zk_674 : (Jvm.Cond.code ({ cls := "SeenToMove$FieldText", name := "readLand", desc := "()V" } : Jvm.MethodName) prog_5_method_8_code (3 : Nat) (Option.none : Option Jvm.ClassFile.FieldType)) ∈ zTT := zTT_in (List.mem_of_getElem? (i := 674) (by decide +kernel)) rfl
theorem zk_675 : (Jvm.Cond.methodLink "SeenToMove$FieldText" (158 : Nat) ({ cls := "SeenToMove$Tape", name := "needNameOf", desc := "([JI)I" } : Jvm.MethodName)) ∈ zTT := zTT_in (List.mem_of_getElem? (i := 675) (by decide +kernel)) rfl
theorem zk_676 : (Jvm.Cond.instanceMethod ({ cls := "SeenToMove$Tape", name := "needNameOf", desc := "([JI)I" } : Jvm.MethodName)) ∈ zTT := zTT_in (List.mem_of_getElem? (i := 676) (by decide +kernel)) rfl
theorem zk_677 : (Jvm.Cond.selects "SeenToMove$Tape" ({ cls := "SeenToMove$Tape", name := "needNameOf", desc := "([JI)I" } : Jvm.MethodName) ({ cls := "SeenToMove$Tape", name := "needNameOf", desc := "([JI)I" } : Jvm.MethodName)) ∈ zTT := zTT_in (List.mem_of_getElem? (i := 677) (by decide +kernel)) rfl
theorem zk_678 : (Jvm.Cond.code ({ cls := "SeenToMove$Tape", name := "needNameOf", desc := "([JI)I" } : Jvm.MethodName) prog_11_method_18_code (4 : Nat) (Option.some Jvm.ClassFile.FieldType.int)) ∈ zTT := zTT_in (List.mem_of_getElem? (i := 678) (by decide +kernel)) rfl
theorem zkn_679 : (Jvm.Cond.methodLinkNest "SeenToMove$FieldText" (162 : Nat) ({ cls := "SeenToMove", name := "at", desc := "([II)I" } : Jvm.MethodName) "SeenToMove") ∈ zNest := List.mem_filter.mpr ⟨List.mem_of_getElem? (i := 679) (by decide +kernel), rfl⟩
theorem zk_680 : (Jvm.Cond.static ({ cls := "SeenToMove", name := "at", desc := "([II)I" } : Jvm.MethodName)) ∈ zTT := zTT_in (List.mem_of_getElem? (i := 680) (by decide +kernel)) rfl
theorem zk_681 : (Jvm.Cond.code ({ cls := "SeenToMove", name := "at", desc := "([II)I" } : Jvm.MethodName) prog_1_method_58_code (2 : Nat) (Option.some Jvm.ClassFile.FieldType.int)) ∈ zTT := zTT_in (List.mem_of_getElem? (i := 681) (by decide +kernel)) rfl
theorem zk_682 : (Jvm.Cond.methodLink "SeenToMove$FieldText" (78 : Nat) ({ cls := "SeenToMove$FieldText", name := "readFigure", desc := "()V" } : Jvm.MethodName)) ∈ zTT := zTT_in (List.mem_of_getElem? (i := 682) (by decide +kernel)) rfl
theorem zk_684 : (Jvm.Cond.instanceMethod ({ cls := "SeenToMove$FieldText", name := "readFigure", desc := "()V" } : Jvm.MethodName)) ∈ zTT := zTT_in (List.mem_of_getElem? (i := 684) (by decide +kernel)) rfl
theorem zk_685 : (Jvm.Cond.code ({ cls := "SeenToMove$FieldText", name := "readFigure", desc := "()V" } : Jvm.MethodName) prog_5_method_9_code (2 : Nat) (Option.none : Option Jvm.ClassFile.FieldType)) ∈ zTT := zTT_in (List.mem_of_getElem? (i := 685) (by decide +kernel)) rfl
theorem zk_686 : (Jvm.Cond.methodLink "SeenToMove$FieldText" (181 : Nat) ({ cls := "SeenToMove$Tape", name := "needSide", desc := "()I" } : Jvm.MethodName)) ∈ zTT := zTT_in (List.mem_of_getElem? (i := 686) (by decide +kernel)) rfl
theorem zk_687 : (Jvm.Cond.instanceMethod ({ cls := "SeenToMove$Tape", name := "needSide", desc := "()I" } : Jvm.MethodName)) ∈ zTT := zTT_in (List.mem_of_getElem? (i := 687) (by decide +kernel)) rfl
theorem zk_688 : (Jvm.Cond.selects "SeenToMove$Tape" ({ cls := "SeenToMove$Tape", name := "needSide", desc := "()I" } : Jvm.MethodName) ({ cls := "SeenToMove$Tape", name := "needSide", desc := "()I" } : Jvm.MethodName)) ∈ zTT := zTT_in (List.mem_of_getElem? (i := 688) (by decide +kernel)) rfl
theorem zk_689 : (Jvm.Cond.code ({ cls := "SeenToMove$Tape", name := "needSide", desc := "()I" } : Jvm.MethodName) prog_11_method_17_code (2 : Nat) (Option.some Jvm.ClassFile.FieldType.int)) ∈ zTT := zTT_in (List.mem_of_getElem? (i := 689) (by decide +kernel)) rfl
theorem zkn_690 : (Jvm.Cond.methodLinkNest "SeenToMove$Tape" (108 : Nat) ({ cls := "SeenToMove", name := "isSide", desc := "(I)Z" } : Jvm.MethodName) "SeenToMove") ∈ zNest := List.mem_filter.mpr ⟨List.mem_of_getElem? (i := 690) (by decide +kernel), rfl⟩
theorem zk_691 : (Jvm.Cond.static ({ cls := "SeenToMove", name := "isSide", desc := "(I)Z" } : Jvm.MethodName)) ∈ zTT := zTT_in (List.mem_of_getElem? (i := 691) (by decide +kernel)) rfl
theorem zk_692 : (Jvm.Cond.code ({ cls := "SeenToMove", name := "isSide", desc := "(I)Z" } : Jvm.MethodName) prog_1_method_56_code (1 : Nat) (Option.some Jvm.ClassFile.FieldType.boolean)) ∈ zTT := zTT_in (List.mem_of_getElem? (i := 692) (by decide +kernel)) rfl
theorem zk_693 : (Jvm.Cond.methodLink "SeenToMove$FieldText" (81 : Nat) ({ cls := "SeenToMove$FieldText", name := "readLooker", desc := "()V" } : Jvm.MethodName)) ∈ zTT := zTT_in (List.mem_of_getElem? (i := 693) (by decide +kernel)) rfl
theorem zk_695 : (Jvm.Cond.instanceMethod ({ cls := "SeenToMove$FieldText", name := "readLooker", desc := "()V" } : Jvm.MethodName)) ∈ zTT := zTT_in (List.mem_of_getElem? (i := 695) (by decide +kernel)) rfl
theorem zk_696 : (Jvm.Cond.code ({ cls := "SeenToMove$FieldText", name := "readLooker", desc := "()V" } : Jvm.MethodName) prog_5_method_10_code (3 : Nat) (Option.none : Option Jvm.ClassFile.FieldType)) ∈ zTT := zTT_in (List.mem_of_getElem? (i := 696) (by decide +kernel)) rfl
theorem zk_697 : (Jvm.Cond.methodLink "SeenToMove$FieldText" (87 : Nat) ({ cls := "SeenToMove$Tape", name := "needSign", desc := "(I)V" } : Jvm.MethodName)) ∈ zTT := zTT_in (List.mem_of_getElem? (i := 697) (by decide +kernel)) rfl
theorem zk_698 : (Jvm.Cond.instanceMethod ({ cls := "SeenToMove$Tape", name := "needSign", desc := "(I)V" } : Jvm.MethodName)) ∈ zTT := zTT_in (List.mem_of_getElem? (i := 698) (by decide +kernel)) rfl
theorem zk_699 : (Jvm.Cond.selects "SeenToMove$Tape" ({ cls := "SeenToMove$Tape", name := "needSign", desc := "(I)V" } : Jvm.MethodName) ({ cls := "SeenToMove$Tape", name := "needSign", desc := "(I)V" } : Jvm.MethodName)) ∈ zTT := zTT_in (List.mem_of_getElem? (i := 699) (by decide +kernel)) rfl
theorem zk_700 : (Jvm.Cond.code ({ cls := "SeenToMove$Tape", name := "needSign", desc := "(I)V" } : Jvm.MethodName) prog_11_method_15_code (2 : Nat) (Option.none : Option Jvm.ClassFile.FieldType)) ∈ zTT := zTT_in (List.mem_of_getElem? (i := 700) (by decide +kernel)) rfl
theorem zk_701 : (Jvm.Cond.methodLink "SeenToMove$Tape" (105 : Nat) ({ cls := "SeenToMove$Tape", name := "isSign", desc := "(I)Z" } : Jvm.MethodName)) ∈ zTT := zTT_in (List.mem_of_getElem? (i := 701) (by decide +kernel)) rfl
theorem zk_702 : (Jvm.Cond.instanceMethod ({ cls := "SeenToMove$Tape", name := "isSign", desc := "(I)Z" } : Jvm.MethodName)) ∈ zTT := zTT_in (List.mem_of_getElem? (i := 702) (by decide +kernel)) rfl
theorem zk_703 : (Jvm.Cond.selects "SeenToMove$Tape" ({ cls := "SeenToMove$Tape", name := "isSign", desc := "(I)Z" } : Jvm.MethodName) ({ cls := "SeenToMove$Tape", name := "isSign", desc := "(I)Z" } : Jvm.MethodName)) ∈ zTT := zTT_in (List.mem_of_getElem? (i := 703) (by decide +kernel)) rfl
theorem zk_704 : (Jvm.Cond.code ({ cls := "SeenToMove$Tape", name := "isSign", desc := "(I)Z" } : Jvm.MethodName) prog_11_method_13_code (2 : Nat) (Option.some Jvm.ClassFile.FieldType.boolean)) ∈ zTT := zTT_in (List.mem_of_getElem? (i := 704) (by decide +kernel)) rfl
theorem zk_705 : (Jvm.Cond.methodLink "SeenToMove$FieldText" (93 : Nat) ({ cls := "SeenToMove$State", name := "begin", desc := "([I)V" } : Jvm.MethodName)) ∈ zTT := zTT_in (List.mem_of_getElem? (i := 705) (by decide +kernel)) rfl
theorem zk_706 : (Jvm.Cond.instanceMethod ({ cls := "SeenToMove$State", name := "begin", desc := "([I)V" } : Jvm.MethodName)) ∈ zTT := zTT_in (List.mem_of_getElem? (i := 706) (by decide +kernel)) rfl
theorem zk_707 : (Jvm.Cond.selects "SeenToMove$State" ({ cls := "SeenToMove$State", name := "begin", desc := "([I)V" } : Jvm.MethodName) ({ cls := "SeenToMove$State", name := "begin", desc := "([I)V" } : Jvm.MethodName)) ∈ zTT := zTT_in (List.mem_of_getElem? (i := 707) (by decide +kernel)) rfl
theorem zk_708 : (Jvm.Cond.code ({ cls := "SeenToMove$State", name := "begin", desc := "([I)V" } : Jvm.MethodName) prog_10_method_3_code (4 : Nat) (Option.none : Option Jvm.ClassFile.FieldType)) ∈ zTT := zTT_in (List.mem_of_getElem? (i := 708) (by decide +kernel)) rfl
theorem zkn_709 : (Jvm.Cond.methodLinkNest "SeenToMove$State" (45 : Nat) ({ cls := "SeenToMove", name := "fill", desc := "([II)V" } : Jvm.MethodName) "SeenToMove") ∈ zNest := List.mem_filter.mpr ⟨List.mem_of_getElem? (i := 709) (by decide +kernel), rfl⟩
theorem zkn_710 : (Jvm.Cond.methodLinkNest "SeenToMove$State" (57 : Nat) ({ cls := "SeenToMove", name := "at", desc := "([II)I" } : Jvm.MethodName) "SeenToMove") ∈ zNest := List.mem_filter.mpr ⟨List.mem_of_getElem? (i := 710) (by decide +kernel), rfl⟩
theorem zkn_711 : (Jvm.Cond.methodLinkNest "SeenToMove$State" (61 : Nat) ({ cls := "SeenToMove", name := "put", desc := "([III)V" } : Jvm.MethodName) "SeenToMove") ∈ zNest := List.mem_filter.mpr ⟨List.mem_of_getElem? (i := 711) (by decide +kernel), rfl⟩
theorem zk_712 : (Jvm.Cond.methodLink "SeenToMove$State" (80 : Nat) ({ cls := "SeenToMove$State", name := "landOf", desc := "(I)I" } : Jvm.MethodName)) ∈ zTT := zTT_in (List.mem_of_getElem? (i := 712) (by decide +kernel)) rfl
theorem zk_713 : (Jvm.Cond.instanceMethod ({ cls := "SeenToMove$State", name := "landOf", desc := "(I)I" } : Jvm.MethodName)) ∈ zTT := zTT_in (List.mem_of_getElem? (i := 713) (by decide +kernel)) rfl
theorem zk_714 : (Jvm.Cond.selects "SeenToMove$State" ({ cls := "SeenToMove$State", name := "landOf", desc := "(I)I" } : Jvm.MethodName) ({ cls := "SeenToMove$State", name := "landOf", desc := "(I)I" } : Jvm.MethodName)) ∈ zTT := zTT_in (List.mem_of_getElem? (i := 714) (by decide +kernel)) rfl
theorem zk_715 : (Jvm.Cond.code ({ cls := "SeenToMove$State", name := "landOf", desc := "(I)I" } : Jvm.MethodName) prog_10_method_7_code (4 : Nat) (Option.some Jvm.ClassFile.FieldType.int)) ∈ zTT := zTT_in (List.mem_of_getElem? (i := 715) (by decide +kernel)) rfl
theorem zk_716 : (Jvm.Cond.methodLink "SeenToMove" (122 : Nat) ({ cls := "SeenToMove$Field", name := "copyFrom", desc := "(LSeenToMove$Field;)V" } : Jvm.MethodName)) ∈ zTT := zTT_in (List.mem_of_getElem? (i := 716) (by decide +kernel)) rfl
theorem zk_717 : (Jvm.Cond.instanceMethod ({ cls := "SeenToMove$Field", name := "copyFrom", desc := "(LSeenToMove$Field;)V" } : Jvm.MethodName)) ∈ zTT := zTT_in (List.mem_of_getElem? (i := 717) (by decide +kernel)) rfl
theorem zk_718 : (Jvm.Cond.selects "SeenToMove$Field" ({ cls := "SeenToMove$Field", name := "copyFrom", desc := "(LSeenToMove$Field;)V" } : Jvm.MethodName) ({ cls := "SeenToMove$Field", name := "copyFrom", desc := "(LSeenToMove$Field;)V" } : Jvm.MethodName)) ∈ zTT := zTT_in (List.mem_of_getElem? (i := 718) (by decide +kernel)) rfl
theorem zk_719 : (Jvm.Cond.code ({ cls := "SeenToMove$Field", name := "copyFrom", desc := "(LSeenToMove$Field;)V" } : Jvm.MethodName) prog_4_method_3_code (2 : Nat) (Option.none : Option Jvm.ClassFile.FieldType)) ∈ zTT := zTT_in (List.mem_of_getElem? (i := 719) (by decide +kernel)) rfl
theorem zkn_720 : (Jvm.Cond.methodLinkNest "SeenToMove$Field" (63 : Nat) ({ cls := "SeenToMove", name := "copyNames", desc := "([J[J)V" } : Jvm.MethodName) "SeenToMove") ∈ zNest := List.mem_filter.mpr ⟨List.mem_of_getElem? (i := 720) (by decide +kernel), rfl⟩
theorem zk_721 : (Jvm.Cond.static ({ cls := "SeenToMove", name := "copyNames", desc := "([J[J)V" } : Jvm.MethodName)) ∈ zTT := zTT_in (List.mem_of_getElem? (i := 721) (by decide +kernel)) rfl
theorem zk_722 : (Jvm.Cond.code ({ cls := "SeenToMove", name := "copyNames", desc := "([J[J)V" } : Jvm.MethodName) prog_1_method_65_code (2 : Nat) (Option.none : Option Jvm.ClassFile.FieldType)) ∈ zTT := zTT_in (List.mem_of_getElem? (i := 722) (by decide +kernel)) rfl
theorem zk_723 : (Jvm.Cond.methodLink "SeenToMove" (410 : Nat) ({ cls := "java/lang/Math", name := "min", desc := "(II)I" } : Jvm.MethodName)) ∈ zTT := zTT_in (List.mem_of_getElem? (i := 723) (by decide +kernel)) rfl
theorem zk_724 : (Jvm.Cond.methodLink "SeenToMove" (415 : Nat) ({ cls := "java/lang/System", name := "arraycopy", desc := "(Ljava/lang/Object;ILjava/lang/Object;II)V" } : Jvm.MethodName)) ∈ zTT := zTT_in (List.mem_of_getElem? (i := 724) (by decide +kernel)) rfl
theorem zk_725 : (Jvm.Cond.static ({ cls := "java/lang/System", name := "arraycopy", desc := "(Ljava/lang/Object;ILjava/lang/Object;II)V" } : Jvm.MethodName)) ∈ zTT := zTT_in (List.mem_of_getElem? (i := 725) (by decide +kernel)) rfl
theorem zk_726 : (Jvm.Cond.native ({ cls := "java/lang/System", name := "arraycopy", desc := "(Ljava/lang/Object;ILjava/lang/Object;II)V" } : Jvm.MethodName)) ∈ zTT := zTT_in (List.mem_of_getElem? (i := 726) (by decide +kernel)) rfl
theorem zkn_727 : (Jvm.Cond.methodLinkNest "SeenToMove$Field" (67 : Nat) ({ cls := "SeenToMove", name := "copy", desc := "([I[I)V" } : Jvm.MethodName) "SeenToMove") ∈ zNest := List.mem_filter.mpr ⟨List.mem_of_getElem? (i := 727) (by decide +kernel), rfl⟩
theorem zk_728 : (Jvm.Cond.static ({ cls := "SeenToMove", name := "copy", desc := "([I[I)V" } : Jvm.MethodName)) ∈ zTT := zTT_in (List.mem_of_getElem? (i := 728) (by decide +kernel)) rfl
theorem zk_729 : (Jvm.Cond.code ({ cls := "SeenToMove", name := "copy", desc := "([I[I)V" } : Jvm.MethodName) prog_1_method_64_code (2 : Nat) (Option.none : Option Jvm.ClassFile.FieldType)) ∈ zTT := zTT_in (List.mem_of_getElem? (i := 729) (by decide +kernel)) rfl
theorem zk_730 : (Jvm.Cond.methodLink "SeenToMove" (126 : Nat) ({ cls := "SeenToMove$State", name := "copyFrom", desc := "(LSeenToMove$State;)V" } : Jvm.MethodName)) ∈ zTT := zTT_in (List.mem_of_getElem? (i := 730) (by decide +kernel)) rfl
theorem zk_731 : (Jvm.Cond.instanceMethod ({ cls := "SeenToMove$State", name := "copyFrom", desc := "(LSeenToMove$State;)V" } : Jvm.MethodName)) ∈ zTT := zTT_in (List.mem_of_getElem? (i := 731) (by decide +kernel)) rfl
theorem zk_732 : (Jvm.Cond.selects "SeenToMove$State" ({ cls := "SeenToMove$State", name := "copyFrom", desc := "(LSeenToMove$State;)V" } : Jvm.MethodName) ({ cls := "SeenToMove$State", name := "copyFrom", desc := "(LSeenToMove$State;)V" } : Jvm.MethodName)) ∈ zTT := zTT_in (List.mem_of_getElem? (i := 732) (by decide +kernel)) rfl
theorem zk_733 : (Jvm.Cond.code ({ cls := "SeenToMove$State", name := "copyFrom", desc := "(LSeenToMove$State;)V" } : Jvm.MethodName) prog_10_method_2_code (2 : Nat) (Option.none : Option Jvm.ClassFile.FieldType)) ∈ zTT := zTT_in (List.mem_of_getElem? (i := 733) (by decide +kernel)) rfl
theorem zkn_734 : (Jvm.Cond.methodLinkNest "SeenToMove$State" (41 : Nat) ({ cls := "SeenToMove", name := "copy", desc := "([I[I)V" } : Jvm.MethodName) "SeenToMove") ∈ zNest := List.mem_filter.mpr ⟨List.mem_of_getElem? (i := 734) (by decide +kernel), rfl⟩
theorem zk_735 : (Jvm.Cond.methodLink "SeenToMove" (129 : Nat) ({ cls := "SeenToMove$Sentence", name := "clear", desc := "()V" } : Jvm.MethodName)) ∈ zTT := zTT_in (List.mem_of_getElem? (i := 735) (by decide +kernel)) rfl
theorem zk_736 : (Jvm.Cond.instanceMethod ({ cls := "SeenToMove$Sentence", name := "clear", desc := "()V" } : Jvm.MethodName)) ∈ zTT := zTT_in (List.mem_of_getElem? (i := 736) (by decide +kernel)) rfl
theorem zk_737 : (Jvm.Cond.selects "SeenToMove$Sentence" ({ cls := "SeenToMove$Sentence", name := "clear", desc := "()V" } : Jvm.MethodName) ({ cls := "SeenToMove$Sentence", name := "clear", desc := "()V" } : Jvm.MethodName)) ∈ zTT := zTT_in (List.mem_of_getElem? (i := 737) (by decide +kernel)) rfl
theorem zk_738 : (Jvm.Cond.code ({ cls := "SeenToMove$Sentence", name := "clear", desc := "()V" } : Jvm.MethodName) prog_8_method_2_code (1 : Nat) (Option.none : Option Jvm.ClassFile.FieldType)) ∈ zTT := zTT_in (List.mem_of_getElem? (i := 738) (by decide +kernel)) rfl
theorem zk_739 : (Jvm.Cond.methodLink "SeenToMove" (132 : Nat) ({ cls := "SeenToMove$Undos", name := "clear", desc := "()V" } : Jvm.MethodName)) ∈ zTT := zTT_in (List.mem_of_getElem? (i := 739) (by decide +kernel)) rfl
theorem zk_740 : (Jvm.Cond.instanceMethod ({ cls := "SeenToMove$Undos", name := "clear", desc := "()V" } : Jvm.MethodName)) ∈ zTT := zTT_in (List.mem_of_getElem? (i := 740) (by decide +kernel)) rfl
theorem zk_741 : (Jvm.Cond.selects "SeenToMove$Undos" ({ cls := "SeenToMove$Undos", name := "clear", desc := "()V" } : Jvm.MethodName) ({ cls := "SeenToMove$Undos", name := "clear", desc := "()V" } : Jvm.MethodName)) ∈ zTT := zTT_in (List.mem_of_getElem? (i := 741) (by decide +kernel)) rfl
theorem zk_742 : (Jvm.Cond.code ({ cls := "SeenToMove$Undos", name := "clear", desc := "()V" } : Jvm.MethodName) prog_12_method_2_code (1 : Nat) (Option.none : Option Jvm.ClassFile.FieldType)) ∈ zTT := zTT_in (List.mem_of_getElem? (i := 742) (by decide +kernel)) rfl
theorem zk_744 : (Jvm.Cond.instanceMethod ({ cls := "SeenToMove", name := "fault", desc := "()I" } : Jvm.MethodName)) ∈ zTT := zTT_in (List.mem_of_getElem? (i := 744) (by decide +kernel)) rfl
theorem zk_745 : (Jvm.Cond.selects "SeenToMove" ({ cls := "SeenToMove", name := "fault", desc := "()I" } : Jvm.MethodName) ({ cls := "SeenToMove", name := "fault", desc := "()I" } : Jvm.MethodName)) ∈ zTT := zTT_in (List.mem_of_getElem? (i := 745) (by decide +kernel)) rfl
theorem zk_746 : (Jvm.Cond.code ({ cls := "SeenToMove", name := "fault", desc := "()I" } : Jvm.MethodName) prog_1_method_5_code (1 : Nat) (Option.some Jvm.ClassFile.FieldType.int)) ∈ zTT := zTT_in (List.mem_of_getElem? (i := 746) (by decide +kernel)) rfl
theorem zk_748 : (Jvm.Cond.instanceMethod ({ cls := "SeenToMove", name := "looker", desc := "(II)I" } : Jvm.MethodName)) ∈ zTT := zTT_in (List.mem_of_getElem? (i := 748) (by decide +kernel)) rfl
theorem zk_749 : (Jvm.Cond.selects "SeenToMove" ({ cls := "SeenToMove", name := "looker", desc := "(II)I" } : Jvm.MethodName) ({ cls := "SeenToMove", name := "looker", desc := "(II)I" } : Jvm.MethodName)) ∈ zTT := zTT_in (List.mem_of_getElem? (i := 749) (by decide +kernel)) rfl
theorem zk_750 : (Jvm.Cond.code ({ cls := "SeenToMove", name := "looker", desc := "(II)I" } : Jvm.MethodName) prog_1_method_7_code (3 : Nat) (Option.some Jvm.ClassFile.FieldType.int)) ∈ zTT := zTT_in (List.mem_of_getElem? (i := 750) (by decide +kernel)) rfl
theorem zk_751 : (Jvm.Cond.methodLink "SeenToMove" (170 : Nat) ({ cls := "SeenToMove$Field", name := "hasLooker", desc := "(I)Z" } : Jvm.MethodName)) ∈ zTT := zTT_in (List.mem_of_getElem? (i := 751) (by decide +kernel)) rfl
theorem zk_752 : (Jvm.Cond.instanceMethod ({ cls := "SeenToMove$Field", name := "hasLooker", desc := "(I)Z" } : Jvm.MethodName)) ∈ zTT := zTT_in (List.mem_of_getElem? (i := 752) (by decide +kernel)) rfl
theorem zk_753 : (Jvm.Cond.selects "SeenToMove$Field" ({ cls := "SeenToMove$Field", name := "hasLooker", desc := "(I)Z" } : Jvm.MethodName) ({ cls := "SeenToMove$Field", name := "hasLooker", desc := "(I)Z" } : Jvm.MethodName)) ∈ zTT := zTT_in (List.mem_of_getElem? (i := 753) (by decide +kernel)) rfl
theorem zk_754 : (Jvm.Cond.code ({ cls := "SeenToMove$Field", name := "hasLooker", desc := "(I)Z" } : Jvm.MethodName) prog_4_method_5_code (2 : Nat) (Option.some Jvm.ClassFile.FieldType.boolean)) ∈ zTT := zTT_in (List.mem_of_getElem? (i := 754) (by decide +kernel)) rfl
theorem zk_755 : (Jvm.Cond.methodLink "SeenToMove" (147 : Nat) ({ cls := "SeenToMove", name := "at", desc := "([II)I" } : Jvm.MethodName)) ∈ zTT := zTT_in (List.mem_of_getElem? (i := 755) (by decide +kernel)) rfl
theorem zk_756 : (Jvm.Cond.methodLink "SeenToMove" (182 : Nat) ({ cls := "SeenToMove$State", name := "looks", desc := "(I)Z" } : Jvm.MethodName)) ∈ zTT := zTT_in (List.mem_of_getElem? (i := 756) (by decide +kernel)) rfl
theorem zk_757 : (Jvm.Cond.instanceMethod ({ cls := "SeenToMove$State", name := "looks", desc := "(I)Z" } : Jvm.MethodName)) ∈ zTT := zTT_in (List.mem_of_getElem? (i := 757) (by decide +kernel)) rfl
theorem zk_758 : (Jvm.Cond.selects "SeenToMove$State" ({ cls := "SeenToMove$State", name := "looks", desc := "(I)Z" } : Jvm.MethodName) ({ cls := "SeenToMove$State", name := "looks", desc := "(I)Z" } : Jvm.MethodName)) ∈ zTT := zTT_in (List.mem_of_getElem? (i := 758) (by decide +kernel)) rfl
theorem zk_759 : (Jvm.Cond.code ({ cls := "SeenToMove$State", name := "looks", desc := "(I)Z" } : Jvm.MethodName) prog_10_method_9_code (3 : Nat) (Option.some Jvm.ClassFile.FieldType.boolean)) ∈ zTT := zTT_in (List.mem_of_getElem? (i := 759) (by decide +kernel)) rfl
theorem zk_760 : (Jvm.Cond.methodLink "SeenToMove$State" (96 : Nat) ({ cls := "java/lang/Math", name := "floorMod", desc := "(II)I" } : Jvm.MethodName)) ∈ zTT := zTT_in (List.mem_of_getElem? (i := 760) (by decide +kernel)) rfl
theorem zk_761 : (Jvm.Cond.static ({ cls := "java/lang/Math", name := "floorMod", desc := "(II)I" } : Jvm.MethodName)) ∈ zTT := zTT_in (List.mem_of_getElem? (i := 761) (by decide +kernel)) rfl
theorem zk_762 : (Jvm.Cond.code ({ cls := "java/lang/Math", name := "floorMod", desc := "(II)I" } : Jvm.MethodName) prog_20_method_50_code (3 : Nat) (Option.some Jvm.ClassFile.FieldType.int)) ∈ zTT := zTT_in (List.mem_of_getElem? (i := 762) (by decide +kernel)) rfl
theorem zk_763 : (Jvm.Cond.methodLink "SeenToMove" (185 : Nat) ({ cls := "SeenToMove$State", name := "sight", desc := "(II)I" } : Jvm.MethodName)) ∈ zTT := zTT_in (List.mem_of_getElem? (i := 763) (by decide +kernel)) rfl
theorem zk_764 : (Jvm.Cond.instanceMethod ({ cls := "SeenToMove$State", name := "sight", desc := "(II)I" } : Jvm.MethodName)) ∈ zTT := zTT_in (List.mem_of_getElem? (i := 764) (by decide +kernel)) rfl
theorem zk_765 : (Jvm.Cond.selects "SeenToMove$State" ({ cls := "SeenToMove$State", name := "sight", desc := "(II)I" } : Jvm.MethodName) ({ cls := "SeenToMove$State", name := "sight", desc := "(II)I" } : Jvm.MethodName)) ∈ zTT := zTT_in (List.mem_of_getElem? (i := 765) (by decide +kernel)) rfl
theorem zk_766 : (Jvm.Cond.code ({ cls := "SeenToMove$State", name := "sight", desc := "(II)I" } : Jvm.MethodName) prog_10_method_11_code (5 : Nat) (Option.some Jvm.ClassFile.FieldType.int)) ∈ zTT := zTT_in (List.mem_of_getElem? (i := 766) (by decide +kernel)) rfl
theorem zk_767 : (Jvm.Cond.methodLink "SeenToMove$State" (112 : Nat) ({ cls := "SeenToMove$State", name := "isInSight", desc := "(III)Z" } : Jvm.MethodName)) ∈ zTT := zTT_in (List.mem_of_getElem? (i := 767) (by decide +kernel)) rfl
theorem zk_768 : (Jvm.Cond.instanceMethod ({ cls := "SeenToMove$State", name := "isInSight", desc := "(III)Z" } : Jvm.MethodName)) ∈ zTT := zTT_in (List.mem_of_getElem? (i := 768) (by decide +kernel)) rfl
theorem zk_769 : (Jvm.Cond.selects "SeenToMove$State" ({ cls := "SeenToMove$State", name := "isInSight", desc := "(III)Z" } : Jvm.MethodName) ({ cls := "SeenToMove$State", name := "isInSight", desc := "(III)Z" } : Jvm.MethodName)) ∈ zTT := zTT_in (List.mem_of_getElem? (i := 769) (by decide +kernel)) rfl
theorem zk_770 : (Jvm.Cond.code ({ cls := "SeenToMove$State", name := "isInSight", desc := "(III)Z" } : Jvm.MethodName) prog_10_method_10_code (7 : Nat) (Option.some Jvm.ClassFile.FieldType.boolean)) ∈ zTT := zTT_in (List.mem_of_getElem? (i := 770) (by decide +kernel)) rfl
theorem zk_771 : (Jvm.Cond.methodLink "SeenToMove$State" (105 : Nat) ({ cls := "SeenToMove$Field", name := "hasHedge", desc := "(I)Z" } : Jvm.MethodName)) ∈ zTT := zTT_in (List.mem_of_getElem? (i := 771) (by decide +kernel)) rfl
theorem zk_772 : (Jvm.Cond.methodLink "SeenToMove$State" (109 : Nat) ({ cls := "SeenToMove$Field", name := "beside", desc := "(II)I" } : Jvm.MethodName)) ∈ zTT := zTT_in (List.mem_of_getElem? (i := 772) (by decide +kernel)) rfl
theorem zk_773 : (Jvm.Cond.instanceMethod ({ cls := "SeenToMove$Field", name := "beside", desc := "(II)I" } : Jvm.MethodName)) ∈ zTT := zTT_in (List.mem_of_getElem? (i := 773) (by decide +kernel)) rfl
theorem zk_774 : (Jvm.Cond.selects "SeenToMove$Field" ({ cls := "SeenToMove$Field", name := "beside", desc := "(II)I" } : Jvm.MethodName) ({ cls := "SeenToMove$Field", name := "beside", desc := "(II)I" } : Jvm.MethodName)) ∈ zTT := zTT_in (List.mem_of_getElem? (i := 774) (by decide +kernel)) rfl
theorem zk_775 : (Jvm.Cond.code ({ cls := "SeenToMove$Field", name := "beside", desc := "(II)I" } : Jvm.MethodName) prog_4_method_8_code (5 : Nat) (Option.some Jvm.ClassFile.FieldType.int)) ∈ zTT := zTT_in (List.mem_of_getElem? (i := 775) (by decide +kernel)) rfl
theorem zk_777 : (Jvm.Cond.instanceMethod ({ cls := "SeenToMove", name := "cell", desc := "(III)I" } : Jvm.MethodName)) ∈ zTT := zTT_in (List.mem_of_getElem? (i := 777) (by decide +kernel)) rfl
theorem zk_778 : (Jvm.Cond.selects "SeenToMove" ({ cls := "SeenToMove", name := "cell", desc := "(III)I" } : Jvm.MethodName) ({ cls := "SeenToMove", name := "cell", desc := "(III)I" } : Jvm.MethodName)) ∈ zTT := zTT_in (List.mem_of_getElem? (i := 778) (by decide +kernel)) rfl
theorem zk_779 : (Jvm.Cond.code ({ cls := "SeenToMove", name := "cell", desc := "(III)I" } : Jvm.MethodName) prog_1_method_8_code (5 : Nat) (Option.some Jvm.ClassFile.FieldType.int)) ∈ zTT := zTT_in (List.mem_of_getElem? (i := 779) (by decide +kernel)) rfl
theorem zk_780 : (Jvm.Cond.methodLink "SeenToMove" (189 : Nat) ({ cls := "SeenToMove$Field", name := "hasCell", desc := "(II)Z" } : Jvm.MethodName)) ∈ zTT := zTT_in (List.mem_of_getElem? (i := 780) (by decide +kernel)) rfl
theorem zk_781 : (Jvm.Cond.instanceMethod ({ cls := "SeenToMove$Field", name := "hasCell", desc := "(II)Z" } : Jvm.MethodName)) ∈ zTT := zTT_in (List.mem_of_getElem? (i := 781) (by decide +kernel)) rfl
theorem zk_782 : (Jvm.Cond.selects "SeenToMove$Field" ({ cls := "SeenToMove$Field", name := "hasCell", desc := "(II)Z" } : Jvm.MethodName) ({ cls := "SeenToMove$Field", name := "hasCell", desc := "(II)Z" } : Jvm.MethodName)) ∈ zTT := zTT_in (List.mem_of_getElem? (i := 782) (by decide +kernel)) rfl
theorem zk_783 : (Jvm.Cond.code ({ cls := "SeenToMove$Field", name := "hasCell", desc := "(II)Z" } : Jvm.MethodName) prog_4_method_6_code (3 : Nat) (Option.some Jvm.ClassFile.FieldType.boolean)) ∈ zTT := zTT_in (List.mem_of_getElem? (i := 783) (by decide +kernel)) rfl
theorem zk_784 : (Jvm.Cond.methodLink "SeenToMove" (196 : Nat) ({ cls := "SeenToMove$State", name := "figureIn", desc := "(I)I" } : Jvm.MethodName)) ∈ zTT := zTT_in (List.mem_of_getElem? (i := 784) (by decide +kernel)) rfl
theorem zk_785 : (Jvm.Cond.methodLink "SeenToMove" (199 : Nat) ({ cls := "SeenToMove$State", name := "lookerIn", desc := "(I)I" } : Jvm.MethodName)) ∈ zTT := zTT_in (List.mem_of_getElem? (i := 785) (by decide +kernel)) rfl
theorem zk_787 : (Jvm.Cond.instanceMethod ({ cls := "SeenToMove", name := "now", desc := "(I)I" } : Jvm.MethodName)) ∈ zTT := zTT_in (List.mem_of_getElem? (i := 787) (by decide +kernel)) rfl
theorem zk_788 : (Jvm.Cond.selects "SeenToMove" ({ cls := "SeenToMove", name := "now", desc := "(I)I" } : Jvm.MethodName) ({ cls := "SeenToMove", name := "now", desc := "(I)I" } : Jvm.MethodName)) ∈ zTT := zTT_in (List.mem_of_getElem? (i := 788) (by decide +kernel)) rfl
theorem zk_789 : (Jvm.Cond.code ({ cls := "SeenToMove", name := "now", desc := "(I)I" } : Jvm.MethodName) prog_1_method_9_code (2 : Nat) (Option.some Jvm.ClassFile.FieldType.int)) ∈ zTT := zTT_in (List.mem_of_getElem? (i := 789) (by decide +kernel)) rfl
theorem zk_790 : (Jvm.Cond.methodLink "SeenToMove" (208 : Nat) ({ cls := "SeenToMove", name := "seenFigures", desc := "()I" } : Jvm.MethodName)) ∈ zTT := zTT_in (List.mem_of_getElem? (i := 790) (by decide +kernel)) rfl
theorem zk_792 : (Jvm.Cond.instanceMethod ({ cls := "SeenToMove", name := "seenFigures", desc := "()I" } : Jvm.MethodName)) ∈ zTT := zTT_in (List.mem_of_getElem? (i := 792) (by decide +kernel)) rfl
theorem zk_793 : (Jvm.Cond.code ({ cls := "SeenToMove", name := "seenFigures", desc := "()I" } : Jvm.MethodName) prog_1_method_10_code (3 : Nat) (Option.some Jvm.ClassFile.FieldType.int)) ∈ zTT := zTT_in (List.mem_of_getElem? (i := 793) (by decide +kernel)) rfl
theorem zk_794 : (Jvm.Cond.methodLink "SeenToMove" (163 : Nat) ({ cls := "SeenToMove$State", name := "seers", desc := "(I)I" } : Jvm.MethodName)) ∈ zTT := zTT_in (List.mem_of_getElem? (i := 794) (by decide +kernel)) rfl
theorem zk_795 : (Jvm.Cond.instanceMethod ({ cls := "SeenToMove$State", name := "seers", desc := "(I)I" } : Jvm.MethodName)) ∈ zTT := zTT_in (List.mem_of_getElem? (i := 795) (by decide +kernel)) rfl
theorem zk_796 : (Jvm.Cond.selects "SeenToMove$State" ({ cls := "SeenToMove$State", name := "seers", desc := "(I)I" } : Jvm.MethodName) ({ cls := "SeenToMove$State", name := "seers", desc := "(I)I" } : Jvm.MethodName)) ∈ zTT := zTT_in (List.mem_of_getElem? (i := 796) (by decide +kernel)) rfl
theorem zk_797 : (Jvm.Cond.code ({ cls := "SeenToMove$State", name := "seers", desc := "(I)I" } : Jvm.MethodName) prog_10_method_12_code (5 : Nat) (Option.some Jvm.ClassFile.FieldType.int)) ∈ zTT := zTT_in (List.mem_of_getElem? (i := 797) (by decide +kernel)) rfl
theorem zk_798 : (Jvm.Cond.methodLink "SeenToMove$State" (116 : Nat) ({ cls := "SeenToMove$State", name := "looks", desc := "(I)Z" } : Jvm.MethodName)) ∈ zTT := zTT_in (List.mem_of_getElem? (i := 798) (by decide +kernel)) rfl
theorem zk_799 : (Jvm.Cond.methodLink "SeenToMove" (211 : Nat) ({ cls := "SeenToMove", name := "freeFigures", desc := "()I" } : Jvm.MethodName)) ∈ zTT := zTT_in (List.mem_of_getElem? (i := 799) (by decide +kernel)) rfl
theorem zk_801 : (Jvm.Cond.instanceMethod ({ cls := "SeenToMove", name := "freeFigures", desc := "()I" } : Jvm.MethodName)) ∈ zTT := zTT_in (List.mem_of_getElem? (i := 801) (by decide +kernel)) rfl
theorem zk_802 : (Jvm.Cond.code ({ cls := "SeenToMove", name := "freeFigures", desc := "()I" } : Jvm.MethodName) prog_1_method_11_code (3 : Nat) (Option.some Jvm.ClassFile.FieldType.int)) ∈ zTT := zTT_in (List.mem_of_getElem? (i := 802) (by decide +kernel)) rfl
theorem zk_803 : (Jvm.Cond.methodLink "SeenToMove" (167 : Nat) ({ cls := "SeenToMove$State", name := "canGo", desc := "(I)Z" } : Jvm.MethodName)) ∈ zTT := zTT_in (List.mem_of_getElem? (i := 803) (by decide +kernel)) rfl
theorem zk_804 : (Jvm.Cond.instanceMethod ({ cls := "SeenToMove$State", name := "canGo", desc := "(I)Z" } : Jvm.MethodName)) ∈ zTT := zTT_in (List.mem_of_getElem? (i := 804) (by decide +kernel)) rfl
theorem zk_805 : (Jvm.Cond.selects "SeenToMove$State" ({ cls := "SeenToMove$State", name := "canGo", desc := "(I)Z" } : Jvm.MethodName) ({ cls := "SeenToMove$State", name := "canGo", desc := "(I)Z" } : Jvm.MethodName)) ∈ zTT := zTT_in (List.mem_of_getElem? (i := 805) (by decide +kernel)) rfl
theorem zk_806 : (Jvm.Cond.code ({ cls := "SeenToMove$State", name := "canGo", desc := "(I)Z" } : Jvm.MethodName) prog_10_method_13_code (3 : Nat) (Option.some Jvm.ClassFile.FieldType.boolean)) ∈ zTT := zTT_in (List.mem_of_getElem? (i := 806) (by decide +kernel)) rfl
theorem zk_807 : (Jvm.Cond.methodLink "SeenToMove" (214 : Nat) ({ cls := "SeenToMove", name := "lookingLookers", desc := "()I" } : Jvm.MethodName)) ∈ zTT := zTT_in (List.mem_of_getElem? (i := 807) (by decide +kernel)) rfl
theorem zk_809 : (Jvm.Cond.instanceMethod ({ cls := "SeenToMove", name := "lookingLookers", desc := "()I" } : Jvm.MethodName)) ∈ zTT := zTT_in (List.mem_of_getElem? (i := 809) (by decide +kernel)) rfl
theorem zk_810 : (Jvm.Cond.code ({ cls := "SeenToMove", name := "lookingLookers", desc := "()I" } : Jvm.MethodName) prog_1_method_12_code (3 : Nat) (Option.some Jvm.ClassFile.FieldType.int)) ∈ zTT := zTT_in (List.mem_of_getElem? (i := 810) (by decide +kernel)) rfl
theorem zk_811 : (Jvm.Cond.methodLink "SeenToMove" (217 : Nat) ({ cls := "SeenToMove$State", name := "goneByAll", desc := "()I" } : Jvm.MethodName)) ∈ zTT := zTT_in (List.mem_of_getElem? (i := 811) (by decide +kernel)) rfl
theorem zk_812 : (Jvm.Cond.instanceMethod ({ cls := "SeenToMove$State", name := "goneByAll", desc := "()I" } : Jvm.MethodName)) ∈ zTT := zTT_in (List.mem_of_getElem? (i := 812) (by decide +kernel)) rfl
theorem zk_813 : (Jvm.Cond.selects "SeenToMove$State" ({ cls := "SeenToMove$State", name := "goneByAll", desc := "()I" } : Jvm.MethodName) ({ cls := "SeenToMove$State", name := "goneByAll", desc := "()I" } : Jvm.MethodName)) ∈ zTT := zTT_in (List.mem_of_getElem? (i := 813) (by decide +kernel)) rfl
theorem zk_814 : (Jvm.Cond.code ({ cls := "SeenToMove$State", name := "goneByAll", desc := "()I" } : Jvm.MethodName) prog_10_method_8_code (3 : Nat) (Option.some Jvm.ClassFile.FieldType.int)) ∈ zTT := zTT_in (List.mem_of_getElem? (i := 814) (by decide +kernel)) rfl
theorem zk_816 : (Jvm.Cond.instanceMethod ({ cls := "SeenToMove", name := "land", desc := "(I)I" } : Jvm.MethodName)) ∈ zTT := zTT_in (List.mem_of_getElem? (i := 816) (by decide +kernel)) rfl
theorem zk_817 : (Jvm.Cond.selects "SeenToMove" ({ cls := "SeenToMove", name := "land", desc := "(I)I" } : Jvm.MethodName) ({ cls := "SeenToMove", name := "land", desc := "(I)I" } : Jvm.MethodName)) ∈ zTT := zTT_in (List.mem_of_getElem? (i := 817) (by decide +kernel)) rfl
theorem zk_818 : (Jvm.Cond.code ({ cls := "SeenToMove", name := "land", desc := "(I)I" } : Jvm.MethodName) prog_1_method_13_code (2 : Nat) (Option.some Jvm.ClassFile.FieldType.int)) ∈ zTT := zTT_in (List.mem_of_getElem? (i := 818) (by decide +kernel)) rfl
theorem zk_819 : (Jvm.Cond.methodLink "SeenToMove" (229 : Nat) ({ cls := "SeenToMove$State", name := "landOf", desc := "(I)I" } : Jvm.MethodName)) ∈ zTT := zTT_in (List.mem_of_getElem? (i := 819) (by decide +kernel)) rfl
theorem zk_821 : (Jvm.Cond.instanceMethod ({ cls := "SeenToMove", name := "turn", desc := "(II)I" } : Jvm.MethodName)) ∈ zTT := zTT_in (List.mem_of_getElem? (i := 821) (by decide +kernel)) rfl
theorem zk_822 : (Jvm.Cond.selects "SeenToMove" ({ cls := "SeenToMove", name := "turn", desc := "(II)I" } : Jvm.MethodName) ({ cls := "SeenToMove", name := "turn", desc := "(II)I" } : Jvm.MethodName)) ∈ zTT := zTT_in (List.mem_of_getElem? (i := 822) (by decide +kernel)) rfl
theorem zk_823 : (Jvm.Cond.code ({ cls := "SeenToMove", name := "turn", desc := "(II)I" } : Jvm.MethodName) prog_1_method_14_code (3 : Nat) (Option.some Jvm.ClassFile.FieldType.int)) ∈ zTT := zTT_in (List.mem_of_getElem? (i := 823) (by decide +kernel)) rfl
theorem zk_824 : (Jvm.Cond.methodLink "SeenToMove" (232 : Nat) ({ cls := "SeenToMove", name := "isSide", desc := "(I)Z" } : Jvm.MethodName)) ∈ zTT := zTT_in (List.mem_of_getElem? (i := 824) (by decide +kernel)) rfl
theorem zk_825 : (Jvm.Cond.methodLink "SeenToMove" (235 : Nat) ({ cls := "SeenToMove$Undos", name := "hold", desc := "(LSeenToMove$State;)V" } : Jvm.MethodName)) ∈ zTT := zTT_in (List.mem_of_getElem? (i := 825) (by decide +kernel)) rfl
theorem zk_826 : (Jvm.Cond.instanceMethod ({ cls := "SeenToMove$Undos", name := "hold", desc := "(LSeenToMove$State;)V" } : Jvm.MethodName)) ∈ zTT := zTT_in (List.mem_of_getElem? (i := 826) (by decide +kernel)) rfl
theorem zk_827 : (Jvm.Cond.selects "SeenToMove$Undos" ({ cls := "SeenToMove$Undos", name := "hold", desc := "(LSeenToMove$State;)V" } : Jvm.MethodName) ({ cls := "SeenToMove$Undos", name := "hold", desc := "(LSeenToMove$State;)V" } : Jvm.MethodName)) ∈ zTT := zTT_in (List.mem_of_getElem? (i := 827) (by decide +kernel)) rfl
theorem zk_828 : (Jvm.Cond.code ({ cls := "SeenToMove$Undos", name := "hold", desc := "(LSeenToMove$State;)V" } : Jvm.MethodName) prog_12_method_4_code (3 : Nat) (Option.none : Option Jvm.ClassFile.FieldType)) ∈ zTT := zTT_in (List.mem_of_getElem? (i := 828) (by decide +kernel)) rfl
theorem zk_829 : (Jvm.Cond.methodLink "SeenToMove$Undos" (27 : Nat) ({ cls := "SeenToMove$Undos", name := "stateIn", desc := "(I)LSeenToMove$State;" } : Jvm.MethodName)) ∈ zTT := zTT_in (List.mem_of_getElem? (i := 829) (by decide +kernel)) rfl
theorem zk_831 : (Jvm.Cond.instanceMethod ({ cls := "SeenToMove$Undos", name := "stateIn", desc := "(I)LSeenToMove$State;" } : Jvm.MethodName)) ∈ zTT := zTT_in (List.mem_of_getElem? (i := 831) (by decide +kernel)) rfl
theorem zk_832 : (Jvm.Cond.code ({ cls := "SeenToMove$Undos", name := "stateIn", desc := "(I)LSeenToMove$State;" } : Jvm.MethodName) prog_12_method_3_code (2 : Nat) (Option.some (Jvm.ClassFile.FieldType.object "SeenToMove$State"))) ∈ zTT := zTT_in (List.mem_of_getElem? (i := 832) (by decide +kernel)) rfl
theorem zk_833 : (Jvm.Cond.methodLink "SeenToMove$Undos" (31 : Nat) ({ cls := "SeenToMove$State", name := "copyFrom", desc := "(LSeenToMove$State;)V" } : Jvm.MethodName)) ∈ zTT := zTT_in (List.mem_of_getElem? (i := 833) (by decide +kernel)) rfl
theorem zk_834 : (Jvm.Cond.methodLink "SeenToMove" (238 : Nat) ({ cls := "SeenToMove$State", name := "turnTo", desc := "(II)I" } : Jvm.MethodName)) ∈ zTT := zTT_in (List.mem_of_getElem? (i := 834) (by decide +kernel)) rfl
theorem zk_835 : (Jvm.Cond.instanceMethod ({ cls := "SeenToMove$State", name := "turnTo", desc := "(II)I" } : Jvm.MethodName)) ∈ zTT := zTT_in (List.mem_of_getElem? (i := 835) (by decide +kernel)) rfl
theorem zk_836 : (Jvm.Cond.selects "SeenToMove$State" ({ cls := "SeenToMove$State", name := "turnTo", desc := "(II)I" } : Jvm.MethodName) ({ cls := "SeenToMove$State", name := "turnTo", desc := "(II)I" } : Jvm.MethodName)) ∈ zTT := zTT_in (List.mem_of_getElem? (i := 836) (by decide +kernel)) rfl
theorem zk_837 : (Jvm.Cond.code ({ cls := "SeenToMove$State", name := "turnTo", desc := "(II)I" } : Jvm.MethodName) prog_10_method_16_code (3 : Nat) (Option.some Jvm.ClassFile.FieldType.int)) ∈ zTT := zTT_in (List.mem_of_getElem? (i := 837) (by decide +kernel)) rfl
theorem zk_838 : (Jvm.Cond.methodLink "SeenToMove" (241 : Nat) ({ cls := "SeenToMove", name := "keepIfDone", desc := "(I)I" } : Jvm.MethodName)) ∈ zTT := zTT_in (List.mem_of_getElem? (i := 838) (by decide +kernel)) rfl
theorem zk_840 : (Jvm.Cond.instanceMethod ({ cls := "SeenToMove", name := "keepIfDone", desc := "(I)I" } : Jvm.MethodName)) ∈ zTT := zTT_in (List.mem_of_getElem? (i := 840) (by decide +kernel)) rfl
theorem zk_841 : (Jvm.Cond.code ({ cls := "SeenToMove", name := "keepIfDone", desc := "(I)I" } : Jvm.MethodName) prog_1_method_19_code (2 : Nat) (Option.some Jvm.ClassFile.FieldType.int)) ∈ zTT := zTT_in (List.mem_of_getElem? (i := 841) (by decide +kernel)) rfl
theorem zk_842 : (Jvm.Cond.methodLink "SeenToMove" (253 : Nat) ({ cls := "SeenToMove$Undos", name := "keep", desc := "()V" } : Jvm.MethodName)) ∈ zTT := zTT_in (List.mem_of_getElem? (i := 842) (by decide +kernel)) rfl
theorem zk_843 : (Jvm.Cond.instanceMethod ({ cls := "SeenToMove$Undos", name := "keep", desc := "()V" } : Jvm.MethodName)) ∈ zTT := zTT_in (List.mem_of_getElem? (i := 843) (by decide +kernel)) rfl
theorem zk_844 : (Jvm.Cond.selects "SeenToMove$Undos" ({ cls := "SeenToMove$Undos", name := "keep", desc := "()V" } : Jvm.MethodName) ({ cls := "SeenToMove$Undos", name := "keep", desc := "()V" } : Jvm.MethodName)) ∈ zTT := zTT_in (List.mem_of_getElem? (i := 844) (by decide +kernel)) rfl
theorem zk_845 : (Jvm.Cond.code ({ cls := "SeenToMove$Undos", name := "keep", desc := "()V" } : Jvm.MethodName) prog_12_method_5_code (1 : Nat) (Option.none : Option Jvm.ClassFile.FieldType)) ∈ zTT := zTT_in (List.mem_of_getElem? (i := 845) (by decide +kernel)) rfl
theorem zk_846 : (Jvm.Cond.methodLink "SeenToMove$Undos" (35 : Nat) ({ cls := "java/lang/Math", name := "min", desc := "(II)I" } : Jvm.MethodName)) ∈ zTT := zTT_in (List.mem_of_getElem? (i := 846) (by decide +kernel)) rfl
theorem zk_848 : (Jvm.Cond.instanceMethod ({ cls := "SeenToMove", name := "walk", desc := "(II)I" } : Jvm.MethodName)) ∈ zTT := zTT_in (List.mem_of_getElem? (i := 848) (by decide +kernel)) rfl
theorem zk_849 : (Jvm.Cond.selects "SeenToMove" ({ cls := "SeenToMove", name := "walk", desc := "(II)I" } : Jvm.MethodName) ({ cls := "SeenToMove", name := "walk", desc := "(II)I" } : Jvm.MethodName)) ∈ zTT := zTT_in (List.mem_of_getElem? (i := 849) (by decide +kernel)) rfl
theorem zk_850 : (Jvm.Cond.code ({ cls := "SeenToMove", name := "walk", desc := "(II)I" } : Jvm.MethodName) prog_1_method_15_code (3 : Nat) (Option.some Jvm.ClassFile.FieldType.int)) ∈ zTT := zTT_in (List.mem_of_getElem? (i := 850) (by decide +kernel)) rfl
theorem zk_851 : (Jvm.Cond.methodLink "SeenToMove" (244 : Nat) ({ cls := "SeenToMove$State", name := "walkTo", desc := "(II)I" } : Jvm.MethodName)) ∈ zTT := zTT_in (List.mem_of_getElem? (i := 851) (by decide +kernel)) rfl
theorem zk_852 : (Jvm.Cond.instanceMethod ({ cls := "SeenToMove$State", name := "walkTo", desc := "(II)I" } : Jvm.MethodName)) ∈ zTT := zTT_in (List.mem_of_getElem? (i := 852) (by decide +kernel)) rfl
theorem zk_853 : (Jvm.Cond.selects "SeenToMove$State" ({ cls := "SeenToMove$State", name := "walkTo", desc := "(II)I" } : Jvm.MethodName) ({ cls := "SeenToMove$State", name := "walkTo", desc := "(II)I" } : Jvm.MethodName)) ∈ zTT := zTT_in (List.mem_of_getElem? (i := 853) (by decide +kernel)) rfl
theorem zk_854 : (Jvm.Cond.code ({ cls := "SeenToMove$State", name := "walkTo", desc := "(II)I" } : Jvm.MethodName) prog_10_method_17_code (4 : Nat) (Option.some Jvm.ClassFile.FieldType.int)) ∈ zTT := zTT_in (List.mem_of_getElem? (i := 854) (by decide +kernel)) rfl
theorem zk_855 : (Jvm.Cond.methodLink "SeenToMove$State" (136 : Nat) ({ cls := "SeenToMove$State", name := "hasSomebody", desc := "(I)Z" } : Jvm.MethodName)) ∈ zTT := zTT_in (List.mem_of_getElem? (i := 855) (by decide +kernel)) rfl
theorem zk_857 : (Jvm.Cond.instanceMethod ({ cls := "SeenToMove", name := "shut", desc := "(I)I" } : Jvm.MethodName)) ∈ zTT := zTT_in (List.mem_of_getElem? (i := 857) (by decide +kernel)) rfl
theorem zk_858 : (Jvm.Cond.selects "SeenToMove" ({ cls := "SeenToMove", name := "shut", desc := "(I)I" } : Jvm.MethodName) ({ cls := "SeenToMove", name := "shut", desc := "(I)I" } : Jvm.MethodName)) ∈ zTT := zTT_in (List.mem_of_getElem? (i := 858) (by decide +kernel)) rfl
theorem zk_859 : (Jvm.Cond.code ({ cls := "SeenToMove", name := "shut", desc := "(I)I" } : Jvm.MethodName) prog_1_method_16_code (2 : Nat) (Option.some Jvm.ClassFile.FieldType.int)) ∈ zTT := zTT_in (List.mem_of_getElem? (i := 859) (by decide +kernel)) rfl
theorem zk_860 : (Jvm.Cond.methodLink "SeenToMove" (247 : Nat) ({ cls := "SeenToMove$State", name := "setEyes", desc := "(II)I" } : Jvm.MethodName)) ∈ zTT := zTT_in (List.mem_of_getElem? (i := 860) (by decide +kernel)) rfl
theorem zk_861 : (Jvm.Cond.instanceMethod ({ cls := "SeenToMove$State", name := "setEyes", desc := "(II)I" } : Jvm.MethodName)) ∈ zTT := zTT_in (List.mem_of_getElem? (i := 861) (by decide +kernel)) rfl
theorem zk_862 : (Jvm.Cond.selects "SeenToMove$State" ({ cls := "SeenToMove$State", name := "setEyes", desc := "(II)I" } : Jvm.MethodName) ({ cls := "SeenToMove$State", name := "setEyes", desc := "(II)I" } : Jvm.MethodName)) ∈ zTT := zTT_in (List.mem_of_getElem? (i := 862) (by decide +kernel)) rfl
theorem zk_863 : (Jvm.Cond.code ({ cls := "SeenToMove$State", name := "setEyes", desc := "(II)I" } : Jvm.MethodName) prog_10_method_18_code (3 : Nat) (Option.some Jvm.ClassFile.FieldType.int)) ∈ zTT := zTT_in (List.mem_of_getElem? (i := 863) (by decide +kernel)) rfl
theorem zk_865 : (Jvm.Cond.instanceMethod ({ cls := "SeenToMove", name := "open", desc := "(I)I" } : Jvm.MethodName)) ∈ zTT := zTT_in (List.mem_of_getElem? (i := 865) (by decide +kernel)) rfl
theorem zk_866 : (Jvm.Cond.selects "SeenToMove" ({ cls := "SeenToMove", name := "open", desc := "(I)I" } : Jvm.MethodName) ({ cls := "SeenToMove", name := "open", desc := "(I)I" } : Jvm.MethodName)) ∈ zTT := zTT_in (List.mem_of_getElem? (i := 866) (by decide +kernel)) rfl
theorem zk_867 : (Jvm.Cond.code ({ cls := "SeenToMove", name := "open", desc := "(I)I" } : Jvm.MethodName) prog_1_method_17_code (2 : Nat) (Option.some Jvm.ClassFile.FieldType.int)) ∈ zTT := zTT_in (List.mem_of_getElem? (i := 867) (by decide +kernel)) rfl
theorem zk_869 : (Jvm.Cond.instanceMethod ({ cls := "SeenToMove", name := "face", desc := "(II)I" } : Jvm.MethodName)) ∈ zTT := zTT_in (List.mem_of_getElem? (i := 869) (by decide +kernel)) rfl
theorem zk_870 : (Jvm.Cond.selects "SeenToMove" ({ cls := "SeenToMove", name := "face", desc := "(II)I" } : Jvm.MethodName) ({ cls := "SeenToMove", name := "face", desc := "(II)I" } : Jvm.MethodName)) ∈ zTT := zTT_in (List.mem_of_getElem? (i := 870) (by decide +kernel)) rfl
theorem zk_871 : (Jvm.Cond.code ({ cls := "SeenToMove", name := "face", desc := "(II)I" } : Jvm.MethodName) prog_1_method_18_code (3 : Nat) (Option.some Jvm.ClassFile.FieldType.int)) ∈ zTT := zTT_in (List.mem_of_getElem? (i := 871) (by decide +kernel)) rfl
theorem zk_872 : (Jvm.Cond.methodLink "SeenToMove" (133 : Nat) ({ cls := "SeenToMove$Field", name := "hasFigure", desc := "(I)Z" } : Jvm.MethodName)) ∈ zTT := zTT_in (List.mem_of_getElem? (i := 872) (by decide +kernel)) rfl
theorem zk_873 : (Jvm.Cond.instanceMethod ({ cls := "SeenToMove$Field", name := "hasFigure", desc := "(I)Z" } : Jvm.MethodName)) ∈ zTT := zTT_in (List.mem_of_getElem? (i := 873) (by decide +kernel)) rfl
theorem zk_874 : (Jvm.Cond.selects "SeenToMove$Field" ({ cls := "SeenToMove$Field", name := "hasFigure", desc := "(I)Z" } : Jvm.MethodName) ({ cls := "SeenToMove$Field", name := "hasFigure", desc := "(I)Z" } : Jvm.MethodName)) ∈ zTT := zTT_in (List.mem_of_getElem? (i := 874) (by decide +kernel)) rfl
theorem zk_875 : (Jvm.Cond.code ({ cls := "SeenToMove$Field", name := "hasFigure", desc := "(I)Z" } : Jvm.MethodName) prog_4_method_4_code (2 : Nat) (Option.some Jvm.ClassFile.FieldType.boolean)) ∈ zTT := zTT_in (List.mem_of_getElem? (i := 875) (by decide +kernel)) rfl
theorem zk_876 : (Jvm.Cond.methodLink "SeenToMove" (250 : Nat) ({ cls := "SeenToMove$State", name := "faceTo", desc := "(II)I" } : Jvm.MethodName)) ∈ zTT := zTT_in (List.mem_of_getElem? (i := 876) (by decide +kernel)) rfl
theorem zk_877 : (Jvm.Cond.instanceMethod ({ cls := "SeenToMove$State", name := "faceTo", desc := "(II)I" } : Jvm.MethodName)) ∈ zTT := zTT_in (List.mem_of_getElem? (i := 877) (by decide +kernel)) rfl
theorem zk_878 : (Jvm.Cond.selects "SeenToMove$State" ({ cls := "SeenToMove$State", name := "faceTo", desc := "(II)I" } : Jvm.MethodName) ({ cls := "SeenToMove$State", name := "faceTo", desc := "(II)I" } : Jvm.MethodName)) ∈ zTT := zTT_in (List.mem_of_getElem? (i := 878) (by decide +kernel)) rfl
theorem zk_879 : (Jvm.Cond.code ({ cls := "SeenToMove$State", name := "faceTo", desc := "(II)I" } : Jvm.MethodName) prog_10_method_19_code (3 : Nat) (Option.some Jvm.ClassFile.FieldType.int)) ∈ zTT := zTT_in (List.mem_of_getElem? (i := 879) (by decide +kernel)) rfl
theorem zk_880 : (Jvm.Cond.methodLink "SeenToMove$State" (126 : Nat) ({ cls := "SeenToMove$State", name := "seers", desc := "(I)I" } : Jvm.MethodName)) ∈ zTT := zTT_in (List.mem_of_getElem? (i := 880) (by decide +kernel)) rfl
theorem zk_882 : (Jvm.Cond.instanceMethod ({ cls := "SeenToMove", name := "hours", desc := "(I)I" } : Jvm.MethodName)) ∈ zTT := zTT_in (List.mem_of_getElem? (i := 882) (by decide +kernel)) rfl
theorem zk_883 : (Jvm.Cond.selects "SeenToMove" ({ cls := "SeenToMove", name := "hours", desc := "(I)I" } : Jvm.MethodName) ({ cls := "SeenToMove", name := "hours", desc := "(I)I" } : Jvm.MethodName)) ∈ zTT := zTT_in (List.mem_of_getElem? (i := 883) (by decide +kernel)) rfl
theorem zk_884 : (Jvm.Cond.code ({ cls := "SeenToMove", name := "hours", desc := "(I)I" } : Jvm.MethodName) prog_1_method_20_code (4 : Nat) (Option.some Jvm.ClassFile.FieldType.int)) ∈ zTT := zTT_in (List.mem_of_getElem? (i := 884) (by decide +kernel)) rfl
theorem zk_885 : (Jvm.Cond.methodLink "SeenToMove" (256 : Nat) ({ cls := "SeenToMove$State", name := "goHour", desc := "()V" } : Jvm.MethodName)) ∈ zTT := zTT_in (List.mem_of_getElem? (i := 885) (by decide +kernel)) rfl
theorem zk_886 : (Jvm.Cond.instanceMethod ({ cls := "SeenToMove$State", name := "goHour", desc := "()V" } : Jvm.MethodName)) ∈ zTT := zTT_in (List.mem_of_getElem? (i := 886) (by decide +kernel)) rfl
theorem zk_887 : (Jvm.Cond.selects "SeenToMove$State" ({ cls := "SeenToMove$State", name := "goHour", desc := "()V" } : Jvm.MethodName) ({ cls := "SeenToMove$State", name := "goHour", desc := "()V" } : Jvm.MethodName)) ∈ zTT := zTT_in (List.mem_of_getElem? (i := 887) (by decide +kernel)) rfl
theorem zk_888 : (Jvm.Cond.code ({ cls := "SeenToMove$State", name := "goHour", desc := "()V" } : Jvm.MethodName) prog_10_method_14_code (2 : Nat) (Option.none : Option Jvm.ClassFile.FieldType)) ∈ zTT := zTT_in (List.mem_of_getElem? (i := 888) (by decide +kernel)) rfl
theorem zkn_889 : (Jvm.Cond.methodLinkNest "SeenToMove$State" (122 : Nat) ({ cls := "SeenToMove", name := "divides", desc := "(II)Z" } : Jvm.MethodName) "SeenToMove") ∈ zNest := List.mem_filter.mpr ⟨List.mem_of_getElem? (i := 889) (by decide +kernel), rfl⟩
theorem zk_890 : (Jvm.Cond.static ({ cls := "SeenToMove", name := "divides", desc := "(II)Z" } : Jvm.MethodName)) ∈ zTT := zTT_in (List.mem_of_getElem? (i := 890) (by decide +kernel)) rfl
theorem zk_891 : (Jvm.Cond.code ({ cls := "SeenToMove", name := "divides", desc := "(II)Z" } : Jvm.MethodName) prog_1_method_57_code (2 : Nat) (Option.some Jvm.ClassFile.FieldType.boolean)) ∈ zTT := zTT_in (List.mem_of_getElem? (i := 891) (by decide +kernel)) rfl
theorem zk_892 : (Jvm.Cond.methodLink "SeenToMove$State" (129 : Nat) ({ cls := "SeenToMove$State", name := "goOrTurn", desc := "(I)V" } : Jvm.MethodName)) ∈ zTT := zTT_in (List.mem_of_getElem? (i := 892) (by decide +kernel)) rfl
theorem zk_893 : (Jvm.Cond.instanceMethod ({ cls := "SeenToMove$State", name := "goOrTurn", desc := "(I)V" } : Jvm.MethodName)) ∈ zTT := zTT_in (List.mem_of_getElem? (i := 893) (by decide +kernel)) rfl
theorem zk_894 : (Jvm.Cond.selects "SeenToMove$State" ({ cls := "SeenToMove$State", name := "goOrTurn", desc := "(I)V" } : Jvm.MethodName) ({ cls := "SeenToMove$State", name := "goOrTurn", desc := "(I)V" } : Jvm.MethodName)) ∈ zTT := zTT_in (List.mem_of_getElem? (i := 894) (by decide +kernel)) rfl
theorem zk_895 : (Jvm.Cond.code ({ cls := "SeenToMove$State", name := "goOrTurn", desc := "(I)V" } : Jvm.MethodName) prog_10_method_15_code (3 : Nat) (Option.none : Option Jvm.ClassFile.FieldType)) ∈ zTT := zTT_in (List.mem_of_getElem? (i := 895) (by decide +kernel)) rfl
theorem zk_896 : (Jvm.Cond.methodLink "SeenToMove$State" (133 : Nat) ({ cls := "SeenToMove$State", name := "canGo", desc := "(I)Z" } : Jvm.MethodName)) ∈ zTT := zTT_in (List.mem_of_getElem? (i := 896) (by decide +kernel)) rfl
theorem zk_897 : (Jvm.Cond.methodLink "SeenToMove" (259 : Nat) ({ cls := "SeenToMove", name := "keepIfGone", desc := "(I)I" } : Jvm.MethodName)) ∈ zTT := zTT_in (List.mem_of_getElem? (i := 897) (by decide +kernel)) rfl
theorem zk_899 : (Jvm.Cond.instanceMethod ({ cls := "SeenToMove", name := "keepIfGone", desc := "(I)I" } : Jvm.MethodName)) ∈ zTT := zTT_in (List.mem_of_getElem? (i := 899) (by decide +kernel)) rfl
theorem zk_900 : (Jvm.Cond.code ({ cls := "SeenToMove", name := "keepIfGone", desc := "(I)I" } : Jvm.MethodName) prog_1_method_21_code (2 : Nat) (Option.some Jvm.ClassFile.FieldType.int)) ∈ zTT := zTT_in (List.mem_of_getElem? (i := 900) (by decide +kernel)) rfl
theorem zk_902 : (Jvm.Cond.instanceMethod ({ cls := "SeenToMove", name := "undo", desc := "()I" } : Jvm.MethodName)) ∈ zTT := zTT_in (List.mem_of_getElem? (i := 902) (by decide +kernel)) rfl
theorem zk_903 : (Jvm.Cond.selects "SeenToMove" ({ cls := "SeenToMove", name := "undo", desc := "()I" } : Jvm.MethodName) ({ cls := "SeenToMove", name := "undo", desc := "()I" } : Jvm.MethodName)) ∈ zTT := zTT_in (List.mem_of_getElem? (i := 903) (by decide +kernel)) rfl
theorem zk_904 : (Jvm.Cond.code ({ cls := "SeenToMove", name := "undo", desc := "()I" } : Jvm.MethodName) prog_1_method_22_code (1 : Nat) (Option.some Jvm.ClassFile.FieldType.int)) ∈ zTT := zTT_in (List.mem_of_getElem? (i := 904) (by decide +kernel)) rfl
theorem zk_905 : (Jvm.Cond.methodLink "SeenToMove" (262 : Nat) ({ cls := "SeenToMove$Undos", name := "giveBack", desc := "(LSeenToMove$State;)I" } : Jvm.MethodName)) ∈ zTT := zTT_in (List.mem_of_getElem? (i := 905) (by decide +kernel)) rfl
theorem zk_906 : (Jvm.Cond.instanceMethod ({ cls := "SeenToMove$Undos", name := "giveBack", desc := "(LSeenToMove$State;)I" } : Jvm.MethodName)) ∈ zTT := zTT_in (List.mem_of_getElem? (i := 906) (by decide +kernel)) rfl
theorem zk_907 : (Jvm.Cond.selects "SeenToMove$Undos" ({ cls := "SeenToMove$Undos", name := "giveBack", desc := "(LSeenToMove$State;)I" } : Jvm.MethodName) ({ cls := "SeenToMove$Undos", name := "giveBack", desc := "(LSeenToMove$State;)I" } : Jvm.MethodName)) ∈ zTT := zTT_in (List.mem_of_getElem? (i := 907) (by decide +kernel)) rfl
theorem zk_908 : (Jvm.Cond.code ({ cls := "SeenToMove$Undos", name := "giveBack", desc := "(LSeenToMove$State;)I" } : Jvm.MethodName) prog_12_method_6_code (4 : Nat) (Option.some Jvm.ClassFile.FieldType.int)) ∈ zTT := zTT_in (List.mem_of_getElem? (i := 908) (by decide +kernel)) rfl
theorem zk_910 : (Jvm.Cond.instanceMethod ({ cls := "SeenToMove", name := "where", desc := "(II)I" } : Jvm.MethodName)) ∈ zTT := zTT_in (List.mem_of_getElem? (i := 910) (by decide +kernel)) rfl
theorem zk_911 : (Jvm.Cond.selects "SeenToMove" ({ cls := "SeenToMove", name := "where", desc := "(II)I" } : Jvm.MethodName) ({ cls := "SeenToMove", name := "where", desc := "(II)I" } : Jvm.MethodName)) ∈ zTT := zTT_in (List.mem_of_getElem? (i := 911) (by decide +kernel)) rfl
theorem zk_912 : (Jvm.Cond.code ({ cls := "SeenToMove", name := "where", desc := "(II)I" } : Jvm.MethodName) prog_1_method_23_code (4 : Nat) (Option.some Jvm.ClassFile.FieldType.int)) ∈ zTT := zTT_in (List.mem_of_getElem? (i := 912) (by decide +kernel)) rfl
theorem zk_914 : (Jvm.Cond.instanceMethod ({ cls := "SeenToMove", name := "comes", desc := "(III)I" } : Jvm.MethodName)) ∈ zTT := zTT_in (List.mem_of_getElem? (i := 914) (by decide +kernel)) rfl
theorem zk_915 : (Jvm.Cond.selects "SeenToMove" ({ cls := "SeenToMove", name := "comes", desc := "(III)I" } : Jvm.MethodName) ({ cls := "SeenToMove", name := "comes", desc := "(III)I" } : Jvm.MethodName)) ∈ zTT := zTT_in (List.mem_of_getElem? (i := 915) (by decide +kernel)) rfl
theorem zk_916 : (Jvm.Cond.code ({ cls := "SeenToMove", name := "comes", desc := "(III)I" } : Jvm.MethodName) prog_1_method_24_code (6 : Nat) (Option.some Jvm.ClassFile.FieldType.int)) ∈ zTT := zTT_in (List.mem_of_getElem? (i := 916) (by decide +kernel)) rfl
theorem zk_918 : (Jvm.Cond.instanceMethod ({ cls := "SeenToMove", name := "cover", desc := "()I" } : Jvm.MethodName)) ∈ zTT := zTT_in (List.mem_of_getElem? (i := 918) (by decide +kernel)) rfl
theorem zk_919 : (Jvm.Cond.selects "SeenToMove" ({ cls := "SeenToMove", name := "cover", desc := "()I" } : Jvm.MethodName) ({ cls := "SeenToMove", name := "cover", desc := "()I" } : Jvm.MethodName)) ∈ zTT := zTT_in (List.mem_of_getElem? (i := 919) (by decide +kernel)) rfl
theorem zk_920 : (Jvm.Cond.code ({ cls := "SeenToMove", name := "cover", desc := "()I" } : Jvm.MethodName) prog_1_method_25_code (5 : Nat) (Option.some Jvm.ClassFile.FieldType.int)) ∈ zTT := zTT_in (List.mem_of_getElem? (i := 920) (by decide +kernel)) rfl
theorem zk_921 : (Jvm.Cond.methodLink "SeenToMove" (266 : Nat) ({ cls := "SeenToMove", name := "markSights", desc := "(Z)V" } : Jvm.MethodName)) ∈ zTT := zTT_in (List.mem_of_getElem? (i := 921) (by decide +kernel)) rfl
theorem zk_923 : (Jvm.Cond.instanceMethod ({ cls := "SeenToMove", name := "markSights", desc := "(Z)V" } : Jvm.MethodName)) ∈ zTT := zTT_in (List.mem_of_getElem? (i := 923) (by decide +kernel)) rfl
theorem zk_924 : (Jvm.Cond.code ({ cls := "SeenToMove", name := "markSights", desc := "(Z)V" } : Jvm.MethodName) prog_1_method_26_code (5 : Nat) (Option.none : Option Jvm.ClassFile.FieldType)) ∈ zTT := zTT_in (List.mem_of_getElem? (i := 924) (by decide +kernel)) rfl
theorem zk_925 : (Jvm.Cond.methodLink "SeenToMove" (287 : Nat) ({ cls := "SeenToMove", name := "put", desc := "([III)V" } : Jvm.MethodName)) ∈ zTT := zTT_in (List.mem_of_getElem? (i := 925) (by decide +kernel)) rfl
theorem zk_926 : (Jvm.Cond.methodLink "SeenToMove" (270 : Nat) ({ cls := "SeenToMove", name := "sightsOf", desc := "(I)I" } : Jvm.MethodName)) ∈ zTT := zTT_in (List.mem_of_getElem? (i := 926) (by decide +kernel)) rfl
theorem zk_928 : (Jvm.Cond.instanceMethod ({ cls := "SeenToMove", name := "sightsOf", desc := "(I)I" } : Jvm.MethodName)) ∈ zTT := zTT_in (List.mem_of_getElem? (i := 928) (by decide +kernel)) rfl
theorem zk_929 : (Jvm.Cond.code ({ cls := "SeenToMove", name := "sightsOf", desc := "(I)I" } : Jvm.MethodName) prog_1_method_27_code (4 : Nat) (Option.some Jvm.ClassFile.FieldType.int)) ∈ zTT := zTT_in (List.mem_of_getElem? (i := 929) (by decide +kernel)) rfl
theorem zk_930 : (Jvm.Cond.methodLink "SeenToMove" (284 : Nat) ({ cls := "SeenToMove", name := "digit", desc := "(II)I" } : Jvm.MethodName)) ∈ zTT := zTT_in (List.mem_of_getElem? (i := 930) (by decide +kernel)) rfl
theorem zk_932 : (Jvm.Cond.instanceMethod ({ cls := "SeenToMove", name := "digit", desc := "(II)I" } : Jvm.MethodName)) ∈ zTT := zTT_in (List.mem_of_getElem? (i := 932) (by decide +kernel)) rfl
theorem zk_933 : (Jvm.Cond.code ({ cls := "SeenToMove", name := "digit", desc := "(II)I" } : Jvm.MethodName) prog_1_method_28_code (3 : Nat) (Option.some Jvm.ClassFile.FieldType.int)) ∈ zTT := zTT_in (List.mem_of_getElem? (i := 933) (by decide +kernel)) rfl
theorem zk_934 : (Jvm.Cond.methodLink "SeenToMove" (273 : Nat) ({ cls := "java/lang/Integer", name := "bitCount", desc := "(I)I" } : Jvm.MethodName)) ∈ zTT := zTT_in (List.mem_of_getElem? (i := 934) (by decide +kernel)) rfl
theorem zk_935 : (Jvm.Cond.static ({ cls := "java/lang/Integer", name := "bitCount", desc := "(I)I" } : Jvm.MethodName)) ∈ zTT := zTT_in (List.mem_of_getElem? (i := 935) (by decide +kernel)) rfl
theorem zk_936 : (Jvm.Cond.code ({ cls := "java/lang/Integer", name := "bitCount", desc := "(I)I" } : Jvm.MethodName) prog_19_method_49_code (1 : Nat) (Option.some Jvm.ClassFile.FieldType.int)) ∈ zTT := zTT_in (List.mem_of_getElem? (i := 936) (by decide +kernel)) rfl
theorem zk_937 : (Jvm.Cond.constant "java/lang/Integer" (265 : Nat) (1431655765 : Int32)) ∈ zTT := zTT_in (List.mem_of_getElem? (i := 937) (by decide +kernel)) rfl
theorem zk_938 : (Jvm.Cond.constant "java/lang/Integer" (266 : Nat) (858993459 : Int32)) ∈ zTT := zTT_in (List.mem_of_getElem? (i := 938) (by decide +kernel)) rfl
theorem zk_939 : (Jvm.Cond.constant "java/lang/Integer" (267 : Nat) (252645135 : Int32)) ∈ zTT := zTT_in (List.mem_of_getElem? (i := 939) (by decide +kernel)) rfl
theorem zk_941 : (Jvm.Cond.instanceMethod ({ cls := "SeenToMove", name := "coverBy", desc := "(I)I" } : Jvm.MethodName)) ∈ zTT := zTT_in (List.mem_of_getElem? (i := 941) (by decide +kernel)) rfl
theorem zk_942 : (Jvm.Cond.selects "SeenToMove" ({ cls := "SeenToMove", name := "coverBy", desc := "(I)I" } : Jvm.MethodName) ({ cls := "SeenToMove", name := "coverBy", desc := "(I)I" } : Jvm.MethodName)) ∈ zTT := zTT_in (List.mem_of_getElem? (i := 942) (by decide +kernel)) rfl
theorem zk_943 : (Jvm.Cond.code ({ cls := "SeenToMove", name := "coverBy", desc := "(I)I" } : Jvm.MethodName) prog_1_method_29_code (2 : Nat) (Option.some Jvm.ClassFile.FieldType.int)) ∈ zTT := zTT_in (List.mem_of_getElem? (i := 943) (by decide +kernel)) rfl
theorem zk_945 : (Jvm.Cond.instanceMethod ({ cls := "SeenToMove", name := "few", desc := "()I" } : Jvm.MethodName)) ∈ zTT := zTT_in (List.mem_of_getElem? (i := 945) (by decide +kernel)) rfl
theorem zk_946 : (Jvm.Cond.selects "SeenToMove" ({ cls := "SeenToMove", name := "few", desc := "()I" } : Jvm.MethodName) ({ cls := "SeenToMove", name := "few", desc := "()I" } : Jvm.MethodName)) ∈ zTT := zTT_in (List.mem_of_getElem? (i := 946) (by decide +kernel)) rfl
theorem zk_947 : (Jvm.Cond.code ({ cls := "SeenToMove", name := "few", desc := "()I" } : Jvm.MethodName) prog_1_method_30_code (3 : Nat) (Option.some Jvm.ClassFile.FieldType.int)) ∈ zTT := zTT_in (List.mem_of_getElem? (i := 947) (by decide +kernel)) rfl
theorem zk_948 : (Jvm.Cond.methodLink "SeenToMove" (291 : Nat) ({ cls := "SeenToMove", name := "couldSeeAll", desc := "(I)Z" } : Jvm.MethodName)) ∈ zTT := zTT_in (List.mem_of_getElem? (i := 948) (by decide +kernel)) rfl
theorem zk_950 : (Jvm.Cond.instanceMethod ({ cls := "SeenToMove", name := "couldSeeAll", desc := "(I)Z" } : Jvm.MethodName)) ∈ zTT := zTT_in (List.mem_of_getElem? (i := 950) (by decide +kernel)) rfl
theorem zk_951 : (Jvm.Cond.code ({ cls := "SeenToMove", name := "couldSeeAll", desc := "(I)Z" } : Jvm.MethodName) prog_1_method_31_code (8 : Nat) (Option.some Jvm.ClassFile.FieldType.boolean)) ∈ zTT := zTT_in (List.mem_of_getElem? (i := 951) (by decide +kernel)) rfl
theorem zk_953 : (Jvm.Cond.instanceMethod ({ cls := "SeenToMove", name := "fewest", desc := "()I" } : Jvm.MethodName)) ∈ zTT := zTT_in (List.mem_of_getElem? (i := 953) (by decide +kernel)) rfl
theorem zk_954 : (Jvm.Cond.selects "SeenToMove" ({ cls := "SeenToMove", name := "fewest", desc := "()I" } : Jvm.MethodName) ({ cls := "SeenToMove", name := "fewest", desc := "()I" } : Jvm.MethodName)) ∈ zTT := zTT_in (List.mem_of_getElem? (i := 954) (by decide +kernel)) rfl
theorem zk_955 : (Jvm.Cond.code ({ cls := "SeenToMove", name := "fewest", desc := "()I" } : Jvm.MethodName) prog_1_method_32_code (1 : Nat) (Option.some Jvm.ClassFile.FieldType.int)) ∈ zTT := zTT_in (List.mem_of_getElem? (i := 955) (by decide +kernel)) rfl
theorem zk_957 : (Jvm.Cond.instanceMethod ({ cls := "SeenToMove", name := "blind", desc := "(IIII)I" } : Jvm.MethodName)) ∈ zTT := zTT_in (List.mem_of_getElem? (i := 957) (by decide +kernel)) rfl
theorem zk_958 : (Jvm.Cond.selects "SeenToMove" ({ cls := "SeenToMove", name := "blind", desc := "(IIII)I" } : Jvm.MethodName) ({ cls := "SeenToMove", name := "blind", desc := "(IIII)I" } : Jvm.MethodName)) ∈ zTT := zTT_in (List.mem_of_getElem? (i := 958) (by decide +kernel)) rfl
theorem zk_959 : (Jvm.Cond.code ({ cls := "SeenToMove", name := "blind", desc := "(IIII)I" } : Jvm.MethodName) prog_1_method_33_code (7 : Nat) (Option.some Jvm.ClassFile.FieldType.int)) ∈ zTT := zTT_in (List.mem_of_getElem? (i := 959) (by decide +kernel)) rfl
theorem zk_960 : (Jvm.Cond.methodLink "SeenToMove" (297 : Nat) ({ cls := "SeenToMove", name := "comesBlind", desc := "(IIII)Z" } : Jvm.MethodName)) ∈ zTT := zTT_in (List.mem_of_getElem? (i := 960) (by decide +kernel)) rfl
theorem zk_962 : (Jvm.Cond.instanceMethod ({ cls := "SeenToMove", name := "comesBlind", desc := "(IIII)Z" } : Jvm.MethodName)) ∈ zTT := zTT_in (List.mem_of_getElem? (i := 962) (by decide +kernel)) rfl
theorem zk_963 : (Jvm.Cond.code ({ cls := "SeenToMove", name := "comesBlind", desc := "(IIII)Z" } : Jvm.MethodName) prog_1_method_34_code (6 : Nat) (Option.some Jvm.ClassFile.FieldType.boolean)) ∈ zTT := zTT_in (List.mem_of_getElem? (i := 963) (by decide +kernel)) rfl
theorem zk_965 : (Jvm.Cond.instanceMethod ({ cls := "SeenToMove", name := "blinded", desc := "()I" } : Jvm.MethodName)) ∈ zTT := zTT_in (List.mem_of_getElem? (i := 965) (by decide +kernel)) rfl
theorem zk_966 : (Jvm.Cond.selects "SeenToMove" ({ cls := "SeenToMove", name := "blinded", desc := "()I" } : Jvm.MethodName) ({ cls := "SeenToMove", name := "blinded", desc := "()I" } : Jvm.MethodName)) ∈ zTT := zTT_in (List.mem_of_getElem? (i := 966) (by decide +kernel)) rfl
theorem zk_967 : (Jvm.Cond.code ({ cls := "SeenToMove", name := "blinded", desc := "()I" } : Jvm.MethodName) prog_1_method_35_code (1 : Nat) (Option.some Jvm.ClassFile.FieldType.int)) ∈ zTT := zTT_in (List.mem_of_getElem? (i := 967) (by decide +kernel)) rfl
theorem zk_969 : (Jvm.Cond.instanceMethod ({ cls := "SeenToMove", name := "fits", desc := "()I" } : Jvm.MethodName)) ∈ zTT := zTT_in (List.mem_of_getElem? (i := 969) (by decide +kernel)) rfl
theorem zk_970 : (Jvm.Cond.selects "SeenToMove" ({ cls := "SeenToMove", name := "fits", desc := "()I" } : Jvm.MethodName) ({ cls := "SeenToMove", name := "fits", desc := "()I" } : Jvm.MethodName)) ∈ zTT := zTT_in (List.mem_of_getElem? (i := 970) (by decide +kernel)) rfl
theorem zk_971 : (Jvm.Cond.code ({ cls := "SeenToMove", name := "fits", desc := "()I" } : Jvm.MethodName) prog_1_method_36_code (2 : Nat) (Option.some Jvm.ClassFile.FieldType.int)) ∈ zTT := zTT_in (List.mem_of_getElem? (i := 971) (by decide +kernel)) rfl
theorem zk_972 : (Jvm.Cond.methodLink "SeenToMove" (304 : Nat) ({ cls := "SeenToMove$Fits", name := "readCells", desc := "(LSeenToMove$Tape;LSeenToMove$Field;)Z" } : Jvm.MethodName)) ∈ zTT := zTT_in (List.mem_of_getElem? (i := 972) (by decide +kernel)) rfl
theorem zk_973 : (Jvm.Cond.instanceMethod ({ cls := "SeenToMove$Fits", name := "readCells", desc := "(LSeenToMove$Tape;LSeenToMove$Field;)Z" } : Jvm.MethodName)) ∈ zTT := zTT_in (List.mem_of_getElem? (i := 973) (by decide +kernel)) rfl
theorem zk_974 : (Jvm.Cond.selects "SeenToMove$Fits" ({ cls := "SeenToMove$Fits", name := "readCells", desc := "(LSeenToMove$Tape;LSeenToMove$Field;)Z" } : Jvm.MethodName) ({ cls := "SeenToMove$Fits", name := "readCells", desc := "(LSeenToMove$Tape;LSeenToMove$Field;)Z" } : Jvm.MethodName)) ∈ zTT := zTT_in (List.mem_of_getElem? (i := 974) (by decide +kernel)) rfl
theorem zk_975 : (Jvm.Cond.code ({ cls := "SeenToMove$Fits", name := "readCells", desc := "(LSeenToMove$Tape;LSeenToMove$Field;)Z" } : Jvm.MethodName) prog_6_method_2_code (6 : Nat) (Option.some Jvm.ClassFile.FieldType.boolean)) ∈ zTT := zTT_in (List.mem_of_getElem? (i := 975) (by decide +kernel)) rfl
theorem zk_976 : (Jvm.Cond.methodLink "SeenToMove$Fits" (33 : Nat) ({ cls := "SeenToMove$Tape", name := "signAt", desc := "(I)I" } : Jvm.MethodName)) ∈ zTT := zTT_in (List.mem_of_getElem? (i := 976) (by decide +kernel)) rfl
theorem zk_977 : (Jvm.Cond.methodLink "SeenToMove$Fits" (37 : Nat) ({ cls := "SeenToMove$Field", name := "hasCell", desc := "(II)Z" } : Jvm.MethodName)) ∈ zTT := zTT_in (List.mem_of_getElem? (i := 977) (by decide +kernel)) rfl
theorem zk_978 : (Jvm.Cond.methodLink "SeenToMove$Fits" (43 : Nat) ({ cls := "SeenToMove$Field", name := "hasHedge", desc := "(I)Z" } : Jvm.MethodName)) ∈ zTT := zTT_in (List.mem_of_getElem? (i := 978) (by decide +kernel)) rfl
theorem zkn_979 : (Jvm.Cond.methodLinkNest "SeenToMove$Fits" (47 : Nat) ({ cls := "SeenToMove", name := "put", desc := "([III)V" } : Jvm.MethodName) "SeenToMove") ∈ zNest := List.mem_filter.mpr ⟨List.mem_of_getElem? (i := 979) (by decide +kernel), rfl⟩
theorem zk_980 : (Jvm.Cond.methodLink "SeenToMove" (308 : Nat) ({ cls := "SeenToMove$Fits", name := "find", desc := "(LSeenToMove$Field;)I" } : Jvm.MethodName)) ∈ zTT := zTT_in (List.mem_of_getElem? (i := 980) (by decide +kernel)) rfl
theorem zk_981 : (Jvm.Cond.instanceMethod ({ cls := "SeenToMove$Fits", name := "find", desc := "(LSeenToMove$Field;)I" } : Jvm.MethodName)) ∈ zTT := zTT_in (List.mem_of_getElem? (i := 981) (by decide +kernel)) rfl
theorem zk_982 : (Jvm.Cond.selects "SeenToMove$Fits" ({ cls := "SeenToMove$Fits", name := "find", desc := "(LSeenToMove$Field;)I" } : Jvm.MethodName) ({ cls := "SeenToMove$Fits", name := "find", desc := "(LSeenToMove$Field;)I" } : Jvm.MethodName)) ∈ zTT := zTT_in (List.mem_of_getElem? (i := 982) (by decide +kernel)) rfl
theorem zk_983 : (Jvm.Cond.code ({ cls := "SeenToMove$Fits", name := "find", desc := "(LSeenToMove$Field;)I" } : Jvm.MethodName) prog_6_method_3_code (4 : Nat) (Option.some Jvm.ClassFile.FieldType.int)) ∈ zTT := zTT_in (List.mem_of_getElem? (i := 983) (by decide +kernel)) rfl
theorem zk_984 : (Jvm.Cond.methodLink "SeenToMove$Fits" (51 : Nat) ({ cls := "SeenToMove$Fits", name := "goAlone", desc := "(LSeenToMove$Field;I)V" } : Jvm.MethodName)) ∈ zTT := zTT_in (List.mem_of_getElem? (i := 984) (by decide +kernel)) rfl
theorem zk_986 : (Jvm.Cond.instanceMethod ({ cls := "SeenToMove$Fits", name := "goAlone", desc := "(LSeenToMove$Field;I)V" } : Jvm.MethodName)) ∈ zTT := zTT_in (List.mem_of_getElem? (i := 986) (by decide +kernel)) rfl
theorem zk_987 : (Jvm.Cond.code ({ cls := "SeenToMove$Fits", name := "goAlone", desc := "(LSeenToMove$Field;I)V" } : Jvm.MethodName) prog_6_method_4_code (8 : Nat) (Option.none : Option Jvm.ClassFile.FieldType)) ∈ zTT := zTT_in (List.mem_of_getElem? (i := 987) (by decide +kernel)) rfl
theorem zkn_988 : (Jvm.Cond.methodLinkNest "SeenToMove$Fits" (63 : Nat) ({ cls := "SeenToMove", name := "at", desc := "([II)I" } : Jvm.MethodName) "SeenToMove") ∈ zNest := List.mem_filter.mpr ⟨List.mem_of_getElem? (i := 988) (by decide +kernel), rfl⟩
theorem zkn_989 : (Jvm.Cond.methodLinkNest "SeenToMove$Fits" (67 : Nat) ({ cls := "SeenToMove", name := "divides", desc := "(II)Z" } : Jvm.MethodName) "SeenToMove") ∈ zNest := List.mem_filter.mpr ⟨List.mem_of_getElem? (i := 989) (by decide +kernel), rfl⟩
theorem zk_990 : (Jvm.Cond.methodLink "SeenToMove$Fits" (70 : Nat) ({ cls := "SeenToMove$Field", name := "beside", desc := "(II)I" } : Jvm.MethodName)) ∈ zTT := zTT_in (List.mem_of_getElem? (i := 990) (by decide +kernel)) rfl
theorem zk_991 : (Jvm.Cond.methodLink "SeenToMove$Fits" (55 : Nat) ({ cls := "SeenToMove$Fits", name := "isAsShown", desc := "(I)Z" } : Jvm.MethodName)) ∈ zTT := zTT_in (List.mem_of_getElem? (i := 991) (by decide +kernel)) rfl
theorem zk_993 : (Jvm.Cond.instanceMethod ({ cls := "SeenToMove$Fits", name := "isAsShown", desc := "(I)Z" } : Jvm.MethodName)) ∈ zTT := zTT_in (List.mem_of_getElem? (i := 993) (by decide +kernel)) rfl
theorem zk_994 : (Jvm.Cond.code ({ cls := "SeenToMove$Fits", name := "isAsShown", desc := "(I)Z" } : Jvm.MethodName) prog_6_method_5_code (3 : Nat) (Option.some Jvm.ClassFile.FieldType.boolean)) ∈ zTT := zTT_in (List.mem_of_getElem? (i := 994) (by decide +kernel)) rfl
theorem zk_995 : (Jvm.Cond.methodLink "SeenToMove$Fits" (59 : Nat) ({ cls := "SeenToMove$Fits", name := "bestHour", desc := "()I" } : Jvm.MethodName)) ∈ zTT := zTT_in (List.mem_of_getElem? (i := 995) (by decide +kernel)) rfl
theorem zk_997 : (Jvm.Cond.instanceMethod ({ cls := "SeenToMove$Fits", name := "bestHour", desc := "()I" } : Jvm.MethodName)) ∈ zTT := zTT_in (List.mem_of_getElem? (i := 997) (by decide +kernel)) rfl
theorem zk_998 : (Jvm.Cond.code ({ cls := "SeenToMove$Fits", name := "bestHour", desc := "()I" } : Jvm.MethodName) prog_6_method_6_code (3 : Nat) (Option.some Jvm.ClassFile.FieldType.int)) ∈ zTT := zTT_in (List.mem_of_getElem? (i := 998) (by decide +kernel)) rfl
theorem zk_999 : (Jvm.Cond.methodLink "SeenToMove$Fits" (74 : Nat) ({ cls := "SeenToMove$Fits", name := "mostLeft", desc := "(I)I" } : Jvm.MethodName)) ∈ zTT := zTT_in (List.mem_of_getElem? (i := 999) (by decide +kernel)) rfl
theorem zk_1001 : (Jvm.Cond.instanceMethod ({ cls := "SeenToMove$Fits", name := "mostLeft", desc := "(I)I" } : Jvm.MethodName)) ∈ zTT := zTT_in (List.mem_of_getElem? (i := 1001) (by decide +kernel)) rfl
theorem zk_1002 : (Jvm.Cond.code ({ cls := "SeenToMove$Fits", name := "mostLeft", desc := "(I)I" } : Jvm.MethodName) prog_6_method_7_code (7 : Nat) (Option.some Jvm.ClassFile.FieldType.int)) ∈ zTT := zTT_in (List.mem_of_getElem? (i := 1002) (by decide +kernel)) rfl
theorem zk_1003 : (Jvm.Cond.methodLink "SeenToMove$Fits" (77 : Nat) ({ cls := "java/lang/Math", name := "max", desc := "(II)I" } : Jvm.MethodName)) ∈ zTT := zTT_in (List.mem_of_getElem? (i := 1003) (by decide +kernel)) rfl
theorem zk_1004 : (Jvm.Cond.static ({ cls := "java/lang/Math", name := "max", desc := "(II)I" } : Jvm.MethodName)) ∈ zTT := zTT_in (List.mem_of_getElem? (i := 1004) (by decide +kernel)) rfl
theorem zk_1005 : (Jvm.Cond.code ({ cls := "java/lang/Math", name := "max", desc := "(II)I" } : Jvm.MethodName) prog_20_method_65_code (2 : Nat) (Option.some Jvm.ClassFile.FieldType.int)) ∈ zTT := zTT_in (List.mem_of_getElem? (i := 1005) (by decide +kernel)) rfl
theorem zk_1007 : (Jvm.Cond.instanceMethod ({ cls := "SeenToMove", name := "fitsAt", desc := "(I)I" } : Jvm.MethodName)) ∈ zTT := zTT_in (List.mem_of_getElem? (i := 1007) (by decide +kernel)) rfl
theorem zk_1008 : (Jvm.Cond.selects "SeenToMove" ({ cls := "SeenToMove", name := "fitsAt", desc := "(I)I" } : Jvm.MethodName) ({ cls := "SeenToMove", name := "fitsAt", desc := "(I)I" } : Jvm.MethodName)) ∈ zTT := zTT_in (List.mem_of_getElem? (i := 1008) (by decide +kernel)) rfl
theorem zk_1009 : (Jvm.Cond.code ({ cls := "SeenToMove", name := "fitsAt", desc := "(I)I" } : Jvm.MethodName) prog_1_method_37_code (2 : Nat) (Option.some Jvm.ClassFile.FieldType.int)) ∈ zTT := zTT_in (List.mem_of_getElem? (i := 1009) (by decide +kernel)) rfl
theorem zk_1011 : (Jvm.Cond.instanceMethod ({ cls := "SeenToMove", name := "ask", desc := "()I" } : Jvm.MethodName)) ∈ zTT := zTT_in (List.mem_of_getElem? (i := 1011) (by decide +kernel)) rfl
theorem zk_1012 : (Jvm.Cond.selects "SeenToMove" ({ cls := "SeenToMove", name := "ask", desc := "()I" } : Jvm.MethodName) ({ cls := "SeenToMove", name := "ask", desc := "()I" } : Jvm.MethodName)) ∈ zTT := zTT_in (List.mem_of_getElem? (i := 1012) (by decide +kernel)) rfl
theorem zk_1013 : (Jvm.Cond.code ({ cls := "SeenToMove", name := "ask", desc := "()I" } : Jvm.MethodName) prog_1_method_38_code (1 : Nat) (Option.some Jvm.ClassFile.FieldType.int)) ∈ zTT := zTT_in (List.mem_of_getElem? (i := 1013) (by decide +kernel)) rfl
theorem zk_1015 : (Jvm.Cond.instanceMethod ({ cls := "SeenToMove", name := "grown", desc := "()I" } : Jvm.MethodName)) ∈ zTT := zTT_in (List.mem_of_getElem? (i := 1015) (by decide +kernel)) rfl
theorem zk_1016 : (Jvm.Cond.selects "SeenToMove" ({ cls := "SeenToMove", name := "grown", desc := "()I" } : Jvm.MethodName) ({ cls := "SeenToMove", name := "grown", desc := "()I" } : Jvm.MethodName)) ∈ zTT := zTT_in (List.mem_of_getElem? (i := 1016) (by decide +kernel)) rfl
theorem zk_1017 : (Jvm.Cond.code ({ cls := "SeenToMove", name := "grown", desc := "()I" } : Jvm.MethodName) prog_1_method_39_code (5 : Nat) (Option.some Jvm.ClassFile.FieldType.int)) ∈ zTT := zTT_in (List.mem_of_getElem? (i := 1017) (by decide +kernel)) rfl
theorem zk_1019 : (Jvm.Cond.instanceMethod ({ cls := "SeenToMove", name := "farthest", desc := "()I" } : Jvm.MethodName)) ∈ zTT := zTT_in (List.mem_of_getElem? (i := 1019) (by decide +kernel)) rfl
theorem zk_1020 : (Jvm.Cond.selects "SeenToMove" ({ cls := "SeenToMove", name := "farthest", desc := "()I" } : Jvm.MethodName) ({ cls := "SeenToMove", name := "farthest", desc := "()I" } : Jvm.MethodName)) ∈ zTT := zTT_in (List.mem_of_getElem? (i := 1020) (by decide +kernel)) rfl
theorem zk_1021 : (Jvm.Cond.code ({ cls := "SeenToMove", name := "farthest", desc := "()I" } : Jvm.MethodName) prog_1_method_40_code (3 : Nat) (Option.some Jvm.ClassFile.FieldType.int)) ∈ zTT := zTT_in (List.mem_of_getElem? (i := 1021) (by decide +kernel)) rfl
theorem zk_1027 : (Jvm.Cond.static ({ cls := "SeenToMove", name := "nameAt", desc := "([JI)J" } : Jvm.MethodName)) ∈ zTT := zTT_in (List.mem_of_getElem? (i := 1027) (by decide +kernel)) rfl
theorem zk_1028 : (Jvm.Cond.code ({ cls := "SeenToMove", name := "nameAt", desc := "([JI)J" } : Jvm.MethodName) prog_1_method_60_code (2 : Nat) (Option.some Jvm.ClassFile.FieldType.long)) ∈ zTT := zTT_in (List.mem_of_getElem? (i := 1028) (by decide +kernel)) rfl
theorem zk_1030 : (Jvm.Cond.instanceMethod ({ cls := "SeenToMove$Answers", name := "addName", desc := "(J)V" } : Jvm.MethodName)) ∈ zTT := zTT_in (List.mem_of_getElem? (i := 1030) (by decide +kernel)) rfl
theorem zk_1031 : (Jvm.Cond.selects "SeenToMove$Answers" ({ cls := "SeenToMove$Answers", name := "addName", desc := "(J)V" } : Jvm.MethodName) ({ cls := "SeenToMove$Answers", name := "addName", desc := "(J)V" } : Jvm.MethodName)) ∈ zTT := zTT_in (List.mem_of_getElem? (i := 1031) (by decide +kernel)) rfl
theorem zk_1032 : (Jvm.Cond.code ({ cls := "SeenToMove$Answers", name := "addName", desc := "(J)V" } : Jvm.MethodName) prog_2_method_5_code (5 : Nat) (Option.none : Option Jvm.ClassFile.FieldType)) ∈ zTT := zTT_in (List.mem_of_getElem? (i := 1032) (by decide +kernel)) rfl
theorem zk_1033 : (Jvm.Cond.methodLink "SeenToMove$Answers" (57 : Nat) ({ cls := "SeenToMove$Answers", name := "addSign", desc := "(I)V" } : Jvm.MethodName)) ∈ zTT := zTT_in (List.mem_of_getElem? (i := 1033) (by decide +kernel)) rfl
theorem zk_1034 : (Jvm.Cond.instanceMethod ({ cls := "SeenToMove$Answers", name := "addSign", desc := "(I)V" } : Jvm.MethodName)) ∈ zTT := zTT_in (List.mem_of_getElem? (i := 1034) (by decide +kernel)) rfl
theorem zk_1035 : (Jvm.Cond.selects "SeenToMove$Answers" ({ cls := "SeenToMove$Answers", name := "addSign", desc := "(I)V" } : Jvm.MethodName) ({ cls := "SeenToMove$Answers", name := "addSign", desc := "(I)V" } : Jvm.MethodName)) ∈ zTT := zTT_in (List.mem_of_getElem? (i := 1035) (by decide +kernel)) rfl
theorem zk_1036 : (Jvm.Cond.code ({ cls := "SeenToMove$Answers", name := "addSign", desc := "(I)V" } : Jvm.MethodName) prog_2_method_3_code (2 : Nat) (Option.none : Option Jvm.ClassFile.FieldType)) ∈ zTT := zTT_in (List.mem_of_getElem? (i := 1036) (by decide +kernel)) rfl
theorem zkn_1037 : (Jvm.Cond.methodLinkNest "SeenToMove$Answers" (32 : Nat) ({ cls := "SeenToMove", name := "put", desc := "([III)V" } : Jvm.MethodName) "SeenToMove") ∈ zNest := List.mem_filter.mpr ⟨List.mem_of_getElem? (i := 1037) (by decide +kernel), rfl⟩
theorem zk_1049 : (Jvm.Cond.instanceMethod ({ cls := "SeenToMove", name := "byteAt", desc := "(I)I" } : Jvm.MethodName)) ∈ zTT := zTT_in (List.mem_of_getElem? (i := 1049) (by decide +kernel)) rfl
theorem zk_1050 : (Jvm.Cond.selects "SeenToMove" ({ cls := "SeenToMove", name := "byteAt", desc := "(I)I" } : Jvm.MethodName) ({ cls := "SeenToMove", name := "byteAt", desc := "(I)I" } : Jvm.MethodName)) ∈ zTT := zTT_in (List.mem_of_getElem? (i := 1050) (by decide +kernel)) rfl
theorem zk_1051 : (Jvm.Cond.code ({ cls := "SeenToMove", name := "byteAt", desc := "(I)I" } : Jvm.MethodName) prog_1_method_44_code (2 : Nat) (Option.some Jvm.ClassFile.FieldType.int)) ∈ zTT := zTT_in (List.mem_of_getElem? (i := 1051) (by decide +kernel)) rfl
theorem zk_1053 : (Jvm.Cond.instanceMethod ({ cls := "SeenToMove", name := "drawn", desc := "(II)I" } : Jvm.MethodName)) ∈ zTT := zTT_in (List.mem_of_getElem? (i := 1053) (by decide +kernel)) rfl
theorem zk_1054 : (Jvm.Cond.selects "SeenToMove" ({ cls := "SeenToMove", name := "drawn", desc := "(II)I" } : Jvm.MethodName) ({ cls := "SeenToMove", name := "drawn", desc := "(II)I" } : Jvm.MethodName)) ∈ zTT := zTT_in (List.mem_of_getElem? (i := 1054) (by decide +kernel)) rfl
theorem zk_1055 : (Jvm.Cond.code ({ cls := "SeenToMove", name := "drawn", desc := "(II)I" } : Jvm.MethodName) prog_1_method_45_code (6 : Nat) (Option.some Jvm.ClassFile.FieldType.int)) ∈ zTT := zTT_in (List.mem_of_getElem? (i := 1055) (by decide +kernel)) rfl
theorem zk_1056 : (Jvm.Cond.methodLink "SeenToMove" (360 : Nat) ({ cls := "SeenToMove$State", name := "goDrawnHour", desc := "(I)I" } : Jvm.MethodName)) ∈ zTT := zTT_in (List.mem_of_getElem? (i := 1056) (by decide +kernel)) rfl
theorem zk_1057 : (Jvm.Cond.instanceMethod ({ cls := "SeenToMove$State", name := "goDrawnHour", desc := "(I)I" } : Jvm.MethodName)) ∈ zTT := zTT_in (List.mem_of_getElem? (i := 1057) (by decide +kernel)) rfl
theorem zk_1058 : (Jvm.Cond.selects "SeenToMove$State" ({ cls := "SeenToMove$State", name := "goDrawnHour", desc := "(I)I" } : Jvm.MethodName) ({ cls := "SeenToMove$State", name := "goDrawnHour", desc := "(I)I" } : Jvm.MethodName)) ∈ zTT := zTT_in (List.mem_of_getElem? (i := 1058) (by decide +kernel)) rfl
theorem zk_1059 : (Jvm.Cond.code ({ cls := "SeenToMove$State", name := "goDrawnHour", desc := "(I)I" } : Jvm.MethodName) prog_10_method_20_code (5 : Nat) (Option.some Jvm.ClassFile.FieldType.int)) ∈ zTT := zTT_in (List.mem_of_getElem? (i := 1059) (by decide +kernel)) rfl
theorem zk_1060 : (Jvm.Cond.methodLink "SeenToMove$State" (139 : Nat) ({ cls := "SeenToMove$State", name := "nextSeed", desc := "(I)I" } : Jvm.MethodName)) ∈ zTT := zTT_in (List.mem_of_getElem? (i := 1060) (by decide +kernel)) rfl
theorem zk_1061 : (Jvm.Cond.static ({ cls := "SeenToMove$State", name := "nextSeed", desc := "(I)I" } : Jvm.MethodName)) ∈ zTT := zTT_in (List.mem_of_getElem? (i := 1061) (by decide +kernel)) rfl
theorem zk_1062 : (Jvm.Cond.code ({ cls := "SeenToMove$State", name := "nextSeed", desc := "(I)I" } : Jvm.MethodName) prog_10_method_21_code (1 : Nat) (Option.some Jvm.ClassFile.FieldType.int)) ∈ zTT := zTT_in (List.mem_of_getElem? (i := 1062) (by decide +kernel)) rfl
theorem zk_1063 : (Jvm.Cond.constant "SeenToMove$State" (154 : Nat) (1103515245 : Int32)) ∈ zTT := zTT_in (List.mem_of_getElem? (i := 1063) (by decide +kernel)) rfl
theorem zk_1064 : (Jvm.Cond.methodLink "SeenToMove$State" (142 : Nat) ({ cls := "SeenToMove$State", name := "turnTo", desc := "(II)I" } : Jvm.MethodName)) ∈ zTT := zTT_in (List.mem_of_getElem? (i := 1064) (by decide +kernel)) rfl
theorem zk_1065 : (Jvm.Cond.methodLink "SeenToMove$State" (145 : Nat) ({ cls := "SeenToMove$State", name := "setEyes", desc := "(II)I" } : Jvm.MethodName)) ∈ zTT := zTT_in (List.mem_of_getElem? (i := 1065) (by decide +kernel)) rfl
theorem zk_1066 : (Jvm.Cond.methodLink "SeenToMove$State" (148 : Nat) ({ cls := "SeenToMove$State", name := "walkTo", desc := "(II)I" } : Jvm.MethodName)) ∈ zTT := zTT_in (List.mem_of_getElem? (i := 1066) (by decide +kernel)) rfl
theorem zk_1067 : (Jvm.Cond.methodLink "SeenToMove$State" (151 : Nat) ({ cls := "SeenToMove$State", name := "goHour", desc := "()V" } : Jvm.MethodName)) ∈ zTT := zTT_in (List.mem_of_getElem? (i := 1067) (by decide +kernel)) rfl
theorem zk_1069 : (Jvm.Cond.instanceMethod ({ cls := "SeenToMove", name := "odds", desc := "(III)I" } : Jvm.MethodName)) ∈ zTT := zTT_in (List.mem_of_getElem? (i := 1069) (by decide +kernel)) rfl
theorem zk_1070 : (Jvm.Cond.selects "SeenToMove" ({ cls := "SeenToMove", name := "odds", desc := "(III)I" } : Jvm.MethodName) ({ cls := "SeenToMove", name := "odds", desc := "(III)I" } : Jvm.MethodName)) ∈ zTT := zTT_in (List.mem_of_getElem? (i := 1070) (by decide +kernel)) rfl
theorem zk_1071 : (Jvm.Cond.code ({ cls := "SeenToMove", name := "odds", desc := "(III)I" } : Jvm.MethodName) prog_1_method_46_code (6 : Nat) (Option.some Jvm.ClassFile.FieldType.int)) ∈ zTT := zTT_in (List.mem_of_getElem? (i := 1071) (by decide +kernel)) rfl
theorem zk_1072 : (Jvm.Cond.methodLink "SeenToMove" (363 : Nat) ({ cls := "SeenToMove", name := "goesDrawn", desc := "(II)Z" } : Jvm.MethodName)) ∈ zTT := zTT_in (List.mem_of_getElem? (i := 1072) (by decide +kernel)) rfl
theorem zk_1074 : (Jvm.Cond.instanceMethod ({ cls := "SeenToMove", name := "goesDrawn", desc := "(II)Z" } : Jvm.MethodName)) ∈ zTT := zTT_in (List.mem_of_getElem? (i := 1074) (by decide +kernel)) rfl
theorem zk_1075 : (Jvm.Cond.code ({ cls := "SeenToMove", name := "goesDrawn", desc := "(II)Z" } : Jvm.MethodName) prog_1_method_47_code (5 : Nat) (Option.some Jvm.ClassFile.FieldType.boolean)) ∈ zTT := zTT_in (List.mem_of_getElem? (i := 1075) (by decide +kernel)) rfl
theorem zk_1077 : (Jvm.Cond.instanceMethod ({ cls := "SeenToMove", name := "book", desc := "(I)I" } : Jvm.MethodName)) ∈ zTT := zTT_in (List.mem_of_getElem? (i := 1077) (by decide +kernel)) rfl
theorem zk_1078 : (Jvm.Cond.selects "SeenToMove" ({ cls := "SeenToMove", name := "book", desc := "(I)I" } : Jvm.MethodName) ({ cls := "SeenToMove", name := "book", desc := "(I)I" } : Jvm.MethodName)) ∈ zTT := zTT_in (List.mem_of_getElem? (i := 1078) (by decide +kernel)) rfl
theorem zk_1079 : (Jvm.Cond.code ({ cls := "SeenToMove", name := "book", desc := "(I)I" } : Jvm.MethodName) prog_1_method_48_code (5 : Nat) (Option.some Jvm.ClassFile.FieldType.int)) ∈ zTT := zTT_in (List.mem_of_getElem? (i := 1079) (by decide +kernel)) rfl
theorem zk_1080 : (Jvm.Cond.methodLink "SeenToMove" (366 : Nat) ({ cls := "SeenToMove$BookText", name := "read", desc := "()V" } : Jvm.MethodName)) ∈ zTT := zTT_in (List.mem_of_getElem? (i := 1080) (by decide +kernel)) rfl
theorem zk_1081 : (Jvm.Cond.instanceMethod ({ cls := "SeenToMove$BookText", name := "read", desc := "()V" } : Jvm.MethodName)) ∈ zTT := zTT_in (List.mem_of_getElem? (i := 1081) (by decide +kernel)) rfl
theorem zk_1082 : (Jvm.Cond.selects "SeenToMove$BookText" ({ cls := "SeenToMove$BookText", name := "read", desc := "()V" } : Jvm.MethodName) ({ cls := "SeenToMove$BookText", name := "read", desc := "()V" } : Jvm.MethodName)) ∈ zTT := zTT_in (List.mem_of_getElem? (i := 1082) (by decide +kernel)) rfl
theorem zk_1083 : (Jvm.Cond.code ({ cls := "SeenToMove$BookText", name := "read", desc := "()V" } : Jvm.MethodName) prog_3_method_2_code (2 : Nat) (Option.none : Option Jvm.ClassFile.FieldType)) ∈ zTT := zTT_in (List.mem_of_getElem? (i := 1083) (by decide +kernel)) rfl
theorem zk_1084 : (Jvm.Cond.methodLink "SeenToMove$BookText" (33 : Nat) ({ cls := "SeenToMove$Tape", name := "start", desc := "(I)V" } : Jvm.MethodName)) ∈ zTT := zTT_in (List.mem_of_getElem? (i := 1084) (by decide +kernel)) rfl
theorem zk_1085 : (Jvm.Cond.methodLink "SeenToMove$BookText" (39 : Nat) ({ cls := "SeenToMove$Tape", name := "goesOn", desc := "()Z" } : Jvm.MethodName)) ∈ zTT := zTT_in (List.mem_of_getElem? (i := 1085) (by decide +kernel)) rfl
theorem zk_1086 : (Jvm.Cond.methodLink "SeenToMove$BookText" (43 : Nat) ({ cls := "SeenToMove$BookText", name := "readLine", desc := "()V" } : Jvm.MethodName)) ∈ zTT := zTT_in (List.mem_of_getElem? (i := 1086) (by decide +kernel)) rfl
theorem zk_1088 : (Jvm.Cond.instanceMethod ({ cls := "SeenToMove$BookText", name := "readLine", desc := "()V" } : Jvm.MethodName)) ∈ zTT := zTT_in (List.mem_of_getElem? (i := 1088) (by decide +kernel)) rfl
theorem zk_1089 : (Jvm.Cond.code ({ cls := "SeenToMove$BookText", name := "readLine", desc := "()V" } : Jvm.MethodName) prog_3_method_3_code (5 : Nat) (Option.none : Option Jvm.ClassFile.FieldType)) ∈ zTT := zTT_in (List.mem_of_getElem? (i := 1089) (by decide +kernel)) rfl
theorem zk_1090 : (Jvm.Cond.methodLink "SeenToMove$BookText" (52 : Nat) ({ cls := "SeenToMove$Tape", name := "isWord", desc := "(I)Z" } : Jvm.MethodName)) ∈ zTT := zTT_in (List.mem_of_getElem? (i := 1090) (by decide +kernel)) rfl
theorem zk_1091 : (Jvm.Cond.instanceMethod ({ cls := "SeenToMove$Tape", name := "isWord", desc := "(I)Z" } : Jvm.MethodName)) ∈ zTT := zTT_in (List.mem_of_getElem? (i := 1091) (by decide +kernel)) rfl
theorem zk_1092 : (Jvm.Cond.selects "SeenToMove$Tape" ({ cls := "SeenToMove$Tape", name := "isWord", desc := "(I)Z" } : Jvm.MethodName) ({ cls := "SeenToMove$Tape", name := "isWord", desc := "(I)Z" } : Jvm.MethodName)) ∈ zTT := zTT_in (List.mem_of_getElem? (i := 1092) (by decide +kernel)) rfl
theorem zk_1093 : (Jvm.Cond.code ({ cls := "SeenToMove$Tape", name := "isWord", desc := "(I)Z" } : Jvm.MethodName) prog_11_method_12_code (2 : Nat) (Option.some Jvm.ClassFile.FieldType.boolean)) ∈ zTT := zTT_in (List.mem_of_getElem? (i := 1093) (by decide +kernel)) rfl
theorem zkn_1094 : (Jvm.Cond.methodLinkNest "SeenToMove$BookText" (69 : Nat) ({ cls := "SeenToMove", name := "placeOf", desc := "([JIJ)I" } : Jvm.MethodName) "SeenToMove") ∈ zNest := List.mem_filter.mpr ⟨List.mem_of_getElem? (i := 1094) (by decide +kernel), rfl⟩
theorem zk_1095 : (Jvm.Cond.methodLink "SeenToMove$BookText" (79 : Nat) ({ cls := "SeenToMove$Tape", name := "fail", desc := "(I)V" } : Jvm.MethodName)) ∈ zTT := zTT_in (List.mem_of_getElem? (i := 1095) (by decide +kernel)) rfl
theorem zk_1096 : (Jvm.Cond.methodLink "SeenToMove$BookText" (82 : Nat) ({ cls := "SeenToMove$Tape", name := "advance", desc := "()V" } : Jvm.MethodName)) ∈ zTT := zTT_in (List.mem_of_getElem? (i := 1096) (by decide +kernel)) rfl
theorem zk_1097 : (Jvm.Cond.methodLink "SeenToMove$BookText" (85 : Nat) ({ cls := "SeenToMove$Tape", name := "needNumber", desc := "(II)I" } : Jvm.MethodName)) ∈ zTT := zTT_in (List.mem_of_getElem? (i := 1097) (by decide +kernel)) rfl
theorem zk_1098 : (Jvm.Cond.methodLink "SeenToMove$BookText" (89 : Nat) ({ cls := "SeenToMove$BookText", name := "addLine", desc := "(III)V" } : Jvm.MethodName)) ∈ zTT := zTT_in (List.mem_of_getElem? (i := 1098) (by decide +kernel)) rfl
theorem zk_1100 : (Jvm.Cond.instanceMethod ({ cls := "SeenToMove$BookText", name := "addLine", desc := "(III)V" } : Jvm.MethodName)) ∈ zTT := zTT_in (List.mem_of_getElem? (i := 1100) (by decide +kernel)) rfl
theorem zk_1101 : (Jvm.Cond.code ({ cls := "SeenToMove$BookText", name := "addLine", desc := "(III)V" } : Jvm.MethodName) prog_3_method_5_code (4 : Nat) (Option.none : Option Jvm.ClassFile.FieldType)) ∈ zTT := zTT_in (List.mem_of_getElem? (i := 1101) (by decide +kernel)) rfl
theorem zkn_1102 : (Jvm.Cond.methodLinkNest "SeenToMove$BookText" (103 : Nat) ({ cls := "SeenToMove", name := "put", desc := "([III)V" } : Jvm.MethodName) "SeenToMove") ∈ zNest := List.mem_filter.mpr ⟨List.mem_of_getElem? (i := 1102) (by decide +kernel), rfl⟩
theorem zk_1103 : (Jvm.Cond.methodLink "SeenToMove$BookText" (93 : Nat) ({ cls := "SeenToMove$BookText", name := "readLooker", desc := "(I)V" } : Jvm.MethodName)) ∈ zTT := zTT_in (List.mem_of_getElem? (i := 1103) (by decide +kernel)) rfl
theorem zk_1105 : (Jvm.Cond.instanceMethod ({ cls := "SeenToMove$BookText", name := "readLooker", desc := "(I)V" } : Jvm.MethodName)) ∈ zTT := zTT_in (List.mem_of_getElem? (i := 1105) (by decide +kernel)) rfl
theorem zk_1106 : (Jvm.Cond.code ({ cls := "SeenToMove$BookText", name := "readLooker", desc := "(I)V" } : Jvm.MethodName) prog_3_method_4_code (2 : Nat) (Option.none : Option Jvm.ClassFile.FieldType)) ∈ zTT := zTT_in (List.mem_of_getElem? (i := 1106) (by decide +kernel)) rfl
theorem zk_1107 : (Jvm.Cond.methodLink "SeenToMove$BookText" (96 : Nat) ({ cls := "SeenToMove$Tape", name := "takesWord", desc := "(I)Z" } : Jvm.MethodName)) ∈ zTT := zTT_in (List.mem_of_getElem? (i := 1107) (by decide +kernel)) rfl
theorem zk_1108 : (Jvm.Cond.instanceMethod ({ cls := "SeenToMove$Tape", name := "takesWord", desc := "(I)Z" } : Jvm.MethodName)) ∈ zTT := zTT_in (List.mem_of_getElem? (i := 1108) (by decide +kernel)) rfl
theorem zk_1109 : (Jvm.Cond.selects "SeenToMove$Tape" ({ cls := "SeenToMove$Tape", name := "takesWord", desc := "(I)Z" } : Jvm.MethodName) ({ cls := "SeenToMove$Tape", name := "takesWord", desc := "(I)Z" } : Jvm.MethodName)) ∈ zTT := zTT_in (List.mem_of_getElem? (i := 1109) (by decide +kernel)) rfl
theorem zk_1110 : (Jvm.Cond.code ({ cls := "SeenToMove$Tape", name := "takesWord", desc := "(I)Z" } : Jvm.MethodName) prog_11_method_14_code (3 : Nat) (Option.some Jvm.ClassFile.FieldType.boolean)) ∈ zTT := zTT_in (List.mem_of_getElem? (i := 1110) (by decide +kernel)) rfl
theorem zk_1111 : (Jvm.Cond.methodLink "SeenToMove$Tape" (102 : Nat) ({ cls := "SeenToMove$Tape", name := "isWord", desc := "(I)Z" } : Jvm.MethodName)) ∈ zTT := zTT_in (List.mem_of_getElem? (i := 1111) (by decide +kernel)) rfl
theorem zk_1112 : (Jvm.Cond.methodLink "SeenToMove$BookText" (99 : Nat) ({ cls := "SeenToMove$Tape", name := "needSide", desc := "()I" } : Jvm.MethodName)) ∈ zTT := zTT_in (List.mem_of_getElem? (i := 1112) (by decide +kernel)) rfl
theorem zk_1113 : (Jvm.Cond.methodLink "SeenToMove$BookText" (46 : Nat) ({ cls := "SeenToMove$Tape", name := "needSign", desc := "(I)V" } : Jvm.MethodName)) ∈ zTT := zTT_in (List.mem_of_getElem? (i := 1113) (by decide +kernel)) rfl
theorem zk_1114 : (Jvm.Cond.methodLink "SeenToMove" (369 : Nat) ({ cls := "SeenToMove$BookText", name := "doLine", desc := "(LSeenToMove$State;I)I" } : Jvm.MethodName)) ∈ zTT := zTT_in (List.mem_of_getElem? (i := 1114) (by decide +kernel)) rfl
theorem zk_1115 : (Jvm.Cond.instanceMethod ({ cls := "SeenToMove$BookText", name := "doLine", desc := "(LSeenToMove$State;I)I" } : Jvm.MethodName)) ∈ zTT := zTT_in (List.mem_of_getElem? (i := 1115) (by decide +kernel)) rfl
theorem zk_1116 : (Jvm.Cond.selects "SeenToMove$BookText" ({ cls := "SeenToMove$BookText", name := "doLine", desc := "(LSeenToMove$State;I)I" } : Jvm.MethodName) ({ cls := "SeenToMove$BookText", name := "doLine", desc := "(LSeenToMove$State;I)I" } : Jvm.MethodName)) ∈ zTT := zTT_in (List.mem_of_getElem? (i := 1116) (by decide +kernel)) rfl
theorem zk_1117 : (Jvm.Cond.code ({ cls := "SeenToMove$BookText", name := "doLine", desc := "(LSeenToMove$State;I)I" } : Jvm.MethodName) prog_3_method_6_code (6 : Nat) (Option.some Jvm.ClassFile.FieldType.int)) ∈ zTT := zTT_in (List.mem_of_getElem? (i := 1117) (by decide +kernel)) rfl
theorem zkn_1118 : (Jvm.Cond.methodLinkNest "SeenToMove$BookText" (107 : Nat) ({ cls := "SeenToMove", name := "at", desc := "([II)I" } : Jvm.MethodName) "SeenToMove") ∈ zNest := List.mem_filter.mpr ⟨List.mem_of_getElem? (i := 1118) (by decide +kernel), rfl⟩
theorem zk_1119 : (Jvm.Cond.methodLink "SeenToMove$BookText" (111 : Nat) ({ cls := "SeenToMove$State", name := "turnTo", desc := "(II)I" } : Jvm.MethodName)) ∈ zTT := zTT_in (List.mem_of_getElem? (i := 1119) (by decide +kernel)) rfl
theorem zk_1120 : (Jvm.Cond.methodLink "SeenToMove$BookText" (116 : Nat) ({ cls := "SeenToMove$BookText", name := "wrongBy", desc := "(II)I" } : Jvm.MethodName)) ∈ zTT := zTT_in (List.mem_of_getElem? (i := 1120) (by decide +kernel)) rfl
theorem zk_1121 : (Jvm.Cond.static ({ cls := "SeenToMove$BookText", name := "wrongBy", desc := "(II)I" } : Jvm.MethodName)) ∈ zTT := zTT_in (List.mem_of_getElem? (i := 1121) (by decide +kernel)) rfl
theorem zk_1122 : (Jvm.Cond.code ({ cls := "SeenToMove$BookText", name := "wrongBy", desc := "(II)I" } : Jvm.MethodName) prog_3_method_7_code (2 : Nat) (Option.some Jvm.ClassFile.FieldType.int)) ∈ zTT := zTT_in (List.mem_of_getElem? (i := 1122) (by decide +kernel)) rfl
theorem zk_1123 : (Jvm.Cond.methodLink "SeenToMove$BookText" (119 : Nat) ({ cls := "SeenToMove$State", name := "walkTo", desc := "(II)I" } : Jvm.MethodName)) ∈ zTT := zTT_in (List.mem_of_getElem? (i := 1123) (by decide +kernel)) rfl
theorem zk_1124 : (Jvm.Cond.methodLink "SeenToMove$BookText" (122 : Nat) ({ cls := "SeenToMove$State", name := "setEyes", desc := "(II)I" } : Jvm.MethodName)) ∈ zTT := zTT_in (List.mem_of_getElem? (i := 1124) (by decide +kernel)) rfl
theorem zk_1125 : (Jvm.Cond.methodLink "SeenToMove$BookText" (125 : Nat) ({ cls := "SeenToMove$State", name := "faceTo", desc := "(II)I" } : Jvm.MethodName)) ∈ zTT := zTT_in (List.mem_of_getElem? (i := 1125) (by decide +kernel)) rfl
theorem zk_1126 : (Jvm.Cond.methodLink "SeenToMove$BookText" (131 : Nat) ({ cls := "SeenToMove$State", name := "goHour", desc := "()V" } : Jvm.MethodName)) ∈ zTT := zTT_in (List.mem_of_getElem? (i := 1126) (by decide +kernel)) rfl
theorem zk_1127 : (Jvm.Cond.methodLink "SeenToMove" (373 : Nat) ({ cls := "SeenToMove$Answers", name := "tell", desc := "(IILSeenToMove$State;)V" } : Jvm.MethodName)) ∈ zTT := zTT_in (List.mem_of_getElem? (i := 1127) (by decide +kernel)) rfl
theorem zk_1128 : (Jvm.Cond.instanceMethod ({ cls := "SeenToMove$Answers", name := "tell", desc := "(IILSeenToMove$State;)V" } : Jvm.MethodName)) ∈ zTT := zTT_in (List.mem_of_getElem? (i := 1128) (by decide +kernel)) rfl
theorem zk_1129 : (Jvm.Cond.selects "SeenToMove$Answers" ({ cls := "SeenToMove$Answers", name := "tell", desc := "(IILSeenToMove$State;)V" } : Jvm.MethodName) ({ cls := "SeenToMove$Answers", name := "tell", desc := "(IILSeenToMove$State;)V" } : Jvm.MethodName)) ∈ zTT := zTT_in (List.mem_of_getElem? (i := 1129) (by decide +kernel)) rfl
theorem zk_1130 : (Jvm.Cond.code ({ cls := "SeenToMove$Answers", name := "tell", desc := "(IILSeenToMove$State;)V" } : Jvm.MethodName) prog_2_method_2_code (4 : Nat) (Option.none : Option Jvm.ClassFile.FieldType)) ∈ zTT := zTT_in (List.mem_of_getElem? (i := 1130) (by decide +kernel)) rfl
theorem zk_1131 : (Jvm.Cond.methodLink "SeenToMove$Answers" (41 : Nat) ({ cls := "SeenToMove$State", name := "goneByAll", desc := "()I" } : Jvm.MethodName)) ∈ zTT := zTT_in (List.mem_of_getElem? (i := 1131) (by decide +kernel)) rfl
theorem zk_1133 : (Jvm.Cond.instanceMethod ({ cls := "SeenToMove", name := "told", desc := "(I)I" } : Jvm.MethodName)) ∈ zTT := zTT_in (List.mem_of_getElem? (i := 1133) (by decide +kernel)) rfl
theorem zk_1134 : (Jvm.Cond.selects "SeenToMove" ({ cls := "SeenToMove", name := "told", desc := "(I)I" } : Jvm.MethodName) ({ cls := "SeenToMove", name := "told", desc := "(I)I" } : Jvm.MethodName)) ∈ zTT := zTT_in (List.mem_of_getElem? (i := 1134) (by decide +kernel)) rfl
theorem zk_1135 : (Jvm.Cond.code ({ cls := "SeenToMove", name := "told", desc := "(I)I" } : Jvm.MethodName) prog_1_method_49_code (2 : Nat) (Option.some Jvm.ClassFile.FieldType.int)) ∈ zTT := zTT_in (List.mem_of_getElem? (i := 1135) (by decide +kernel)) rfl
theorem zk_1154 : (Jvm.Cond.methodLink "SeenToMove$SentenceText" (60 : Nat) ({ cls := "SeenToMove$Tape", name := "isSign", desc := "(I)Z" } : Jvm.MethodName)) ∈ zTT := zTT_in (List.mem_of_getElem? (i := 1154) (by decide +kernel)) rfl
theorem zk_1155 : (Jvm.Cond.methodLink "SeenToMove$SentenceText" (46 : Nat) ({ cls := "SeenToMove$Tape", name := "fail", desc := "(I)V" } : Jvm.MethodName)) ∈ zTT := zTT_in (List.mem_of_getElem? (i := 1155) (by decide +kernel)) rfl
theorem zk_1156 : (Jvm.Cond.methodLink "SeenToMove$SentenceText" (69 : Nat) ({ cls := "SeenToMove$Tape", name := "advance", desc := "()V" } : Jvm.MethodName)) ∈ zTT := zTT_in (List.mem_of_getElem? (i := 1156) (by decide +kernel)) rfl
theorem zk_1159 : (Jvm.Cond.instanceMethod ({ cls := "SeenToMove$Sentence", name := "add", desc := "(III)V" } : Jvm.MethodName)) ∈ zTT := zTT_in (List.mem_of_getElem? (i := 1159) (by decide +kernel)) rfl
theorem zk_1160 : (Jvm.Cond.selects "SeenToMove$Sentence" ({ cls := "SeenToMove$Sentence", name := "add", desc := "(III)V" } : Jvm.MethodName) ({ cls := "SeenToMove$Sentence", name := "add", desc := "(III)V" } : Jvm.MethodName)) ∈ zTT := zTT_in (List.mem_of_getElem? (i := 1160) (by decide +kernel)) rfl
theorem zk_1161 : (Jvm.Cond.code ({ cls := "SeenToMove$Sentence", name := "add", desc := "(III)V" } : Jvm.MethodName) prog_8_method_4_code (4 : Nat) (Option.none : Option Jvm.ClassFile.FieldType)) ∈ zTT := zTT_in (List.mem_of_getElem? (i := 1161) (by decide +kernel)) rfl
theorem zkn_1162 : (Jvm.Cond.methodLinkNest "SeenToMove$Sentence" (29 : Nat) ({ cls := "SeenToMove", name := "put", desc := "([III)V" } : Jvm.MethodName) "SeenToMove") ∈ zNest := List.mem_filter.mpr ⟨List.mem_of_getElem? (i := 1162) (by decide +kernel), rfl⟩
theorem zk_1166 : (Jvm.Cond.instanceMethod ({ cls := "SeenToMove$SentenceText", name := "readSign", desc := "()I" } : Jvm.MethodName)) ∈ zTT := zTT_in (List.mem_of_getElem? (i := 1166) (by decide +kernel)) rfl
theorem zk_1167 : (Jvm.Cond.code ({ cls := "SeenToMove$SentenceText", name := "readSign", desc := "()I" } : Jvm.MethodName) prog_9_method_5_code (2 : Nat) (Option.some Jvm.ClassFile.FieldType.int)) ∈ zTT := zTT_in (List.mem_of_getElem? (i := 1167) (by decide +kernel)) rfl
theorem zk_1171 : (Jvm.Cond.methodLink "SeenToMove" (386 : Nat) ({ cls := "SeenToMove$Sentence", name := "copyFrom", desc := "(LSeenToMove$Sentence;)V" } : Jvm.MethodName)) ∈ zTT := zTT_in (List.mem_of_getElem? (i := 1171) (by decide +kernel)) rfl
theorem zk_1172 : (Jvm.Cond.instanceMethod ({ cls := "SeenToMove$Sentence", name := "copyFrom", desc := "(LSeenToMove$Sentence;)V" } : Jvm.MethodName)) ∈ zTT := zTT_in (List.mem_of_getElem? (i := 1172) (by decide +kernel)) rfl
theorem zk_1173 : (Jvm.Cond.selects "SeenToMove$Sentence" ({ cls := "SeenToMove$Sentence", name := "copyFrom", desc := "(LSeenToMove$Sentence;)V" } : Jvm.MethodName) ({ cls := "SeenToMove$Sentence", name := "copyFrom", desc := "(LSeenToMove$Sentence;)V" } : Jvm.MethodName)) ∈ zTT := zTT_in (List.mem_of_getElem? (i := 1173) (by decide +kernel)) rfl
theorem zk_1174 : (Jvm.Cond.code ({ cls := "SeenToMove$Sentence", name := "copyFrom", desc := "(LSeenToMove$Sentence;)V" } : Jvm.MethodName) prog_8_method_3_code (2 : Nat) (Option.none : Option Jvm.ClassFile.FieldType)) ∈ zTT := zTT_in (List.mem_of_getElem? (i := 1174) (by decide +kernel)) rfl
theorem zkn_1175 : (Jvm.Cond.methodLinkNest "SeenToMove$Sentence" (25 : Nat) ({ cls := "SeenToMove", name := "copy", desc := "([I[I)V" } : Jvm.MethodName) "SeenToMove") ∈ zNest := List.mem_filter.mpr ⟨List.mem_of_getElem? (i := 1175) (by decide +kernel), rfl⟩
theorem zk_1177 : (Jvm.Cond.instanceMethod ({ cls := "SeenToMove", name := "said", desc := "(I)I" } : Jvm.MethodName)) ∈ zTT := zTT_in (List.mem_of_getElem? (i := 1177) (by decide +kernel)) rfl
theorem zk_1178 : (Jvm.Cond.selects "SeenToMove" ({ cls := "SeenToMove", name := "said", desc := "(I)I" } : Jvm.MethodName) ({ cls := "SeenToMove", name := "said", desc := "(I)I" } : Jvm.MethodName)) ∈ zTT := zTT_in (List.mem_of_getElem? (i := 1178) (by decide +kernel)) rfl
theorem zk_1179 : (Jvm.Cond.code ({ cls := "SeenToMove", name := "said", desc := "(I)I" } : Jvm.MethodName) prog_1_method_51_code (4 : Nat) (Option.some Jvm.ClassFile.FieldType.int)) ∈ zTT := zTT_in (List.mem_of_getElem? (i := 1179) (by decide +kernel)) rfl
theorem zk_1180 : (Jvm.Cond.methodLink "SeenToMove" (390 : Nat) ({ cls := "SeenToMove$Sentence", name := "holds", desc := "(LSeenToMove$State;I)Z" } : Jvm.MethodName)) ∈ zTT := zTT_in (List.mem_of_getElem? (i := 1180) (by decide +kernel)) rfl
theorem zk_1181 : (Jvm.Cond.instanceMethod ({ cls := "SeenToMove$Sentence", name := "holds", desc := "(LSeenToMove$State;I)Z" } : Jvm.MethodName)) ∈ zTT := zTT_in (List.mem_of_getElem? (i := 1181) (by decide +kernel)) rfl
theorem zk_1182 : (Jvm.Cond.selects "SeenToMove$Sentence" ({ cls := "SeenToMove$Sentence", name := "holds", desc := "(LSeenToMove$State;I)Z" } : Jvm.MethodName) ({ cls := "SeenToMove$Sentence", name := "holds", desc := "(LSeenToMove$State;I)Z" } : Jvm.MethodName)) ∈ zTT := zTT_in (List.mem_of_getElem? (i := 1182) (by decide +kernel)) rfl
theorem zk_1183 : (Jvm.Cond.code ({ cls := "SeenToMove$Sentence", name := "holds", desc := "(LSeenToMove$State;I)Z" } : Jvm.MethodName) prog_8_method_5_code (7 : Nat) (Option.some Jvm.ClassFile.FieldType.boolean)) ∈ zTT := zTT_in (List.mem_of_getElem? (i := 1183) (by decide +kernel)) rfl
theorem zkn_1184 : (Jvm.Cond.methodLinkNest "SeenToMove$Sentence" (33 : Nat) ({ cls := "SeenToMove", name := "at", desc := "([II)I" } : Jvm.MethodName) "SeenToMove") ∈ zNest := List.mem_filter.mpr ⟨List.mem_of_getElem? (i := 1184) (by decide +kernel), rfl⟩
theorem zk_1185 : (Jvm.Cond.methodLink "SeenToMove$Sentence" (37 : Nat) ({ cls := "SeenToMove$Sentence", name := "isSo", desc := "(LSeenToMove$State;II)Z" } : Jvm.MethodName)) ∈ zTT := zTT_in (List.mem_of_getElem? (i := 1185) (by decide +kernel)) rfl
theorem zk_1187 : (Jvm.Cond.instanceMethod ({ cls := "SeenToMove$Sentence", name := "isSo", desc := "(LSeenToMove$State;II)Z" } : Jvm.MethodName)) ∈ zTT := zTT_in (List.mem_of_getElem? (i := 1187) (by decide +kernel)) rfl
theorem zk_1188 : (Jvm.Cond.code ({ cls := "SeenToMove$Sentence", name := "isSo", desc := "(LSeenToMove$State;II)Z" } : Jvm.MethodName) prog_8_method_6_code (6 : Nat) (Option.some Jvm.ClassFile.FieldType.boolean)) ∈ zTT := zTT_in (List.mem_of_getElem? (i := 1188) (by decide +kernel)) rfl
theorem zk_1189 : (Jvm.Cond.methodLink "SeenToMove$Sentence" (41 : Nat) ({ cls := "SeenToMove$State", name := "seers", desc := "(I)I" } : Jvm.MethodName)) ∈ zTT := zTT_in (List.mem_of_getElem? (i := 1189) (by decide +kernel)) rfl
theorem zk_1190 : (Jvm.Cond.methodLink "SeenToMove$Sentence" (47 : Nat) ({ cls := "SeenToMove$State", name := "canGo", desc := "(I)Z" } : Jvm.MethodName)) ∈ zTT := zTT_in (List.mem_of_getElem? (i := 1190) (by decide +kernel)) rfl
theorem zk_1191 : (Jvm.Cond.methodLink "SeenToMove$Sentence" (69 : Nat) ({ cls := "SeenToMove$Sentence", name := "compares", desc := "(III)Z" } : Jvm.MethodName)) ∈ zTT := zTT_in (List.mem_of_getElem? (i := 1191) (by decide +kernel)) rfl
theorem zk_1192 : (Jvm.Cond.static ({ cls := "SeenToMove$Sentence", name := "compares", desc := "(III)Z" } : Jvm.MethodName)) ∈ zTT := zTT_in (List.mem_of_getElem? (i := 1192) (by decide +kernel)) rfl
theorem zk_1193 : (Jvm.Cond.code ({ cls := "SeenToMove$Sentence", name := "compares", desc := "(III)Z" } : Jvm.MethodName) prog_8_method_7_code (3 : Nat) (Option.some Jvm.ClassFile.FieldType.boolean)) ∈ zTT := zTT_in (List.mem_of_getElem? (i := 1193) (by decide +kernel)) rfl
theorem zk_1195 : (Jvm.Cond.instanceMethod ({ cls := "SeenToMove", name := "image", desc := "(I)Z" } : Jvm.MethodName)) ∈ zTT := zTT_in (List.mem_of_getElem? (i := 1195) (by decide +kernel)) rfl
theorem zk_1196 : (Jvm.Cond.selects "SeenToMove" ({ cls := "SeenToMove", name := "image", desc := "(I)Z" } : Jvm.MethodName) ({ cls := "SeenToMove", name := "image", desc := "(I)Z" } : Jvm.MethodName)) ∈ zTT := zTT_in (List.mem_of_getElem? (i := 1196) (by decide +kernel)) rfl
theorem zk_1197 : (Jvm.Cond.code ({ cls := "SeenToMove", name := "image", desc := "(I)Z" } : Jvm.MethodName) prog_1_method_52_code (3 : Nat) (Option.some Jvm.ClassFile.FieldType.boolean)) ∈ zTT := zTT_in (List.mem_of_getElem? (i := 1197) (by decide +kernel)) rfl
theorem zk_1198 : (Jvm.Cond.methodLink "SeenToMove" (394 : Nat) ({ cls := "SeenToMove", name := "imageIn", desc := "(I)LSeenToMove$Image;" } : Jvm.MethodName)) ∈ zTT := zTT_in (List.mem_of_getElem? (i := 1198) (by decide +kernel)) rfl
theorem zk_1200 : (Jvm.Cond.instanceMethod ({ cls := "SeenToMove", name := "imageIn", desc := "(I)LSeenToMove$Image;" } : Jvm.MethodName)) ∈ zTT := zTT_in (List.mem_of_getElem? (i := 1200) (by decide +kernel)) rfl
theorem zk_1201 : (Jvm.Cond.code ({ cls := "SeenToMove", name := "imageIn", desc := "(I)LSeenToMove$Image;" } : Jvm.MethodName) prog_1_method_54_code (2 : Nat) (Option.some (Jvm.ClassFile.FieldType.object "SeenToMove$Image"))) ∈ zTT := zTT_in (List.mem_of_getElem? (i := 1201) (by decide +kernel)) rfl
theorem zk_1203 : (Jvm.Cond.instanceMethod ({ cls := "SeenToMove", name := "restore", desc := "(I)Z" } : Jvm.MethodName)) ∈ zTT := zTT_in (List.mem_of_getElem? (i := 1203) (by decide +kernel)) rfl
theorem zk_1204 : (Jvm.Cond.selects "SeenToMove" ({ cls := "SeenToMove", name := "restore", desc := "(I)Z" } : Jvm.MethodName) ({ cls := "SeenToMove", name := "restore", desc := "(I)Z" } : Jvm.MethodName)) ∈ zTT := zTT_in (List.mem_of_getElem? (i := 1204) (by decide +kernel)) rfl
theorem zk_1205 : (Jvm.Cond.code ({ cls := "SeenToMove", name := "restore", desc := "(I)Z" } : Jvm.MethodName) prog_1_method_53_code (3 : Nat) (Option.some Jvm.ClassFile.FieldType.boolean)) ∈ zTT := zTT_in (List.mem_of_getElem? (i := 1205) (by decide +kernel)) rfl
theorem zk_1207 : (Jvm.Cond.instanceMethod ({ cls := "SeenToMove", name := "count", desc := "(I)I" } : Jvm.MethodName)) ∈ zTT := zTT_in (List.mem_of_getElem? (i := 1207) (by decide +kernel)) rfl
theorem zk_1208 : (Jvm.Cond.selects "SeenToMove" ({ cls := "SeenToMove", name := "count", desc := "(I)I" } : Jvm.MethodName) ({ cls := "SeenToMove", name := "count", desc := "(I)I" } : Jvm.MethodName)) ∈ zTT := zTT_in (List.mem_of_getElem? (i := 1208) (by decide +kernel)) rfl
theorem zk_1209 : (Jvm.Cond.code ({ cls := "SeenToMove", name := "count", desc := "(I)I" } : Jvm.MethodName) prog_1_method_55_code (2 : Nat) (Option.some Jvm.ClassFile.FieldType.int)) ∈ zTT := zTT_in (List.mem_of_getElem? (i := 1209) (by decide +kernel)) rfl
theorem zk_1292 : (Jvm.Cond.static ({ cls := "SeenToMove", name := "commonDivisor", desc := "(II)I" } : Jvm.MethodName)) ∈ zTT := zTT_in (List.mem_of_getElem? (i := 1292) (by decide +kernel)) rfl
theorem zk_1293 : (Jvm.Cond.code ({ cls := "SeenToMove", name := "commonDivisor", desc := "(II)I" } : Jvm.MethodName) prog_1_method_42_code (6 : Nat) (Option.some Jvm.ClassFile.FieldType.int)) ∈ zTT := zTT_in (List.mem_of_getElem? (i := 1293) (by decide +kernel)) rfl
theorem zk_1295 : (Jvm.Cond.instanceMethod ({ cls := "SeenToMoveModel", name := "thrown", desc := "()I" } : Jvm.MethodName)) ∈ zTT := zTT_in (List.mem_of_getElem? (i := 1295) (by decide +kernel)) rfl
theorem zk_1296 : (Jvm.Cond.selects "SeenToMoveModel" ({ cls := "SeenToMoveModel", name := "thrown", desc := "()I" } : Jvm.MethodName) ({ cls := "SeenToMoveModel", name := "thrown", desc := "()I" } : Jvm.MethodName)) ∈ zTT := zTT_in (List.mem_of_getElem? (i := 1296) (by decide +kernel)) rfl
theorem zk_1297 : (Jvm.Cond.code ({ cls := "SeenToMoveModel", name := "thrown", desc := "()I" } : Jvm.MethodName) prog_14_method_1_code (1 : Nat) (Option.some Jvm.ClassFile.FieldType.int)) ∈ zTT := zTT_in (List.mem_of_getElem? (i := 1297) (by decide +kernel)) rfl
theorem zk_1299 : (Jvm.Cond.instanceMethod ({ cls := "SeenToMoveModel", name := "feed", desc := "(IIIII)I" } : Jvm.MethodName)) ∈ zTT := zTT_in (List.mem_of_getElem? (i := 1299) (by decide +kernel)) rfl
theorem zk_1300 : (Jvm.Cond.selects "SeenToMoveModel" ({ cls := "SeenToMoveModel", name := "feed", desc := "(IIIII)I" } : Jvm.MethodName) ({ cls := "SeenToMoveModel", name := "feed", desc := "(IIIII)I" } : Jvm.MethodName)) ∈ zTT := zTT_in (List.mem_of_getElem? (i := 1300) (by decide +kernel)) rfl
theorem zk_1301 : (Jvm.Cond.code ({ cls := "SeenToMoveModel", name := "feed", desc := "(IIIII)I" } : Jvm.MethodName) prog_14_method_3_code (6 : Nat) (Option.some Jvm.ClassFile.FieldType.int)) ∈ zTT := zTT_in (List.mem_of_getElem? (i := 1301) (by decide +kernel)) rfl
theorem zk_1302 : (Jvm.Cond.methodLink "SeenToMoveModel" (10 : Nat) ({ cls := "SeenToMoveModel", name := "four", desc := "(I)V" } : Jvm.MethodName)) ∈ zTT := zTT_in (List.mem_of_getElem? (i := 1302) (by decide +kernel)) rfl
theorem zk_1304 : (Jvm.Cond.instanceMethod ({ cls := "SeenToMoveModel", name := "four", desc := "(I)V" } : Jvm.MethodName)) ∈ zTT := zTT_in (List.mem_of_getElem? (i := 1304) (by decide +kernel)) rfl
theorem zk_1306 : (Jvm.Cond.code ({ cls := "SeenToMoveModel", name := "four", desc := "(I)V" } : Jvm.MethodName) prog_14_method_4_code (3 : Nat) (Option.none : Option Jvm.ClassFile.FieldType)) ∈ zTT := zTT_in (List.mem_of_getElem? (i := 1306) (by decide +kernel)) rfl
theorem zk_1308 : (Jvm.Cond.instanceMethod ({ cls := "SeenToMoveModel", name := "end", desc := "(I)Z" } : Jvm.MethodName)) ∈ zTT := zTT_in (List.mem_of_getElem? (i := 1308) (by decide +kernel)) rfl
theorem zk_1309 : (Jvm.Cond.selects "SeenToMoveModel" ({ cls := "SeenToMoveModel", name := "end", desc := "(I)Z" } : Jvm.MethodName) ({ cls := "SeenToMoveModel", name := "end", desc := "(I)Z" } : Jvm.MethodName)) ∈ zTT := zTT_in (List.mem_of_getElem? (i := 1309) (by decide +kernel)) rfl
theorem zk_1310 : (Jvm.Cond.code ({ cls := "SeenToMoveModel", name := "end", desc := "(I)Z" } : Jvm.MethodName) prog_14_method_5_code (2 : Nat) (Option.some Jvm.ClassFile.FieldType.boolean)) ∈ zTT := zTT_in (List.mem_of_getElem? (i := 1310) (by decide +kernel)) rfl
theorem zk_1316 : (Jvm.Cond.constantLong "SeenToMoveModel" (93 : Nat) (439854918756 : Int64)) ∈ zTT := zTT_in (List.mem_of_getElem? (i := 1316) (by decide +kernel)) rfl
theorem zk_1317 : (Jvm.Cond.constantLong "SeenToMoveModel" (95 : Nat) (448377677669 : Int64)) ∈ zTT := zTT_in (List.mem_of_getElem? (i := 1317) (by decide +kernel)) rfl
theorem zk_1318 : (Jvm.Cond.constantLong "SeenToMoveModel" (97 : Nat) (478745093490 : Int64)) ∈ zTT := zTT_in (List.mem_of_getElem? (i := 1318) (by decide +kernel)) rfl
theorem zk_1319 : (Jvm.Cond.constantLong "SeenToMoveModel" (99 : Nat) (1818324580 : Int64)) ∈ zTT := zTT_in (List.mem_of_getElem? (i := 1319) (by decide +kernel)) rfl
theorem zk_1320 : (Jvm.Cond.constantLong "SeenToMoveModel" (101 : Nat) (112602893349477 : Int64)) ∈ zTT := zTT_in (List.mem_of_getElem? (i := 1320) (by decide +kernel)) rfl
theorem zk_1321 : (Jvm.Cond.constantLong "SeenToMoveModel" (103 : Nat) (119225866478962 : Int64)) ∈ zTT := zTT_in (List.mem_of_getElem? (i := 1321) (by decide +kernel)) rfl
theorem zk_1322 : (Jvm.Cond.constantLong "SeenToMoveModel" (105 : Nat) (1700885364 : Int64)) ∈ zTT := zTT_in (List.mem_of_getElem? (i := 1322) (by decide +kernel)) rfl
theorem zk_1323 : (Jvm.Cond.constantLong "SeenToMoveModel" (107 : Nat) (495791207528 : Int64)) ∈ zTT := zTT_in (List.mem_of_getElem? (i := 1323) (by decide +kernel)) rfl
theorem zk_1324 : (Jvm.Cond.constantLong "SeenToMoveModel" (109 : Nat) (2003137396 : Int64)) ∈ zTT := zTT_in (List.mem_of_getElem? (i := 1324) (by decide +kernel)) rfl
theorem zk_1325 : (Jvm.Cond.constantLong "SeenToMoveModel" (111 : Nat) (474316174440 : Int64)) ∈ zTT := zTT_in (List.mem_of_getElem? (i := 1325) (by decide +kernel)) rfl
theorem zk_1326 : (Jvm.Cond.constantLong "SeenToMoveModel" (113 : Nat) (500186639987 : Int64)) ∈ zTT := zTT_in (List.mem_of_getElem? (i := 1326) (by decide +kernel)) rfl
theorem zk_1327 : (Jvm.Cond.constantLong "SeenToMoveModel" (115 : Nat) (512735603571 : Int64)) ∈ zTT := zTT_in (List.mem_of_getElem? (i := 1327) (by decide +kernel)) rfl
theorem zk_1328 : (Jvm.Cond.constantLong "SeenToMoveModel" (117 : Nat) (495673767027 : Int64)) ∈ zTT := zTT_in (List.mem_of_getElem? (i := 1328) (by decide +kernel)) rfl
theorem zk_1329 : (Jvm.Cond.constantLong "SeenToMoveModel" (119 : Nat) (478627065459 : Int64)) ∈ zTT := zTT_in (List.mem_of_getElem? (i := 1329) (by decide +kernel)) rfl
theorem zk_1330 : (Jvm.Cond.constantLong "SeenToMoveModel" (121 : Nat) (439720568179 : Int64)) ∈ zTT := zTT_in (List.mem_of_getElem? (i := 1330) (by decide +kernel)) rfl
theorem zk_1331 : (Jvm.Cond.constantLong "SeenToMoveModel" (123 : Nat) (1752135026 : Int64)) ∈ zTT := zTT_in (List.mem_of_getElem? (i := 1331) (by decide +kernel)) rfl
theorem zk_1332 : (Jvm.Cond.constantLong "SeenToMoveModel" (125 : Nat) (28530 : Int64)) ∈ zTT := zTT_in (List.mem_of_getElem? (i := 1332) (by decide +kernel)) rfl
theorem zk_1333 : (Jvm.Cond.constantLong "SeenToMoveModel" (127 : Nat) (6385252 : Int64)) ∈ zTT := zTT_in (List.mem_of_getElem? (i := 1333) (by decide +kernel)) rfl
theorem zk_1334 : (Jvm.Cond.constantLong "SeenToMoveModel" (129 : Nat) (7237492 : Int64)) ∈ zTT := zTT_in (List.mem_of_getElem? (i := 1334) (by decide +kernel)) rfl
theorem zk_1335 : (Jvm.Cond.constantLong "SeenToMoveModel" (131 : Nat) (1936024942 : Int64)) ∈ zTT := zTT_in (List.mem_of_getElem? (i := 1335) (by decide +kernel)) rfl
theorem zk_1336 : (Jvm.Cond.constantLong "SeenToMoveModel" (133 : Nat) (495875089259 : Int64)) ∈ zTT := zTT_in (List.mem_of_getElem? (i := 1336) (by decide +kernel)) rfl
theorem zk_1337 : (Jvm.Cond.constantLong "SeenToMoveModel" (135 : Nat) (470021465444 : Int64)) ∈ zTT := zTT_in (List.mem_of_getElem? (i := 1337) (by decide +kernel)) rfl
theorem zk_1338 : (Jvm.Cond.constantLong "SeenToMoveModel" (137 : Nat) (28518 : Int64)) ∈ zTT := zTT_in (List.mem_of_getElem? (i := 1338) (by decide +kernel)) rfl
theorem zk_1339 : (Jvm.Cond.constantLong "SeenToMoveModel" (139 : Nat) (25209 : Int64)) ∈ zTT := zTT_in (List.mem_of_getElem? (i := 1339) (by decide +kernel)) rfl
theorem zk_1340 : (Jvm.Cond.constantLong "SeenToMoveModel" (141 : Nat) (1735356005 : Int64)) ∈ zTT := zTT_in (List.mem_of_getElem? (i := 1340) (by decide +kernel)) rfl
theorem zk_1341 : (Jvm.Cond.constantLong "SeenToMoveModel" (143 : Nat) (435778056825 : Int64)) ∈ zTT := zTT_in (List.mem_of_getElem? (i := 1341) (by decide +kernel)) rfl
theorem zk_1342 : (Jvm.Cond.constantLong "SeenToMoveModel" (145 : Nat) (121450625394034 : Int64)) ∈ zTT := zTT_in (List.mem_of_getElem? (i := 1342) (by decide +kernel)) rfl
theorem zk_1343 : (Jvm.Cond.methodLink "SeenToMoveModel" (147 : Nat) ({ cls := "SeenToMoveModel", name := "clears", desc := "()V" } : Jvm.MethodName)) ∈ zTT := zTT_in (List.mem_of_getElem? (i := 1343) (by decide +kernel)) rfl
theorem zk_1345 : (Jvm.Cond.instanceMethod ({ cls := "SeenToMoveModel", name := "clears", desc := "()V" } : Jvm.MethodName)) ∈ zTT := zTT_in (List.mem_of_getElem? (i := 1345) (by decide +kernel)) rfl
theorem zk_1346 : (Jvm.Cond.code ({ cls := "SeenToMoveModel", name := "clears", desc := "()V" } : Jvm.MethodName) prog_14_method_13_code (2 : Nat) (Option.none : Option Jvm.ClassFile.FieldType)) ∈ zTT := zTT_in (List.mem_of_getElem? (i := 1346) (by decide +kernel)) rfl
theorem zk_1347 : (Jvm.Cond.fieldLink "SeenToMoveModel" (1 : Nat) "SeenToMoveModel" "thrown" "I") ∈ zTT := zTT_in (List.mem_of_getElem? (i := 1347) (by decide +kernel)) rfl
theorem zk_1348 : (Jvm.Cond.fieldLink "SeenToMoveModel" (14 : Nat) "SeenToMoveModel" "tape" "[B") ∈ zTT := zTT_in (List.mem_of_getElem? (i := 1348) (by decide +kernel)) rfl
theorem zk_1349 : (Jvm.Cond.fieldLink "SeenToMoveModel" (7 : Nat) "SeenToMoveModel" "length" "I") ∈ zTT := zTT_in (List.mem_of_getElem? (i := 1349) (by decide +kernel)) rfl
theorem zk_1350 : (Jvm.Cond.fieldLink "SeenToMoveModel" (18 : Nat) "SeenToMoveModel" "size" "I") ∈ zTT := zTT_in (List.mem_of_getElem? (i := 1350) (by decide +kernel)) rfl
theorem zk_1351 : (Jvm.Cond.fieldLink "SeenToMoveModel" (21 : Nat) "SeenToMoveModel" "p" "I") ∈ zTT := zTT_in (List.mem_of_getElem? (i := 1351) (by decide +kernel)) rfl
theorem zk_1352 : (Jvm.Cond.fieldLink "SeenToMoveModel" (24 : Nat) "SeenToMoveModel" "limit" "I") ∈ zTT := zTT_in (List.mem_of_getElem? (i := 1352) (by decide +kernel)) rfl
theorem zk_1353 : (Jvm.Cond.fieldLink "SeenToMoveModel" (33 : Nat) "SeenToMoveModel" "s" "[I") ∈ zTT := zTT_in (List.mem_of_getElem? (i := 1353) (by decide +kernel)) rfl
theorem zk_1354 : (Jvm.Cond.fieldLink "SeenToMoveModel" (37 : Nat) "SeenToMoveModel" "h" "[I") ∈ zTT := zTT_in (List.mem_of_getElem? (i := 1354) (by decide +kernel)) rfl
theorem zk_1355 : (Jvm.Cond.fieldLink "SeenToMoveModel" (40 : Nat) "SeenToMoveModel" "read" "[I") ∈ zTT := zTT_in (List.mem_of_getElem? (i := 1355) (by decide +kernel)) rfl
theorem zk_1356 : (Jvm.Cond.fieldLink "SeenToMoveModel" (43 : Nat) "SeenToMoveModel" "names" "[J") ∈ zTT := zTT_in (List.mem_of_getElem? (i := 1356) (by decide +kernel)) rfl
theorem zk_1357 : (Jvm.Cond.fieldLink "SeenToMoveModel" (47 : Nat) "SeenToMoveModel" "reserved" "[J") ∈ zTT := zTT_in (List.mem_of_getElem? (i := 1357) (by decide +kernel)) rfl
theorem zk_1358 : (Jvm.Cond.fieldLink "SeenToMoveModel" (160 : Nat) "SeenToMoveModel" "token" "I") ∈ zTT := zTT_in (List.mem_of_getElem? (i := 1358) (by decide +kernel)) rfl
theorem zk_1359 : (Jvm.Cond.fieldLink "SeenToMoveModel" (154 : Nat) "SeenToMoveModel" "at" "I") ∈ zTT := zTT_in (List.mem_of_getElem? (i := 1359) (by decide +kernel)) rfl
theorem zk_1360 : (Jvm.Cond.fieldLink "SeenToMoveModel" (157 : Nat) "SeenToMoveModel" "span" "I") ∈ zTT := zTT_in (List.mem_of_getElem? (i := 1360) (by decide +kernel)) rfl
theorem zk_1361 : (Jvm.Cond.fieldLink "SeenToMoveModel" (170 : Nat) "SeenToMoveModel" "number" "I") ∈ zTT := zTT_in (List.mem_of_getElem? (i := 1361) (by decide +kernel)) rfl
theorem zk_1362 : (Jvm.Cond.fieldLink "SeenToMoveModel" (177 : Nat) "SeenToMoveModel" "fault" "I") ∈ zTT := zTT_in (List.mem_of_getElem? (i := 1362) (by decide +kernel)) rfl
theorem zk_1363 : (Jvm.Cond.fieldLink "SeenToMoveModel" (180 : Nat) "SeenToMoveModel" "faultAt" "I") ∈ zTT := zTT_in (List.mem_of_getElem? (i := 1363) (by decide +kernel)) rfl
theorem zk_1364 : (Jvm.Cond.fieldLink "SeenToMoveModel" (173 : Nat) "SeenToMoveModel" "word" "J") ∈ zTT := zTT_in (List.mem_of_getElem? (i := 1364) (by decide +kernel)) rfl
theorem zk_1365 : (Jvm.Cond.fieldLink "SeenToMoveModel" (196 : Nat) "SeenToMoveModel" "got" "I") ∈ zTT := zTT_in (List.mem_of_getElem? (i := 1365) (by decide +kernel)) rfl
theorem zk_1366 : (Jvm.Cond.fieldLink "SeenToMoveModel" (261 : Nat) "SeenToMoveModel" "lines" "I") ∈ zTT := zTT_in (List.mem_of_getElem? (i := 1366) (by decide +kernel)) rfl
theorem zk_1367 : (Jvm.Cond.fieldLink "SeenToMoveModel" (224 : Nat) "SeenToMoveModel" "isLaid" "Z") ∈ zTT := zTT_in (List.mem_of_getElem? (i := 1367) (by decide +kernel)) rfl
theorem zk_1368 : (Jvm.Cond.fieldLink "SeenToMoveModel" (50 : Nat) "SeenToMoveModel" "undone" "[I") ∈ zTT := zTT_in (List.mem_of_getElem? (i := 1368) (by decide +kernel)) rfl
theorem zk_1369 : (Jvm.Cond.fieldLink "SeenToMoveModel" (53 : Nat) "SeenToMoveModel" "before" "[I") ∈ zTT := zTT_in (List.mem_of_getElem? (i := 1369) (by decide +kernel)) rfl
theorem zk_1370 : (Jvm.Cond.fieldLink "SeenToMoveModel" (274 : Nat) "SeenToMoveModel" "undoMany" "I") ∈ zTT := zTT_in (List.mem_of_getElem? (i := 1370) (by decide +kernel)) rfl
theorem zk_1371 : (Jvm.Cond.fieldLink "SeenToMoveModel" (364 : Nat) "SeenToMoveModel" "blindSet" "I") ∈ zTT := zTT_in (List.mem_of_getElem? (i := 1371) (by decide +kernel)) rfl
theorem zk_1372 : (Jvm.Cond.fieldLink "SeenToMoveModel" (361 : Nat) "SeenToMoveModel" "hasBlind" "Z") ∈ zTT := zTT_in (List.mem_of_getElem? (i := 1372) (by decide +kernel)) rfl
theorem zk_1373 : (Jvm.Cond.fieldLink "SeenToMoveModel" (56 : Nat) "SeenToMoveModel" "coverRow" "[I") ∈ zTT := zTT_in (List.mem_of_getElem? (i := 1373) (by decide +kernel)) rfl
theorem zk_1374 : (Jvm.Cond.fieldLink "SeenToMoveModel" (59 : Nat) "SeenToMoveModel" "coverMany" "I") ∈ zTT := zTT_in (List.mem_of_getElem? (i := 1374) (by decide +kernel)) rfl
theorem zk_1375 : (Jvm.Cond.fieldLink "SeenToMoveModel" (379 : Nat) "SeenToMoveModel" "fewSet" "I") ∈ zTT := zTT_in (List.mem_of_getElem? (i := 1375) (by decide +kernel)) rfl
theorem zk_1376 : (Jvm.Cond.fieldLink "SeenToMoveModel" (376 : Nat) "SeenToMoveModel" "hasFew" "Z") ∈ zTT := zTT_in (List.mem_of_getElem? (i := 1376) (by decide +kernel)) rfl
theorem zk_1377 : (Jvm.Cond.fieldLink "SeenToMoveModel" (62 : Nat) "SeenToMoveModel" "fitRow" "[I") ∈ zTT := zTT_in (List.mem_of_getElem? (i := 1377) (by decide +kernel)) rfl
theorem zk_1378 : (Jvm.Cond.fieldLink "SeenToMoveModel" (65 : Nat) "SeenToMoveModel" "trail" "[I") ∈ zTT := zTT_in (List.mem_of_getElem? (i := 1378) (by decide +kernel)) rfl
theorem zk_1379 : (Jvm.Cond.fieldLink "SeenToMoveModel" (68 : Nat) "SeenToMoveModel" "fitMany" "I") ∈ zTT := zTT_in (List.mem_of_getElem? (i := 1379) (by decide +kernel)) rfl
theorem zk_1380 : (Jvm.Cond.fieldLink "SeenToMoveModel" (398 : Nat) "SeenToMoveModel" "askHour" "I") ∈ zTT := zTT_in (List.mem_of_getElem? (i := 1380) (by decide +kernel)) rfl
theorem zk_1381 : (Jvm.Cond.fieldLink "SeenToMoveModel" (71 : Nat) "SeenToMoveModel" "text" "[B") ∈ zTT := zTT_in (List.mem_of_getElem? (i := 1381) (by decide +kernel)) rfl
theorem zk_1382 : (Jvm.Cond.fieldLink "SeenToMoveModel" (408 : Nat) "SeenToMoveModel" "textMany" "I") ∈ zTT := zTT_in (List.mem_of_getElem? (i := 1382) (by decide +kernel)) rfl
theorem zk_1383 : (Jvm.Cond.fieldLink "SeenToMoveModel" (427 : Nat) "SeenToMoveModel" "seed" "I") ∈ zTT := zTT_in (List.mem_of_getElem? (i := 1383) (by decide +kernel)) rfl
theorem zk_1384 : (Jvm.Cond.fieldLink "SeenToMoveModel" (440 : Nat) "SeenToMoveModel" "toldMany" "I") ∈ zTT := zTT_in (List.mem_of_getElem? (i := 1384) (by decide +kernel)) rfl
theorem zk_1385 : (Jvm.Cond.fieldLink "SeenToMoveModel" (74 : Nat) "SeenToMoveModel" "toldAt" "[I") ∈ zTT := zTT_in (List.mem_of_getElem? (i := 1385) (by decide +kernel)) rfl
theorem zk_1386 : (Jvm.Cond.fieldLink "SeenToMoveModel" (450 : Nat) "SeenToMoveModel" "hasTold" "Z") ∈ zTT := zTT_in (List.mem_of_getElem? (i := 1386) (by decide +kernel)) rfl
theorem zk_1387 : (Jvm.Cond.fieldLink "SeenToMoveModel" (77 : Nat) "SeenToMoveModel" "stack" "[I") ∈ zTT := zTT_in (List.mem_of_getElem? (i := 1387) (by decide +kernel)) rfl
theorem zk_1388 : (Jvm.Cond.fieldLink "SeenToMoveModel" (453 : Nat) "SeenToMoveModel" "codes" "I") ∈ zTT := zTT_in (List.mem_of_getElem? (i := 1388) (by decide +kernel)) rfl
theorem zk_1389 : (Jvm.Cond.fieldLink "SeenToMoveModel" (469 : Nat) "SeenToMoveModel" "ones" "I") ∈ zTT := zTT_in (List.mem_of_getElem? (i := 1389) (by decide +kernel)) rfl
theorem zk_1390 : (Jvm.Cond.fieldLink "SeenToMoveModel" (456 : Nat) "SeenToMoveModel" "top" "I") ∈ zTT := zTT_in (List.mem_of_getElem? (i := 1390) (by decide +kernel)) rfl
theorem zk_1391 : (Jvm.Cond.fieldLink "SeenToMoveModel" (463 : Nat) "SeenToMoveModel" "deep" "I") ∈ zTT := zTT_in (List.mem_of_getElem? (i := 1391) (by decide +kernel)) rfl
theorem zk_1392 : (Jvm.Cond.fieldLink "SeenToMoveModel" (472 : Nat) "SeenToMoveModel" "isWhole" "Z") ∈ zTT := zTT_in (List.mem_of_getElem? (i := 1392) (by decide +kernel)) rfl
theorem zk_1393 : (Jvm.Cond.fieldLink "SeenToMoveModel" (80 : Nat) "SeenToMoveModel" "truths" "[Z") ∈ zTT := zTT_in (List.mem_of_getElem? (i := 1393) (by decide +kernel)) rfl
theorem zk_1394 : (Jvm.Cond.fieldLink "SeenToMoveModel" (84 : Nat) "SeenToMoveModel" "imaged" "[I") ∈ zTT := zTT_in (List.mem_of_getElem? (i := 1394) (by decide +kernel)) rfl
theorem zk_1395 : (Jvm.Cond.fieldLink "SeenToMoveModel" (87 : Nat) "SeenToMoveModel" "namesKept" "[J") ∈ zTT := zTT_in (List.mem_of_getElem? (i := 1395) (by decide +kernel)) rfl
theorem zk_1396 : (Jvm.Cond.fieldLink "SeenToMoveModel" (90 : Nat) "SeenToMoveModel" "areKept" "[Z") ∈ zTT := zTT_in (List.mem_of_getElem? (i := 1396) (by decide +kernel)) rfl
theorem zk_1397 : (Jvm.Cond.lays "SeenToMoveModel" "SeenToMoveModel" "thrown" "I") ∈ zTT := zTT_in (List.mem_of_getElem? (i := 1397) (by decide +kernel)) rfl
theorem zk_1399 : (Jvm.Cond.laysFinal "SeenToMoveModel" "SeenToMoveModel" "tape" "[B") ∈ zTT := zTT_in (List.mem_of_getElem? (i := 1399) (by decide +kernel)) rfl
theorem zk_1401 : (Jvm.Cond.lays "SeenToMoveModel" "SeenToMoveModel" "length" "I") ∈ zTT := zTT_in (List.mem_of_getElem? (i := 1401) (by decide +kernel)) rfl
theorem zk_1403 : (Jvm.Cond.lays "SeenToMoveModel" "SeenToMoveModel" "size" "I") ∈ zTT := zTT_in (List.mem_of_getElem? (i := 1403) (by decide +kernel)) rfl
theorem zk_1405 : (Jvm.Cond.lays "SeenToMoveModel" "SeenToMoveModel" "p" "I") ∈ zTT := zTT_in (List.mem_of_getElem? (i := 1405) (by decide +kernel)) rfl
theorem zk_1407 : (Jvm.Cond.lays "SeenToMoveModel" "SeenToMoveModel" "limit" "I") ∈ zTT := zTT_in (List.mem_of_getElem? (i := 1407) (by decide +kernel)) rfl
theorem zk_1409 : (Jvm.Cond.laysFinal "SeenToMoveModel" "SeenToMoveModel" "s" "[I") ∈ zTT := zTT_in (List.mem_of_getElem? (i := 1409) (by decide +kernel)) rfl
theorem zk_1411 : (Jvm.Cond.laysFinal "SeenToMoveModel" "SeenToMoveModel" "h" "[I") ∈ zTT := zTT_in (List.mem_of_getElem? (i := 1411) (by decide +kernel)) rfl
theorem zk_1413 : (Jvm.Cond.laysFinal "SeenToMoveModel" "SeenToMoveModel" "read" "[I") ∈ zTT := zTT_in (List.mem_of_getElem? (i := 1413) (by decide +kernel)) rfl
theorem zk_1415 : (Jvm.Cond.laysFinal "SeenToMoveModel" "SeenToMoveModel" "names" "[J") ∈ zTT := zTT_in (List.mem_of_getElem? (i := 1415) (by decide +kernel)) rfl
theorem zk_1417 : (Jvm.Cond.laysFinal "SeenToMoveModel" "SeenToMoveModel" "reserved" "[J") ∈ zTT := zTT_in (List.mem_of_getElem? (i := 1417) (by decide +kernel)) rfl
theorem zk_1419 : (Jvm.Cond.lays "SeenToMoveModel" "SeenToMoveModel" "token" "I") ∈ zTT := zTT_in (List.mem_of_getElem? (i := 1419) (by decide +kernel)) rfl
theorem zk_1421 : (Jvm.Cond.lays "SeenToMoveModel" "SeenToMoveModel" "at" "I") ∈ zTT := zTT_in (List.mem_of_getElem? (i := 1421) (by decide +kernel)) rfl
theorem zk_1423 : (Jvm.Cond.lays "SeenToMoveModel" "SeenToMoveModel" "span" "I") ∈ zTT := zTT_in (List.mem_of_getElem? (i := 1423) (by decide +kernel)) rfl
theorem zk_1425 : (Jvm.Cond.lays "SeenToMoveModel" "SeenToMoveModel" "number" "I") ∈ zTT := zTT_in (List.mem_of_getElem? (i := 1425) (by decide +kernel)) rfl
theorem zk_1427 : (Jvm.Cond.lays "SeenToMoveModel" "SeenToMoveModel" "fault" "I") ∈ zTT := zTT_in (List.mem_of_getElem? (i := 1427) (by decide +kernel)) rfl
theorem zk_1429 : (Jvm.Cond.lays "SeenToMoveModel" "SeenToMoveModel" "faultAt" "I") ∈ zTT := zTT_in (List.mem_of_getElem? (i := 1429) (by decide +kernel)) rfl
theorem zk_1431 : (Jvm.Cond.lays "SeenToMoveModel" "SeenToMoveModel" "word" "J") ∈ zTT := zTT_in (List.mem_of_getElem? (i := 1431) (by decide +kernel)) rfl
theorem zk_1433 : (Jvm.Cond.lays "SeenToMoveModel" "SeenToMoveModel" "got" "I") ∈ zTT := zTT_in (List.mem_of_getElem? (i := 1433) (by decide +kernel)) rfl
theorem zk_1435 : (Jvm.Cond.lays "SeenToMoveModel" "SeenToMoveModel" "lines" "I") ∈ zTT := zTT_in (List.mem_of_getElem? (i := 1435) (by decide +kernel)) rfl
theorem zk_1437 : (Jvm.Cond.lays "SeenToMoveModel" "SeenToMoveModel" "isLaid" "Z") ∈ zTT := zTT_in (List.mem_of_getElem? (i := 1437) (by decide +kernel)) rfl
theorem zk_1439 : (Jvm.Cond.laysFinal "SeenToMoveModel" "SeenToMoveModel" "undone" "[I") ∈ zTT := zTT_in (List.mem_of_getElem? (i := 1439) (by decide +kernel)) rfl
theorem zk_1441 : (Jvm.Cond.laysFinal "SeenToMoveModel" "SeenToMoveModel" "before" "[I") ∈ zTT := zTT_in (List.mem_of_getElem? (i := 1441) (by decide +kernel)) rfl
theorem zk_1443 : (Jvm.Cond.lays "SeenToMoveModel" "SeenToMoveModel" "undoMany" "I") ∈ zTT := zTT_in (List.mem_of_getElem? (i := 1443) (by decide +kernel)) rfl
theorem zk_1445 : (Jvm.Cond.lays "SeenToMoveModel" "SeenToMoveModel" "blindSet" "I") ∈ zTT := zTT_in (List.mem_of_getElem? (i := 1445) (by decide +kernel)) rfl
theorem zk_1447 : (Jvm.Cond.lays "SeenToMoveModel" "SeenToMoveModel" "hasBlind" "Z") ∈ zTT := zTT_in (List.mem_of_getElem? (i := 1447) (by decide +kernel)) rfl
theorem zk_1449 : (Jvm.Cond.laysFinal "SeenToMoveModel" "SeenToMoveModel" "coverRow" "[I") ∈ zTT := zTT_in (List.mem_of_getElem? (i := 1449) (by decide +kernel)) rfl
theorem zk_1451 : (Jvm.Cond.lays "SeenToMoveModel" "SeenToMoveModel" "coverMany" "I") ∈ zTT := zTT_in (List.mem_of_getElem? (i := 1451) (by decide +kernel)) rfl
theorem zk_1453 : (Jvm.Cond.lays "SeenToMoveModel" "SeenToMoveModel" "fewSet" "I") ∈ zTT := zTT_in (List.mem_of_getElem? (i := 1453) (by decide +kernel)) rfl
theorem zk_1455 : (Jvm.Cond.lays "SeenToMoveModel" "SeenToMoveModel" "hasFew" "Z") ∈ zTT := zTT_in (List.mem_of_getElem? (i := 1455) (by decide +kernel)) rfl
theorem zk_1457 : (Jvm.Cond.laysFinal "SeenToMoveModel" "SeenToMoveModel" "fitRow" "[I") ∈ zTT := zTT_in (List.mem_of_getElem? (i := 1457) (by decide +kernel)) rfl
theorem zk_1459 : (Jvm.Cond.laysFinal "SeenToMoveModel" "SeenToMoveModel" "trail" "[I") ∈ zTT := zTT_in (List.mem_of_getElem? (i := 1459) (by decide +kernel)) rfl
theorem zk_1461 : (Jvm.Cond.lays "SeenToMoveModel" "SeenToMoveModel" "fitMany" "I") ∈ zTT := zTT_in (List.mem_of_getElem? (i := 1461) (by decide +kernel)) rfl
theorem zk_1463 : (Jvm.Cond.lays "SeenToMoveModel" "SeenToMoveModel" "askHour" "I") ∈ zTT := zTT_in (List.mem_of_getElem? (i := 1463) (by decide +kernel)) rfl
theorem zk_1465 : (Jvm.Cond.laysFinal "SeenToMoveModel" "SeenToMoveModel" "text" "[B") ∈ zTT := zTT_in (List.mem_of_getElem? (i := 1465) (by decide +kernel)) rfl
theorem zk_1467 : (Jvm.Cond.lays "SeenToMoveModel" "SeenToMoveModel" "textMany" "I") ∈ zTT := zTT_in (List.mem_of_getElem? (i := 1467) (by decide +kernel)) rfl
theorem zk_1469 : (Jvm.Cond.lays "SeenToMoveModel" "SeenToMoveModel" "seed" "I") ∈ zTT := zTT_in (List.mem_of_getElem? (i := 1469) (by decide +kernel)) rfl
theorem zk_1471 : (Jvm.Cond.lays "SeenToMoveModel" "SeenToMoveModel" "toldMany" "I") ∈ zTT := zTT_in (List.mem_of_getElem? (i := 1471) (by decide +kernel)) rfl
theorem zk_1473 : (Jvm.Cond.laysFinal "SeenToMoveModel" "SeenToMoveModel" "toldAt" "[I") ∈ zTT := zTT_in (List.mem_of_getElem? (i := 1473) (by decide +kernel)) rfl
theorem zk_1475 : (Jvm.Cond.lays "SeenToMoveModel" "SeenToMoveModel" "hasTold" "Z") ∈ zTT := zTT_in (List.mem_of_getElem? (i := 1475) (by decide +kernel)) rfl
theorem zk_1477 : (Jvm.Cond.laysFinal "SeenToMoveModel" "SeenToMoveModel" "stack" "[I") ∈ zTT := zTT_in (List.mem_of_getElem? (i := 1477) (by decide +kernel)) rfl
theorem zk_1479 : (Jvm.Cond.lays "SeenToMoveModel" "SeenToMoveModel" "codes" "I") ∈ zTT := zTT_in (List.mem_of_getElem? (i := 1479) (by decide +kernel)) rfl
theorem zk_1481 : (Jvm.Cond.lays "SeenToMoveModel" "SeenToMoveModel" "ones" "I") ∈ zTT := zTT_in (List.mem_of_getElem? (i := 1481) (by decide +kernel)) rfl
theorem zk_1483 : (Jvm.Cond.lays "SeenToMoveModel" "SeenToMoveModel" "top" "I") ∈ zTT := zTT_in (List.mem_of_getElem? (i := 1483) (by decide +kernel)) rfl
theorem zk_1485 : (Jvm.Cond.lays "SeenToMoveModel" "SeenToMoveModel" "deep" "I") ∈ zTT := zTT_in (List.mem_of_getElem? (i := 1485) (by decide +kernel)) rfl
theorem zk_1487 : (Jvm.Cond.lays "SeenToMoveModel" "SeenToMoveModel" "isWhole" "Z") ∈ zTT := zTT_in (List.mem_of_getElem? (i := 1487) (by decide +kernel)) rfl
theorem zk_1489 : (Jvm.Cond.laysFinal "SeenToMoveModel" "SeenToMoveModel" "truths" "[Z") ∈ zTT := zTT_in (List.mem_of_getElem? (i := 1489) (by decide +kernel)) rfl
theorem zk_1491 : (Jvm.Cond.laysFinal "SeenToMoveModel" "SeenToMoveModel" "imaged" "[I") ∈ zTT := zTT_in (List.mem_of_getElem? (i := 1491) (by decide +kernel)) rfl
theorem zk_1493 : (Jvm.Cond.laysFinal "SeenToMoveModel" "SeenToMoveModel" "namesKept" "[J") ∈ zTT := zTT_in (List.mem_of_getElem? (i := 1493) (by decide +kernel)) rfl
theorem zk_1495 : (Jvm.Cond.laysFinal "SeenToMoveModel" "SeenToMoveModel" "areKept" "[Z") ∈ zTT := zTT_in (List.mem_of_getElem? (i := 1495) (by decide +kernel)) rfl
theorem zk_1500 : (Jvm.Cond.instanceMethod ({ cls := "SeenToMoveModel", name := "field", desc := "()I" } : Jvm.MethodName)) ∈ zTT := zTT_in (List.mem_of_getElem? (i := 1500) (by decide +kernel)) rfl
theorem zk_1501 : (Jvm.Cond.selects "SeenToMoveModel" ({ cls := "SeenToMoveModel", name := "field", desc := "()I" } : Jvm.MethodName) ({ cls := "SeenToMoveModel", name := "field", desc := "()I" } : Jvm.MethodName)) ∈ zTT := zTT_in (List.mem_of_getElem? (i := 1501) (by decide +kernel)) rfl
theorem zk_1502 : (Jvm.Cond.code ({ cls := "SeenToMoveModel", name := "field", desc := "()I" } : Jvm.MethodName) prog_14_method_39_code (2 : Nat) (Option.some Jvm.ClassFile.FieldType.int)) ∈ zTT := zTT_in (List.mem_of_getElem? (i := 1502) (by decide +kernel)) rfl
theorem zk_1503 : (Jvm.Cond.methodLink "SeenToMoveModel" (258 : Nat) ({ cls := "SeenToMoveModel", name := "taken", desc := "(I)V" } : Jvm.MethodName)) ∈ zTT := zTT_in (List.mem_of_getElem? (i := 1503) (by decide +kernel)) rfl
theorem zk_1505 : (Jvm.Cond.instanceMethod ({ cls := "SeenToMoveModel", name := "taken", desc := "(I)V" } : Jvm.MethodName)) ∈ zTT := zTT_in (List.mem_of_getElem? (i := 1505) (by decide +kernel)) rfl
theorem zk_1506 : (Jvm.Cond.code ({ cls := "SeenToMoveModel", name := "taken", desc := "(I)V" } : Jvm.MethodName) prog_14_method_6_code (2 : Nat) (Option.none : Option Jvm.ClassFile.FieldType)) ∈ zTT := zTT_in (List.mem_of_getElem? (i := 1506) (by decide +kernel)) rfl
theorem zk_1507 : (Jvm.Cond.methodLink "SeenToMoveModel" (189 : Nat) ({ cls := "SeenToMoveModel", name := "next", desc := "()V" } : Jvm.MethodName)) ∈ zTT := zTT_in (List.mem_of_getElem? (i := 1507) (by decide +kernel)) rfl
theorem zk_1509 : (Jvm.Cond.instanceMethod ({ cls := "SeenToMoveModel", name := "next", desc := "()V" } : Jvm.MethodName)) ∈ zTT := zTT_in (List.mem_of_getElem? (i := 1509) (by decide +kernel)) rfl
theorem zk_1510 : (Jvm.Cond.code ({ cls := "SeenToMoveModel", name := "next", desc := "()V" } : Jvm.MethodName) prog_14_method_17_code (4 : Nat) (Option.none : Option Jvm.ClassFile.FieldType)) ∈ zTT := zTT_in (List.mem_of_getElem? (i := 1510) (by decide +kernel)) rfl
theorem zk_1511 : (Jvm.Cond.methodLink "SeenToMoveModel" (150 : Nat) ({ cls := "SeenToMoveModel", name := "peek", desc := "()I" } : Jvm.MethodName)) ∈ zTT := zTT_in (List.mem_of_getElem? (i := 1511) (by decide +kernel)) rfl
theorem zk_1513 : (Jvm.Cond.instanceMethod ({ cls := "SeenToMoveModel", name := "peek", desc := "()I" } : Jvm.MethodName)) ∈ zTT := zTT_in (List.mem_of_getElem? (i := 1513) (by decide +kernel)) rfl
theorem zk_1514 : (Jvm.Cond.code ({ cls := "SeenToMoveModel", name := "peek", desc := "()I" } : Jvm.MethodName) prog_14_method_14_code (1 : Nat) (Option.some Jvm.ClassFile.FieldType.int)) ∈ zTT := zTT_in (List.mem_of_getElem? (i := 1514) (by decide +kernel)) rfl
theorem zk_1515 : (Jvm.Cond.methodLink "SeenToMoveModel" (163 : Nat) ({ cls := "SeenToMoveModel", name := "isSmall", desc := "(I)Z" } : Jvm.MethodName)) ∈ zTT := zTT_in (List.mem_of_getElem? (i := 1515) (by decide +kernel)) rfl
theorem zk_1516 : (Jvm.Cond.static ({ cls := "SeenToMoveModel", name := "isSmall", desc := "(I)Z" } : Jvm.MethodName)) ∈ zTT := zTT_in (List.mem_of_getElem? (i := 1516) (by decide +kernel)) rfl
theorem zk_1517 : (Jvm.Cond.code ({ cls := "SeenToMoveModel", name := "isSmall", desc := "(I)Z" } : Jvm.MethodName) prog_14_method_15_code (1 : Nat) (Option.some Jvm.ClassFile.FieldType.boolean)) ∈ zTT := zTT_in (List.mem_of_getElem? (i := 1517) (by decide +kernel)) rfl
theorem zk_1518 : (Jvm.Cond.methodLink "SeenToMoveModel" (167 : Nat) ({ cls := "SeenToMoveModel", name := "isDigit", desc := "(I)Z" } : Jvm.MethodName)) ∈ zTT := zTT_in (List.mem_of_getElem? (i := 1518) (by decide +kernel)) rfl
theorem zk_1519 : (Jvm.Cond.static ({ cls := "SeenToMoveModel", name := "isDigit", desc := "(I)Z" } : Jvm.MethodName)) ∈ zTT := zTT_in (List.mem_of_getElem? (i := 1519) (by decide +kernel)) rfl
theorem zk_1520 : (Jvm.Cond.code ({ cls := "SeenToMoveModel", name := "isDigit", desc := "(I)Z" } : Jvm.MethodName) prog_14_method_16_code (1 : Nat) (Option.some Jvm.ClassFile.FieldType.boolean)) ∈ zTT := zTT_in (List.mem_of_getElem? (i := 1520) (by decide +kernel)) rfl
theorem zk_1521 : (Jvm.Cond.methodLink "SeenToMoveModel" (264 : Nat) ({ cls := "SeenToMoveModel", name := "readLine", desc := "()Z" } : Jvm.MethodName)) ∈ zTT := zTT_in (List.mem_of_getElem? (i := 1521) (by decide +kernel)) rfl
theorem zk_1523 : (Jvm.Cond.instanceMethod ({ cls := "SeenToMoveModel", name := "readLine", desc := "()Z" } : Jvm.MethodName)) ∈ zTT := zTT_in (List.mem_of_getElem? (i := 1523) (by decide +kernel)) rfl
theorem zk_1524 : (Jvm.Cond.code ({ cls := "SeenToMoveModel", name := "readLine", desc := "()Z" } : Jvm.MethodName) prog_14_method_31_code (1 : Nat) (Option.some Jvm.ClassFile.FieldType.boolean)) ∈ zTT := zTT_in (List.mem_of_getElem? (i := 1524) (by decide +kernel)) rfl
theorem zk_1525 : (Jvm.Cond.methodLink "SeenToMoveModel" (203 : Nat) ({ cls := "SeenToMoveModel", name := "isWord", desc := "(J)Z" } : Jvm.MethodName)) ∈ zTT := zTT_in (List.mem_of_getElem? (i := 1525) (by decide +kernel)) rfl
theorem zk_1527 : (Jvm.Cond.instanceMethod ({ cls := "SeenToMoveModel", name := "isWord", desc := "(J)Z" } : Jvm.MethodName)) ∈ zTT := zTT_in (List.mem_of_getElem? (i := 1527) (by decide +kernel)) rfl
theorem zk_1528 : (Jvm.Cond.code ({ cls := "SeenToMoveModel", name := "isWord", desc := "(J)Z" } : Jvm.MethodName) prog_14_method_19_code (3 : Nat) (Option.some Jvm.ClassFile.FieldType.boolean)) ∈ zTT := zTT_in (List.mem_of_getElem? (i := 1528) (by decide +kernel)) rfl
theorem zk_1529 : (Jvm.Cond.methodLink "SeenToMoveModel" (221 : Nat) ({ cls := "SeenToMoveModel", name := "readField", desc := "()Z" } : Jvm.MethodName)) ∈ zTT := zTT_in (List.mem_of_getElem? (i := 1529) (by decide +kernel)) rfl
theorem zk_1531 : (Jvm.Cond.instanceMethod ({ cls := "SeenToMoveModel", name := "readField", desc := "()Z" } : Jvm.MethodName)) ∈ zTT := zTT_in (List.mem_of_getElem? (i := 1531) (by decide +kernel)) rfl
theorem zk_1532 : (Jvm.Cond.code ({ cls := "SeenToMoveModel", name := "readField", desc := "()Z" } : Jvm.MethodName) prog_14_method_32_code (1 : Nat) (Option.some Jvm.ClassFile.FieldType.boolean)) ∈ zTT := zTT_in (List.mem_of_getElem? (i := 1532) (by decide +kernel)) rfl
theorem zk_1533 : (Jvm.Cond.methodLink "SeenToMoveModel" (186 : Nat) ({ cls := "SeenToMoveModel", name := "bad", desc := "(I)Z" } : Jvm.MethodName)) ∈ zTT := zTT_in (List.mem_of_getElem? (i := 1533) (by decide +kernel)) rfl
theorem zk_1535 : (Jvm.Cond.instanceMethod ({ cls := "SeenToMoveModel", name := "bad", desc := "(I)Z" } : Jvm.MethodName)) ∈ zTT := zTT_in (List.mem_of_getElem? (i := 1535) (by decide +kernel)) rfl
theorem zk_1536 : (Jvm.Cond.code ({ cls := "SeenToMoveModel", name := "bad", desc := "(I)Z" } : Jvm.MethodName) prog_14_method_18_code (2 : Nat) (Option.some Jvm.ClassFile.FieldType.boolean)) ∈ zTT := zTT_in (List.mem_of_getElem? (i := 1536) (by decide +kernel)) rfl
theorem zk_1537 : (Jvm.Cond.methodLink "SeenToMoveModel" (243 : Nat) ({ cls := "SeenToMoveModel", name := "puts", desc := "(III)Z" } : Jvm.MethodName)) ∈ zTT := zTT_in (List.mem_of_getElem? (i := 1537) (by decide +kernel)) rfl
theorem zk_1539 : (Jvm.Cond.instanceMethod ({ cls := "SeenToMoveModel", name := "puts", desc := "(III)Z" } : Jvm.MethodName)) ∈ zTT := zTT_in (List.mem_of_getElem? (i := 1539) (by decide +kernel)) rfl
theorem zk_1540 : (Jvm.Cond.code ({ cls := "SeenToMoveModel", name := "puts", desc := "(III)Z" } : Jvm.MethodName) prog_14_method_24_code (4 : Nat) (Option.some Jvm.ClassFile.FieldType.boolean)) ∈ zTT := zTT_in (List.mem_of_getElem? (i := 1540) (by decide +kernel)) rfl
theorem zk_1541 : (Jvm.Cond.methodLink "SeenToMoveModel" (199 : Nat) ({ cls := "SeenToMoveModel", name := "takes", desc := "(II)Z" } : Jvm.MethodName)) ∈ zTT := zTT_in (List.mem_of_getElem? (i := 1541) (by decide +kernel)) rfl
theorem zk_1543 : (Jvm.Cond.instanceMethod ({ cls := "SeenToMoveModel", name := "takes", desc := "(II)Z" } : Jvm.MethodName)) ∈ zTT := zTT_in (List.mem_of_getElem? (i := 1543) (by decide +kernel)) rfl
theorem zk_1544 : (Jvm.Cond.code ({ cls := "SeenToMoveModel", name := "takes", desc := "(II)Z" } : Jvm.MethodName) prog_14_method_23_code (3 : Nat) (Option.some Jvm.ClassFile.FieldType.boolean)) ∈ zTT := zTT_in (List.mem_of_getElem? (i := 1544) (by decide +kernel)) rfl
theorem zk_1545 : (Jvm.Cond.methodLink "SeenToMoveModel" (192 : Nat) ({ cls := "SeenToMoveModel", name := "isIn", desc := "(III)Z" } : Jvm.MethodName)) ∈ zTT := zTT_in (List.mem_of_getElem? (i := 1545) (by decide +kernel)) rfl
theorem zk_1546 : (Jvm.Cond.static ({ cls := "SeenToMoveModel", name := "isIn", desc := "(III)Z" } : Jvm.MethodName)) ∈ zTT := zTT_in (List.mem_of_getElem? (i := 1546) (by decide +kernel)) rfl
theorem zk_1547 : (Jvm.Cond.code ({ cls := "SeenToMoveModel", name := "isIn", desc := "(III)Z" } : Jvm.MethodName) prog_14_method_7_code (3 : Nat) (Option.some Jvm.ClassFile.FieldType.boolean)) ∈ zTT := zTT_in (List.mem_of_getElem? (i := 1547) (by decide +kernel)) rfl
theorem zk_1548 : (Jvm.Cond.methodLink "SeenToMoveModel" (228 : Nat) ({ cls := "SeenToMoveModel", name := "readHedge", desc := "()Z" } : Jvm.MethodName)) ∈ zTT := zTT_in (List.mem_of_getElem? (i := 1548) (by decide +kernel)) rfl
theorem zk_1550 : (Jvm.Cond.instanceMethod ({ cls := "SeenToMoveModel", name := "readHedge", desc := "()Z" } : Jvm.MethodName)) ∈ zTT := zTT_in (List.mem_of_getElem? (i := 1550) (by decide +kernel)) rfl
theorem zk_1551 : (Jvm.Cond.code ({ cls := "SeenToMoveModel", name := "readHedge", desc := "()Z" } : Jvm.MethodName) prog_14_method_34_code (1 : Nat) (Option.some Jvm.ClassFile.FieldType.boolean)) ∈ zTT := zTT_in (List.mem_of_getElem? (i := 1551) (by decide +kernel)) rfl
theorem zk_1552 : (Jvm.Cond.methodLink "SeenToMoveModel" (246 : Nat) ({ cls := "SeenToMoveModel", name := "takesCell", desc := "()Z" } : Jvm.MethodName)) ∈ zTT := zTT_in (List.mem_of_getElem? (i := 1552) (by decide +kernel)) rfl
theorem zk_1554 : (Jvm.Cond.instanceMethod ({ cls := "SeenToMoveModel", name := "takesCell", desc := "()Z" } : Jvm.MethodName)) ∈ zTT := zTT_in (List.mem_of_getElem? (i := 1554) (by decide +kernel)) rfl
theorem zk_1555 : (Jvm.Cond.code ({ cls := "SeenToMoveModel", name := "takesCell", desc := "()Z" } : Jvm.MethodName) prog_14_method_33_code (5 : Nat) (Option.some Jvm.ClassFile.FieldType.boolean)) ∈ zTT := zTT_in (List.mem_of_getElem? (i := 1555) (by decide +kernel)) rfl
theorem zk_1556 : (Jvm.Cond.methodLink "SeenToMoveModel" (231 : Nat) ({ cls := "SeenToMoveModel", name := "readOwner", desc := "()Z" } : Jvm.MethodName)) ∈ zTT := zTT_in (List.mem_of_getElem? (i := 1556) (by decide +kernel)) rfl
theorem zk_1558 : (Jvm.Cond.instanceMethod ({ cls := "SeenToMoveModel", name := "readOwner", desc := "()Z" } : Jvm.MethodName)) ∈ zTT := zTT_in (List.mem_of_getElem? (i := 1558) (by decide +kernel)) rfl
theorem zk_1559 : (Jvm.Cond.code ({ cls := "SeenToMoveModel", name := "readOwner", desc := "()Z" } : Jvm.MethodName) prog_14_method_35_code (2 : Nat) (Option.some Jvm.ClassFile.FieldType.boolean)) ∈ zTT := zTT_in (List.mem_of_getElem? (i := 1559) (by decide +kernel)) rfl
theorem zk_1560 : (Jvm.Cond.methodLink "SeenToMoveModel" (249 : Nat) ({ cls := "SeenToMoveModel", name := "fresh", desc := "(I)Z" } : Jvm.MethodName)) ∈ zTT := zTT_in (List.mem_of_getElem? (i := 1560) (by decide +kernel)) rfl
theorem zk_1562 : (Jvm.Cond.instanceMethod ({ cls := "SeenToMoveModel", name := "fresh", desc := "(I)Z" } : Jvm.MethodName)) ∈ zTT := zTT_in (List.mem_of_getElem? (i := 1562) (by decide +kernel)) rfl
theorem zk_1563 : (Jvm.Cond.code ({ cls := "SeenToMoveModel", name := "fresh", desc := "(I)Z" } : Jvm.MethodName) prog_14_method_28_code (2 : Nat) (Option.some Jvm.ClassFile.FieldType.boolean)) ∈ zTT := zTT_in (List.mem_of_getElem? (i := 1563) (by decide +kernel)) rfl
theorem zk_1564 : (Jvm.Cond.methodLink "SeenToMoveModel" (210 : Nat) ({ cls := "SeenToMoveModel", name := "isName", desc := "()Z" } : Jvm.MethodName)) ∈ zTT := zTT_in (List.mem_of_getElem? (i := 1564) (by decide +kernel)) rfl
theorem zk_1566 : (Jvm.Cond.instanceMethod ({ cls := "SeenToMoveModel", name := "isName", desc := "()Z" } : Jvm.MethodName)) ∈ zTT := zTT_in (List.mem_of_getElem? (i := 1566) (by decide +kernel)) rfl
theorem zk_1567 : (Jvm.Cond.code ({ cls := "SeenToMoveModel", name := "isName", desc := "()Z" } : Jvm.MethodName) prog_14_method_22_code (3 : Nat) (Option.some Jvm.ClassFile.FieldType.boolean)) ∈ zTT := zTT_in (List.mem_of_getElem? (i := 1567) (by decide +kernel)) rfl
theorem zk_1568 : (Jvm.Cond.methodLink "SeenToMoveModel" (214 : Nat) ({ cls := "SeenToMoveModel", name := "seek", desc := "(II)I" } : Jvm.MethodName)) ∈ zTT := zTT_in (List.mem_of_getElem? (i := 1568) (by decide +kernel)) rfl
theorem zk_1570 : (Jvm.Cond.instanceMethod ({ cls := "SeenToMoveModel", name := "seek", desc := "(II)I" } : Jvm.MethodName)) ∈ zTT := zTT_in (List.mem_of_getElem? (i := 1570) (by decide +kernel)) rfl
theorem zk_1571 : (Jvm.Cond.code ({ cls := "SeenToMoveModel", name := "seek", desc := "(II)I" } : Jvm.MethodName) prog_14_method_27_code (4 : Nat) (Option.some Jvm.ClassFile.FieldType.int)) ∈ zTT := zTT_in (List.mem_of_getElem? (i := 1571) (by decide +kernel)) rfl
theorem zk_1572 : (Jvm.Cond.methodLink "SeenToMoveModel" (234 : Nat) ({ cls := "SeenToMoveModel", name := "readLand", desc := "()Z" } : Jvm.MethodName)) ∈ zTT := zTT_in (List.mem_of_getElem? (i := 1572) (by decide +kernel)) rfl
theorem zk_1574 : (Jvm.Cond.instanceMethod ({ cls := "SeenToMoveModel", name := "readLand", desc := "()Z" } : Jvm.MethodName)) ∈ zTT := zTT_in (List.mem_of_getElem? (i := 1574) (by decide +kernel)) rfl
theorem zk_1575 : (Jvm.Cond.code ({ cls := "SeenToMoveModel", name := "readLand", desc := "()Z" } : Jvm.MethodName) prog_14_method_36_code (2 : Nat) (Option.some Jvm.ClassFile.FieldType.boolean)) ∈ zTT := zTT_in (List.mem_of_getElem? (i := 1575) (by decide +kernel)) rfl
theorem zk_1576 : (Jvm.Cond.methodLink "SeenToMoveModel" (252 : Nat) ({ cls := "SeenToMoveModel", name := "takesName", desc := "(II)Z" } : Jvm.MethodName)) ∈ zTT := zTT_in (List.mem_of_getElem? (i := 1576) (by decide +kernel)) rfl
theorem zk_1578 : (Jvm.Cond.instanceMethod ({ cls := "SeenToMoveModel", name := "takesName", desc := "(II)Z" } : Jvm.MethodName)) ∈ zTT := zTT_in (List.mem_of_getElem? (i := 1578) (by decide +kernel)) rfl
theorem zk_1579 : (Jvm.Cond.code ({ cls := "SeenToMoveModel", name := "takesName", desc := "(II)Z" } : Jvm.MethodName) prog_14_method_30_code (3 : Nat) (Option.some Jvm.ClassFile.FieldType.boolean)) ∈ zTT := zTT_in (List.mem_of_getElem? (i := 1579) (by decide +kernel)) rfl
theorem zk_1580 : (Jvm.Cond.methodLink "SeenToMoveModel" (218 : Nat) ({ cls := "SeenToMoveModel", name := "looksAt", desc := "(II)Z" } : Jvm.MethodName)) ∈ zTT := zTT_in (List.mem_of_getElem? (i := 1580) (by decide +kernel)) rfl
theorem zk_1582 : (Jvm.Cond.instanceMethod ({ cls := "SeenToMoveModel", name := "looksAt", desc := "(II)Z" } : Jvm.MethodName)) ∈ zTT := zTT_in (List.mem_of_getElem? (i := 1582) (by decide +kernel)) rfl
theorem zk_1583 : (Jvm.Cond.code ({ cls := "SeenToMoveModel", name := "looksAt", desc := "(II)Z" } : Jvm.MethodName) prog_14_method_29_code (3 : Nat) (Option.some Jvm.ClassFile.FieldType.boolean)) ∈ zTT := zTT_in (List.mem_of_getElem? (i := 1583) (by decide +kernel)) rfl
theorem zk_1584 : (Jvm.Cond.methodLink "SeenToMoveModel" (237 : Nat) ({ cls := "SeenToMoveModel", name := "readFigure", desc := "()Z" } : Jvm.MethodName)) ∈ zTT := zTT_in (List.mem_of_getElem? (i := 1584) (by decide +kernel)) rfl
theorem zk_1586 : (Jvm.Cond.instanceMethod ({ cls := "SeenToMoveModel", name := "readFigure", desc := "()Z" } : Jvm.MethodName)) ∈ zTT := zTT_in (List.mem_of_getElem? (i := 1586) (by decide +kernel)) rfl
theorem zk_1587 : (Jvm.Cond.code ({ cls := "SeenToMoveModel", name := "readFigure", desc := "()Z" } : Jvm.MethodName) prog_14_method_37_code (2 : Nat) (Option.some Jvm.ClassFile.FieldType.boolean)) ∈ zTT := zTT_in (List.mem_of_getElem? (i := 1587) (by decide +kernel)) rfl
theorem zk_1588 : (Jvm.Cond.methodLink "SeenToMoveModel" (255 : Nat) ({ cls := "SeenToMoveModel", name := "takesSide", desc := "()Z" } : Jvm.MethodName)) ∈ zTT := zTT_in (List.mem_of_getElem? (i := 1588) (by decide +kernel)) rfl
theorem zk_1590 : (Jvm.Cond.instanceMethod ({ cls := "SeenToMoveModel", name := "takesSide", desc := "()Z" } : Jvm.MethodName)) ∈ zTT := zTT_in (List.mem_of_getElem? (i := 1590) (by decide +kernel)) rfl
theorem zk_1591 : (Jvm.Cond.code ({ cls := "SeenToMoveModel", name := "takesSide", desc := "()Z" } : Jvm.MethodName) prog_14_method_26_code (1 : Nat) (Option.some Jvm.ClassFile.FieldType.boolean)) ∈ zTT := zTT_in (List.mem_of_getElem? (i := 1591) (by decide +kernel)) rfl
theorem zk_1592 : (Jvm.Cond.methodLink "SeenToMoveModel" (207 : Nat) ({ cls := "SeenToMoveModel", name := "sideWord", desc := "()I" } : Jvm.MethodName)) ∈ zTT := zTT_in (List.mem_of_getElem? (i := 1592) (by decide +kernel)) rfl
theorem zk_1594 : (Jvm.Cond.instanceMethod ({ cls := "SeenToMoveModel", name := "sideWord", desc := "()I" } : Jvm.MethodName)) ∈ zTT := zTT_in (List.mem_of_getElem? (i := 1594) (by decide +kernel)) rfl
theorem zk_1595 : (Jvm.Cond.code ({ cls := "SeenToMoveModel", name := "sideWord", desc := "()I" } : Jvm.MethodName) prog_14_method_25_code (1 : Nat) (Option.some Jvm.ClassFile.FieldType.int)) ∈ zTT := zTT_in (List.mem_of_getElem? (i := 1595) (by decide +kernel)) rfl
theorem zk_1596 : (Jvm.Cond.methodLink "SeenToMoveModel" (240 : Nat) ({ cls := "SeenToMoveModel", name := "readLooker", desc := "()Z" } : Jvm.MethodName)) ∈ zTT := zTT_in (List.mem_of_getElem? (i := 1596) (by decide +kernel)) rfl
theorem zk_1598 : (Jvm.Cond.instanceMethod ({ cls := "SeenToMoveModel", name := "readLooker", desc := "()Z" } : Jvm.MethodName)) ∈ zTT := zTT_in (List.mem_of_getElem? (i := 1598) (by decide +kernel)) rfl
theorem zk_1599 : (Jvm.Cond.code ({ cls := "SeenToMoveModel", name := "readLooker", desc := "()Z" } : Jvm.MethodName) prog_14_method_38_code (2 : Nat) (Option.some Jvm.ClassFile.FieldType.boolean)) ∈ zTT := zTT_in (List.mem_of_getElem? (i := 1599) (by decide +kernel)) rfl
theorem zk_1600 : (Jvm.Cond.methodLink "SeenToMoveModel" (267 : Nat) ({ cls := "SeenToMoveModel", name := "sign", desc := "(I)Z" } : Jvm.MethodName)) ∈ zTT := zTT_in (List.mem_of_getElem? (i := 1600) (by decide +kernel)) rfl
theorem zk_1602 : (Jvm.Cond.instanceMethod ({ cls := "SeenToMoveModel", name := "sign", desc := "(I)Z" } : Jvm.MethodName)) ∈ zTT := zTT_in (List.mem_of_getElem? (i := 1602) (by decide +kernel)) rfl
theorem zk_1603 : (Jvm.Cond.code ({ cls := "SeenToMoveModel", name := "sign", desc := "(I)Z" } : Jvm.MethodName) prog_14_method_21_code (2 : Nat) (Option.some Jvm.ClassFile.FieldType.boolean)) ∈ zTT := zTT_in (List.mem_of_getElem? (i := 1603) (by decide +kernel)) rfl
theorem zk_1604 : (Jvm.Cond.methodLink "SeenToMoveModel" (183 : Nat) ({ cls := "SeenToMoveModel", name := "isSign", desc := "(I)Z" } : Jvm.MethodName)) ∈ zTT := zTT_in (List.mem_of_getElem? (i := 1604) (by decide +kernel)) rfl
theorem zk_1606 : (Jvm.Cond.instanceMethod ({ cls := "SeenToMoveModel", name := "isSign", desc := "(I)Z" } : Jvm.MethodName)) ∈ zTT := zTT_in (List.mem_of_getElem? (i := 1606) (by decide +kernel)) rfl
theorem zk_1607 : (Jvm.Cond.code ({ cls := "SeenToMoveModel", name := "isSign", desc := "(I)Z" } : Jvm.MethodName) prog_14_method_20_code (2 : Nat) (Option.some Jvm.ClassFile.FieldType.boolean)) ∈ zTT := zTT_in (List.mem_of_getElem? (i := 1607) (by decide +kernel)) rfl
theorem zk_1608 : (Jvm.Cond.methodLink "SeenToMoveModel" (270 : Nat) ({ cls := "SeenToMoveModel", name := "firstOwner", desc := "(I)I" } : Jvm.MethodName)) ∈ zTT := zTT_in (List.mem_of_getElem? (i := 1608) (by decide +kernel)) rfl
theorem zk_1610 : (Jvm.Cond.instanceMethod ({ cls := "SeenToMoveModel", name := "firstOwner", desc := "(I)I" } : Jvm.MethodName)) ∈ zTT := zTT_in (List.mem_of_getElem? (i := 1610) (by decide +kernel)) rfl
theorem zk_1611 : (Jvm.Cond.code ({ cls := "SeenToMoveModel", name := "firstOwner", desc := "(I)I" } : Jvm.MethodName) prog_14_method_44_code (3 : Nat) (Option.some Jvm.ClassFile.FieldType.int)) ∈ zTT := zTT_in (List.mem_of_getElem? (i := 1611) (by decide +kernel)) rfl
theorem zk_1612 : (Jvm.Cond.methodLink "SeenToMoveModel" (277 : Nat) ({ cls := "SeenToMoveModel", name := "isCell", desc := "(II)Z" } : Jvm.MethodName)) ∈ zTT := zTT_in (List.mem_of_getElem? (i := 1612) (by decide +kernel)) rfl
theorem zk_1614 : (Jvm.Cond.instanceMethod ({ cls := "SeenToMoveModel", name := "isCell", desc := "(II)Z" } : Jvm.MethodName)) ∈ zTT := zTT_in (List.mem_of_getElem? (i := 1614) (by decide +kernel)) rfl
theorem zk_1615 : (Jvm.Cond.code ({ cls := "SeenToMoveModel", name := "isCell", desc := "(II)Z" } : Jvm.MethodName) prog_14_method_41_code (3 : Nat) (Option.some Jvm.ClassFile.FieldType.boolean)) ∈ zTT := zTT_in (List.mem_of_getElem? (i := 1615) (by decide +kernel)) rfl
theorem zk_1617 : (Jvm.Cond.instanceMethod ({ cls := "SeenToMoveModel", name := "fault", desc := "()I" } : Jvm.MethodName)) ∈ zTT := zTT_in (List.mem_of_getElem? (i := 1617) (by decide +kernel)) rfl
theorem zk_1618 : (Jvm.Cond.selects "SeenToMoveModel" ({ cls := "SeenToMoveModel", name := "fault", desc := "()I" } : Jvm.MethodName) ({ cls := "SeenToMoveModel", name := "fault", desc := "()I" } : Jvm.MethodName)) ∈ zTT := zTT_in (List.mem_of_getElem? (i := 1618) (by decide +kernel)) rfl
theorem zk_1619 : (Jvm.Cond.code ({ cls := "SeenToMoveModel", name := "fault", desc := "()I" } : Jvm.MethodName) prog_14_method_40_code (1 : Nat) (Option.some Jvm.ClassFile.FieldType.int)) ∈ zTT := zTT_in (List.mem_of_getElem? (i := 1619) (by decide +kernel)) rfl
theorem zk_1621 : (Jvm.Cond.instanceMethod ({ cls := "SeenToMoveModel", name := "figure", desc := "(II)I" } : Jvm.MethodName)) ∈ zTT := zTT_in (List.mem_of_getElem? (i := 1621) (by decide +kernel)) rfl
theorem zk_1622 : (Jvm.Cond.selects "SeenToMoveModel" ({ cls := "SeenToMoveModel", name := "figure", desc := "(II)I" } : Jvm.MethodName) ({ cls := "SeenToMoveModel", name := "figure", desc := "(II)I" } : Jvm.MethodName)) ∈ zTT := zTT_in (List.mem_of_getElem? (i := 1622) (by decide +kernel)) rfl
theorem zk_1623 : (Jvm.Cond.code ({ cls := "SeenToMoveModel", name := "figure", desc := "(II)I" } : Jvm.MethodName) prog_14_method_56_code (3 : Nat) (Option.some Jvm.ClassFile.FieldType.int)) ∈ zTT := zTT_in (List.mem_of_getElem? (i := 1623) (by decide +kernel)) rfl
theorem zk_1624 : (Jvm.Cond.methodLink "SeenToMoveModel" (304 : Nat) ({ cls := "SeenToMoveModel", name := "isFigure", desc := "(I)Z" } : Jvm.MethodName)) ∈ zTT := zTT_in (List.mem_of_getElem? (i := 1624) (by decide +kernel)) rfl
theorem zk_1626 : (Jvm.Cond.instanceMethod ({ cls := "SeenToMoveModel", name := "isFigure", desc := "(I)Z" } : Jvm.MethodName)) ∈ zTT := zTT_in (List.mem_of_getElem? (i := 1626) (by decide +kernel)) rfl
theorem zk_1627 : (Jvm.Cond.code ({ cls := "SeenToMoveModel", name := "isFigure", desc := "(I)Z" } : Jvm.MethodName) prog_14_method_42_code (2 : Nat) (Option.some Jvm.ClassFile.FieldType.boolean)) ∈ zTT := zTT_in (List.mem_of_getElem? (i := 1627) (by decide +kernel)) rfl
theorem zk_1628 : (Jvm.Cond.methodLink "SeenToMoveModel" (307 : Nat) ({ cls := "SeenToMoveModel", name := "throwsIf", desc := "(Z)Z" } : Jvm.MethodName)) ∈ zTT := zTT_in (List.mem_of_getElem? (i := 1628) (by decide +kernel)) rfl
theorem zk_1630 : (Jvm.Cond.instanceMethod ({ cls := "SeenToMoveModel", name := "throwsIf", desc := "(Z)Z" } : Jvm.MethodName)) ∈ zTT := zTT_in (List.mem_of_getElem? (i := 1630) (by decide +kernel)) rfl
theorem zk_1631 : (Jvm.Cond.code ({ cls := "SeenToMoveModel", name := "throwsIf", desc := "(Z)Z" } : Jvm.MethodName) prog_14_method_2_code (2 : Nat) (Option.some Jvm.ClassFile.FieldType.boolean)) ∈ zTT := zTT_in (List.mem_of_getElem? (i := 1631) (by decide +kernel)) rfl
theorem zk_1632 : (Jvm.Cond.methodLink "SeenToMoveModel" (311 : Nat) ({ cls := "SeenToMoveModel", name := "seenBy", desc := "(I)I" } : Jvm.MethodName)) ∈ zTT := zTT_in (List.mem_of_getElem? (i := 1632) (by decide +kernel)) rfl
theorem zk_1634 : (Jvm.Cond.instanceMethod ({ cls := "SeenToMoveModel", name := "seenBy", desc := "(I)I" } : Jvm.MethodName)) ∈ zTT := zTT_in (List.mem_of_getElem? (i := 1634) (by decide +kernel)) rfl
theorem zk_1635 : (Jvm.Cond.code ({ cls := "SeenToMoveModel", name := "seenBy", desc := "(I)I" } : Jvm.MethodName) prog_14_method_53_code (4 : Nat) (Option.some Jvm.ClassFile.FieldType.int)) ∈ zTT := zTT_in (List.mem_of_getElem? (i := 1635) (by decide +kernel)) rfl
theorem zk_1636 : (Jvm.Cond.methodLink "SeenToMoveModel" (301 : Nat) ({ cls := "SeenToMoveModel", name := "seesOf", desc := "(I)I" } : Jvm.MethodName)) ∈ zTT := zTT_in (List.mem_of_getElem? (i := 1636) (by decide +kernel)) rfl
theorem zk_1638 : (Jvm.Cond.instanceMethod ({ cls := "SeenToMoveModel", name := "seesOf", desc := "(I)I" } : Jvm.MethodName)) ∈ zTT := zTT_in (List.mem_of_getElem? (i := 1638) (by decide +kernel)) rfl
theorem zk_1639 : (Jvm.Cond.code ({ cls := "SeenToMoveModel", name := "seesOf", desc := "(I)I" } : Jvm.MethodName) prog_14_method_52_code (2 : Nat) (Option.some Jvm.ClassFile.FieldType.int)) ∈ zTT := zTT_in (List.mem_of_getElem? (i := 1639) (by decide +kernel)) rfl
theorem zk_1640 : (Jvm.Cond.methodLink "SeenToMoveModel" (295 : Nat) ({ cls := "SeenToMoveModel", name := "isLooking", desc := "(I)Z" } : Jvm.MethodName)) ∈ zTT := zTT_in (List.mem_of_getElem? (i := 1640) (by decide +kernel)) rfl
theorem zk_1642 : (Jvm.Cond.instanceMethod ({ cls := "SeenToMoveModel", name := "isLooking", desc := "(I)Z" } : Jvm.MethodName)) ∈ zTT := zTT_in (List.mem_of_getElem? (i := 1642) (by decide +kernel)) rfl
theorem zk_1643 : (Jvm.Cond.code ({ cls := "SeenToMoveModel", name := "isLooking", desc := "(I)Z" } : Jvm.MethodName) prog_14_method_51_code (2 : Nat) (Option.some Jvm.ClassFile.FieldType.boolean)) ∈ zTT := zTT_in (List.mem_of_getElem? (i := 1643) (by decide +kernel)) rfl
theorem zk_1644 : (Jvm.Cond.methodLink "SeenToMoveModel" (292 : Nat) ({ cls := "SeenToMoveModel", name := "isShut", desc := "(I)Z" } : Jvm.MethodName)) ∈ zTT := zTT_in (List.mem_of_getElem? (i := 1644) (by decide +kernel)) rfl
theorem zk_1646 : (Jvm.Cond.instanceMethod ({ cls := "SeenToMoveModel", name := "isShut", desc := "(I)Z" } : Jvm.MethodName)) ∈ zTT := zTT_in (List.mem_of_getElem? (i := 1646) (by decide +kernel)) rfl
theorem zk_1647 : (Jvm.Cond.code ({ cls := "SeenToMoveModel", name := "isShut", desc := "(I)Z" } : Jvm.MethodName) prog_14_method_50_code (2 : Nat) (Option.some Jvm.ClassFile.FieldType.boolean)) ∈ zTT := zTT_in (List.mem_of_getElem? (i := 1647) (by decide +kernel)) rfl
theorem zk_1648 : (Jvm.Cond.methodLink "SeenToMoveModel" (289 : Nat) ({ cls := "SeenToMoveModel", name := "bitOf", desc := "(II)Z" } : Jvm.MethodName)) ∈ zTT := zTT_in (List.mem_of_getElem? (i := 1648) (by decide +kernel)) rfl
theorem zk_1649 : (Jvm.Cond.static ({ cls := "SeenToMoveModel", name := "bitOf", desc := "(II)Z" } : Jvm.MethodName)) ∈ zTT := zTT_in (List.mem_of_getElem? (i := 1649) (by decide +kernel)) rfl
theorem zk_1650 : (Jvm.Cond.code ({ cls := "SeenToMoveModel", name := "bitOf", desc := "(II)Z" } : Jvm.MethodName) prog_14_method_8_code (2 : Nat) (Option.some Jvm.ClassFile.FieldType.boolean)) ∈ zTT := zTT_in (List.mem_of_getElem? (i := 1650) (by decide +kernel)) rfl
theorem zk_1651 : (Jvm.Cond.methodLink "SeenToMoveModel" (298 : Nat) ({ cls := "SeenToMoveModel", name := "figuresTo", desc := "(II)I" } : Jvm.MethodName)) ∈ zTT := zTT_in (List.mem_of_getElem? (i := 1651) (by decide +kernel)) rfl
theorem zk_1653 : (Jvm.Cond.instanceMethod ({ cls := "SeenToMoveModel", name := "figuresTo", desc := "(II)I" } : Jvm.MethodName)) ∈ zTT := zTT_in (List.mem_of_getElem? (i := 1653) (by decide +kernel)) rfl
theorem zk_1654 : (Jvm.Cond.code ({ cls := "SeenToMoveModel", name := "figuresTo", desc := "(II)I" } : Jvm.MethodName) prog_14_method_49_code (5 : Nat) (Option.some Jvm.ClassFile.FieldType.int)) ∈ zTT := zTT_in (List.mem_of_getElem? (i := 1654) (by decide +kernel)) rfl
theorem zk_1655 : (Jvm.Cond.methodLink "SeenToMoveModel" (283 : Nat) ({ cls := "SeenToMoveModel", name := "figureAt", desc := "(I)I" } : Jvm.MethodName)) ∈ zTT := zTT_in (List.mem_of_getElem? (i := 1655) (by decide +kernel)) rfl
theorem zk_1657 : (Jvm.Cond.instanceMethod ({ cls := "SeenToMoveModel", name := "figureAt", desc := "(I)I" } : Jvm.MethodName)) ∈ zTT := zTT_in (List.mem_of_getElem? (i := 1657) (by decide +kernel)) rfl
theorem zk_1658 : (Jvm.Cond.code ({ cls := "SeenToMoveModel", name := "figureAt", desc := "(I)I" } : Jvm.MethodName) prog_14_method_45_code (3 : Nat) (Option.some Jvm.ClassFile.FieldType.int)) ∈ zTT := zTT_in (List.mem_of_getElem? (i := 1658) (by decide +kernel)) rfl
theorem zk_1659 : (Jvm.Cond.methodLink "SeenToMoveModel" (280 : Nat) ({ cls := "SeenToMoveModel", name := "beside", desc := "(II)I" } : Jvm.MethodName)) ∈ zTT := zTT_in (List.mem_of_getElem? (i := 1659) (by decide +kernel)) rfl
theorem zk_1661 : (Jvm.Cond.instanceMethod ({ cls := "SeenToMoveModel", name := "beside", desc := "(II)I" } : Jvm.MethodName)) ∈ zTT := zTT_in (List.mem_of_getElem? (i := 1661) (by decide +kernel)) rfl
theorem zk_1662 : (Jvm.Cond.code ({ cls := "SeenToMoveModel", name := "beside", desc := "(II)I" } : Jvm.MethodName) prog_14_method_47_code (5 : Nat) (Option.some Jvm.ClassFile.FieldType.int)) ∈ zTT := zTT_in (List.mem_of_getElem? (i := 1662) (by decide +kernel)) rfl
theorem zk_1663 : (Jvm.Cond.methodLink "SeenToMoveModel" (314 : Nat) ({ cls := "SeenToMoveModel", name := "canGo", desc := "(I)Z" } : Jvm.MethodName)) ∈ zTT := zTT_in (List.mem_of_getElem? (i := 1663) (by decide +kernel)) rfl
theorem zk_1665 : (Jvm.Cond.instanceMethod ({ cls := "SeenToMoveModel", name := "canGo", desc := "(I)Z" } : Jvm.MethodName)) ∈ zTT := zTT_in (List.mem_of_getElem? (i := 1665) (by decide +kernel)) rfl
theorem zk_1666 : (Jvm.Cond.code ({ cls := "SeenToMoveModel", name := "canGo", desc := "(I)Z" } : Jvm.MethodName) prog_14_method_48_code (3 : Nat) (Option.some Jvm.ClassFile.FieldType.boolean)) ∈ zTT := zTT_in (List.mem_of_getElem? (i := 1666) (by decide +kernel)) rfl
theorem zk_1667 : (Jvm.Cond.methodLink "SeenToMoveModel" (286 : Nat) ({ cls := "SeenToMoveModel", name := "lookerAt", desc := "(I)I" } : Jvm.MethodName)) ∈ zTT := zTT_in (List.mem_of_getElem? (i := 1667) (by decide +kernel)) rfl
theorem zk_1669 : (Jvm.Cond.instanceMethod ({ cls := "SeenToMoveModel", name := "lookerAt", desc := "(I)I" } : Jvm.MethodName)) ∈ zTT := zTT_in (List.mem_of_getElem? (i := 1669) (by decide +kernel)) rfl
theorem zk_1670 : (Jvm.Cond.code ({ cls := "SeenToMoveModel", name := "lookerAt", desc := "(I)I" } : Jvm.MethodName) prog_14_method_46_code (3 : Nat) (Option.some Jvm.ClassFile.FieldType.int)) ∈ zTT := zTT_in (List.mem_of_getElem? (i := 1670) (by decide +kernel)) rfl
theorem zk_1672 : (Jvm.Cond.instanceMethod ({ cls := "SeenToMoveModel", name := "looker", desc := "(II)I" } : Jvm.MethodName)) ∈ zTT := zTT_in (List.mem_of_getElem? (i := 1672) (by decide +kernel)) rfl
theorem zk_1673 : (Jvm.Cond.selects "SeenToMoveModel" ({ cls := "SeenToMoveModel", name := "looker", desc := "(II)I" } : Jvm.MethodName) ({ cls := "SeenToMoveModel", name := "looker", desc := "(II)I" } : Jvm.MethodName)) ∈ zTT := zTT_in (List.mem_of_getElem? (i := 1673) (by decide +kernel)) rfl
theorem zk_1674 : (Jvm.Cond.code ({ cls := "SeenToMoveModel", name := "looker", desc := "(II)I" } : Jvm.MethodName) prog_14_method_57_code (3 : Nat) (Option.some Jvm.ClassFile.FieldType.int)) ∈ zTT := zTT_in (List.mem_of_getElem? (i := 1674) (by decide +kernel)) rfl
theorem zk_1675 : (Jvm.Cond.methodLink "SeenToMoveModel" (317 : Nat) ({ cls := "SeenToMoveModel", name := "isLooker", desc := "(I)Z" } : Jvm.MethodName)) ∈ zTT := zTT_in (List.mem_of_getElem? (i := 1675) (by decide +kernel)) rfl
theorem zk_1677 : (Jvm.Cond.instanceMethod ({ cls := "SeenToMoveModel", name := "isLooker", desc := "(I)Z" } : Jvm.MethodName)) ∈ zTT := zTT_in (List.mem_of_getElem? (i := 1677) (by decide +kernel)) rfl
theorem zk_1678 : (Jvm.Cond.code ({ cls := "SeenToMoveModel", name := "isLooker", desc := "(I)Z" } : Jvm.MethodName) prog_14_method_43_code (2 : Nat) (Option.some Jvm.ClassFile.FieldType.boolean)) ∈ zTT := zTT_in (List.mem_of_getElem? (i := 1678) (by decide +kernel)) rfl
theorem zk_1680 : (Jvm.Cond.instanceMethod ({ cls := "SeenToMoveModel", name := "cell", desc := "(III)I" } : Jvm.MethodName)) ∈ zTT := zTT_in (List.mem_of_getElem? (i := 1680) (by decide +kernel)) rfl
theorem zk_1681 : (Jvm.Cond.selects "SeenToMoveModel" ({ cls := "SeenToMoveModel", name := "cell", desc := "(III)I" } : Jvm.MethodName) ({ cls := "SeenToMoveModel", name := "cell", desc := "(III)I" } : Jvm.MethodName)) ∈ zTT := zTT_in (List.mem_of_getElem? (i := 1681) (by decide +kernel)) rfl
theorem zk_1682 : (Jvm.Cond.code ({ cls := "SeenToMoveModel", name := "cell", desc := "(III)I" } : Jvm.MethodName) prog_14_method_58_code (5 : Nat) (Option.some Jvm.ClassFile.FieldType.int)) ∈ zTT := zTT_in (List.mem_of_getElem? (i := 1682) (by decide +kernel)) rfl
theorem zk_1684 : (Jvm.Cond.instanceMethod ({ cls := "SeenToMoveModel", name := "now", desc := "(I)I" } : Jvm.MethodName)) ∈ zTT := zTT_in (List.mem_of_getElem? (i := 1684) (by decide +kernel)) rfl
theorem zk_1685 : (Jvm.Cond.selects "SeenToMoveModel" ({ cls := "SeenToMoveModel", name := "now", desc := "(I)I" } : Jvm.MethodName) ({ cls := "SeenToMoveModel", name := "now", desc := "(I)I" } : Jvm.MethodName)) ∈ zTT := zTT_in (List.mem_of_getElem? (i := 1685) (by decide +kernel)) rfl
theorem zk_1686 : (Jvm.Cond.code ({ cls := "SeenToMoveModel", name := "now", desc := "(I)I" } : Jvm.MethodName) prog_14_method_59_code (6 : Nat) (Option.some Jvm.ClassFile.FieldType.int)) ∈ zTT := zTT_in (List.mem_of_getElem? (i := 1686) (by decide +kernel)) rfl
theorem zk_1687 : (Jvm.Cond.methodLink "SeenToMoveModel" (320 : Nat) ({ cls := "SeenToMoveModel", name := "wentInAll", desc := "()I" } : Jvm.MethodName)) ∈ zTT := zTT_in (List.mem_of_getElem? (i := 1687) (by decide +kernel)) rfl
theorem zk_1689 : (Jvm.Cond.instanceMethod ({ cls := "SeenToMoveModel", name := "wentInAll", desc := "()I" } : Jvm.MethodName)) ∈ zTT := zTT_in (List.mem_of_getElem? (i := 1689) (by decide +kernel)) rfl
theorem zk_1690 : (Jvm.Cond.code ({ cls := "SeenToMoveModel", name := "wentInAll", desc := "()I" } : Jvm.MethodName) prog_14_method_54_code (3 : Nat) (Option.some Jvm.ClassFile.FieldType.int)) ∈ zTT := zTT_in (List.mem_of_getElem? (i := 1690) (by decide +kernel)) rfl
theorem zk_1692 : (Jvm.Cond.instanceMethod ({ cls := "SeenToMoveModel", name := "land", desc := "(I)I" } : Jvm.MethodName)) ∈ zTT := zTT_in (List.mem_of_getElem? (i := 1692) (by decide +kernel)) rfl
theorem zk_1693 : (Jvm.Cond.selects "SeenToMoveModel" ({ cls := "SeenToMoveModel", name := "land", desc := "(I)I" } : Jvm.MethodName) ({ cls := "SeenToMoveModel", name := "land", desc := "(I)I" } : Jvm.MethodName)) ∈ zTT := zTT_in (List.mem_of_getElem? (i := 1693) (by decide +kernel)) rfl
theorem zk_1694 : (Jvm.Cond.code ({ cls := "SeenToMoveModel", name := "land", desc := "(I)I" } : Jvm.MethodName) prog_14_method_60_code (2 : Nat) (Option.some Jvm.ClassFile.FieldType.int)) ∈ zTT := zTT_in (List.mem_of_getElem? (i := 1694) (by decide +kernel)) rfl
theorem zk_1695 : (Jvm.Cond.methodLink "SeenToMoveModel" (323 : Nat) ({ cls := "SeenToMoveModel", name := "landOf", desc := "(I)I" } : Jvm.MethodName)) ∈ zTT := zTT_in (List.mem_of_getElem? (i := 1695) (by decide +kernel)) rfl
theorem zk_1697 : (Jvm.Cond.instanceMethod ({ cls := "SeenToMoveModel", name := "landOf", desc := "(I)I" } : Jvm.MethodName)) ∈ zTT := zTT_in (List.mem_of_getElem? (i := 1697) (by decide +kernel)) rfl
theorem zk_1698 : (Jvm.Cond.code ({ cls := "SeenToMoveModel", name := "landOf", desc := "(I)I" } : Jvm.MethodName) prog_14_method_55_code (4 : Nat) (Option.some Jvm.ClassFile.FieldType.int)) ∈ zTT := zTT_in (List.mem_of_getElem? (i := 1698) (by decide +kernel)) rfl
theorem zk_1700 : (Jvm.Cond.instanceMethod ({ cls := "SeenToMoveModel", name := "turn", desc := "(II)I" } : Jvm.MethodName)) ∈ zTT := zTT_in (List.mem_of_getElem? (i := 1700) (by decide +kernel)) rfl
theorem zk_1701 : (Jvm.Cond.selects "SeenToMoveModel" ({ cls := "SeenToMoveModel", name := "turn", desc := "(II)I" } : Jvm.MethodName) ({ cls := "SeenToMoveModel", name := "turn", desc := "(II)I" } : Jvm.MethodName)) ∈ zTT := zTT_in (List.mem_of_getElem? (i := 1701) (by decide +kernel)) rfl
theorem zk_1702 : (Jvm.Cond.code ({ cls := "SeenToMoveModel", name := "turn", desc := "(II)I" } : Jvm.MethodName) prog_14_method_66_code (3 : Nat) (Option.some Jvm.ClassFile.FieldType.int)) ∈ zTT := zTT_in (List.mem_of_getElem? (i := 1702) (by decide +kernel)) rfl
theorem zk_1703 : (Jvm.Cond.methodLink "SeenToMoveModel" (332 : Nat) ({ cls := "SeenToMoveModel", name := "keep", desc := "()V" } : Jvm.MethodName)) ∈ zTT := zTT_in (List.mem_of_getElem? (i := 1703) (by decide +kernel)) rfl
theorem zk_1705 : (Jvm.Cond.instanceMethod ({ cls := "SeenToMoveModel", name := "keep", desc := "()V" } : Jvm.MethodName)) ∈ zTT := zTT_in (List.mem_of_getElem? (i := 1705) (by decide +kernel)) rfl
theorem zk_1706 : (Jvm.Cond.code ({ cls := "SeenToMoveModel", name := "keep", desc := "()V" } : Jvm.MethodName) prog_14_method_73_code (2 : Nat) (Option.none : Option Jvm.ClassFile.FieldType)) ∈ zTT := zTT_in (List.mem_of_getElem? (i := 1706) (by decide +kernel)) rfl
theorem zk_1708 : (Jvm.Cond.instanceMethod ({ cls := "SeenToMoveModel", name := "walk", desc := "(II)I" } : Jvm.MethodName)) ∈ zTT := zTT_in (List.mem_of_getElem? (i := 1708) (by decide +kernel)) rfl
theorem zk_1709 : (Jvm.Cond.selects "SeenToMoveModel" ({ cls := "SeenToMoveModel", name := "walk", desc := "(II)I" } : Jvm.MethodName) ({ cls := "SeenToMoveModel", name := "walk", desc := "(II)I" } : Jvm.MethodName)) ∈ zTT := zTT_in (List.mem_of_getElem? (i := 1709) (by decide +kernel)) rfl
theorem zk_1710 : (Jvm.Cond.code ({ cls := "SeenToMoveModel", name := "walk", desc := "(II)I" } : Jvm.MethodName) prog_14_method_67_code (4 : Nat) (Option.some Jvm.ClassFile.FieldType.int)) ∈ zTT := zTT_in (List.mem_of_getElem? (i := 1710) (by decide +kernel)) rfl
theorem zk_1711 : (Jvm.Cond.methodLink "SeenToMoveModel" (335 : Nat) ({ cls := "SeenToMoveModel", name := "whyWalk", desc := "(II)I" } : Jvm.MethodName)) ∈ zTT := zTT_in (List.mem_of_getElem? (i := 1711) (by decide +kernel)) rfl
theorem zk_1713 : (Jvm.Cond.instanceMethod ({ cls := "SeenToMoveModel", name := "whyWalk", desc := "(II)I" } : Jvm.MethodName)) ∈ zTT := zTT_in (List.mem_of_getElem? (i := 1713) (by decide +kernel)) rfl
theorem zk_1714 : (Jvm.Cond.code ({ cls := "SeenToMoveModel", name := "whyWalk", desc := "(II)I" } : Jvm.MethodName) prog_14_method_61_code (4 : Nat) (Option.some Jvm.ClassFile.FieldType.int)) ∈ zTT := zTT_in (List.mem_of_getElem? (i := 1714) (by decide +kernel)) rfl
theorem zk_1716 : (Jvm.Cond.instanceMethod ({ cls := "SeenToMoveModel", name := "shut", desc := "(I)I" } : Jvm.MethodName)) ∈ zTT := zTT_in (List.mem_of_getElem? (i := 1716) (by decide +kernel)) rfl
theorem zk_1717 : (Jvm.Cond.selects "SeenToMoveModel" ({ cls := "SeenToMoveModel", name := "shut", desc := "(I)I" } : Jvm.MethodName) ({ cls := "SeenToMoveModel", name := "shut", desc := "(I)I" } : Jvm.MethodName)) ∈ zTT := zTT_in (List.mem_of_getElem? (i := 1717) (by decide +kernel)) rfl
theorem zk_1718 : (Jvm.Cond.code ({ cls := "SeenToMoveModel", name := "shut", desc := "(I)I" } : Jvm.MethodName) prog_14_method_69_code (2 : Nat) (Option.some Jvm.ClassFile.FieldType.int)) ∈ zTT := zTT_in (List.mem_of_getElem? (i := 1718) (by decide +kernel)) rfl
theorem zk_1719 : (Jvm.Cond.methodLink "SeenToMoveModel" (338 : Nat) ({ cls := "SeenToMoveModel", name := "blinks", desc := "(IZ)I" } : Jvm.MethodName)) ∈ zTT := zTT_in (List.mem_of_getElem? (i := 1719) (by decide +kernel)) rfl
theorem zk_1721 : (Jvm.Cond.instanceMethod ({ cls := "SeenToMoveModel", name := "blinks", desc := "(IZ)I" } : Jvm.MethodName)) ∈ zTT := zTT_in (List.mem_of_getElem? (i := 1721) (by decide +kernel)) rfl
theorem zk_1722 : (Jvm.Cond.code ({ cls := "SeenToMoveModel", name := "blinks", desc := "(IZ)I" } : Jvm.MethodName) prog_14_method_68_code (3 : Nat) (Option.some Jvm.ClassFile.FieldType.int)) ∈ zTT := zTT_in (List.mem_of_getElem? (i := 1722) (by decide +kernel)) rfl
theorem zk_1724 : (Jvm.Cond.instanceMethod ({ cls := "SeenToMoveModel", name := "open", desc := "(I)I" } : Jvm.MethodName)) ∈ zTT := zTT_in (List.mem_of_getElem? (i := 1724) (by decide +kernel)) rfl
theorem zk_1725 : (Jvm.Cond.selects "SeenToMoveModel" ({ cls := "SeenToMoveModel", name := "open", desc := "(I)I" } : Jvm.MethodName) ({ cls := "SeenToMoveModel", name := "open", desc := "(I)I" } : Jvm.MethodName)) ∈ zTT := zTT_in (List.mem_of_getElem? (i := 1725) (by decide +kernel)) rfl
theorem zk_1726 : (Jvm.Cond.code ({ cls := "SeenToMoveModel", name := "open", desc := "(I)I" } : Jvm.MethodName) prog_14_method_70_code (2 : Nat) (Option.some Jvm.ClassFile.FieldType.int)) ∈ zTT := zTT_in (List.mem_of_getElem? (i := 1726) (by decide +kernel)) rfl
theorem zk_1728 : (Jvm.Cond.instanceMethod ({ cls := "SeenToMoveModel", name := "face", desc := "(II)I" } : Jvm.MethodName)) ∈ zTT := zTT_in (List.mem_of_getElem? (i := 1728) (by decide +kernel)) rfl
theorem zk_1729 : (Jvm.Cond.selects "SeenToMoveModel" ({ cls := "SeenToMoveModel", name := "face", desc := "(II)I" } : Jvm.MethodName) ({ cls := "SeenToMoveModel", name := "face", desc := "(II)I" } : Jvm.MethodName)) ∈ zTT := zTT_in (List.mem_of_getElem? (i := 1729) (by decide +kernel)) rfl
theorem zk_1730 : (Jvm.Cond.code ({ cls := "SeenToMoveModel", name := "face", desc := "(II)I" } : Jvm.MethodName) prog_14_method_71_code (4 : Nat) (Option.some Jvm.ClassFile.FieldType.int)) ∈ zTT := zTT_in (List.mem_of_getElem? (i := 1730) (by decide +kernel)) rfl
theorem zk_1731 : (Jvm.Cond.methodLink "SeenToMoveModel" (342 : Nat) ({ cls := "SeenToMoveModel", name := "whyFace", desc := "(II)I" } : Jvm.MethodName)) ∈ zTT := zTT_in (List.mem_of_getElem? (i := 1731) (by decide +kernel)) rfl
theorem zk_1733 : (Jvm.Cond.instanceMethod ({ cls := "SeenToMoveModel", name := "whyFace", desc := "(II)I" } : Jvm.MethodName)) ∈ zTT := zTT_in (List.mem_of_getElem? (i := 1733) (by decide +kernel)) rfl
theorem zk_1734 : (Jvm.Cond.code ({ cls := "SeenToMoveModel", name := "whyFace", desc := "(II)I" } : Jvm.MethodName) prog_14_method_62_code (3 : Nat) (Option.some Jvm.ClassFile.FieldType.int)) ∈ zTT := zTT_in (List.mem_of_getElem? (i := 1734) (by decide +kernel)) rfl
theorem zk_1736 : (Jvm.Cond.instanceMethod ({ cls := "SeenToMoveModel", name := "hours", desc := "(I)I" } : Jvm.MethodName)) ∈ zTT := zTT_in (List.mem_of_getElem? (i := 1736) (by decide +kernel)) rfl
theorem zk_1737 : (Jvm.Cond.selects "SeenToMoveModel" ({ cls := "SeenToMoveModel", name := "hours", desc := "(I)I" } : Jvm.MethodName) ({ cls := "SeenToMoveModel", name := "hours", desc := "(I)I" } : Jvm.MethodName)) ∈ zTT := zTT_in (List.mem_of_getElem? (i := 1737) (by decide +kernel)) rfl
theorem zk_1738 : (Jvm.Cond.code ({ cls := "SeenToMoveModel", name := "hours", desc := "(I)I" } : Jvm.MethodName) prog_14_method_72_code (2 : Nat) (Option.some Jvm.ClassFile.FieldType.int)) ∈ zTT := zTT_in (List.mem_of_getElem? (i := 1738) (by decide +kernel)) rfl
theorem zk_1739 : (Jvm.Cond.methodLink "SeenToMoveModel" (345 : Nat) ({ cls := "SeenToMoveModel", name := "goesOn", desc := "(I)I" } : Jvm.MethodName)) ∈ zTT := zTT_in (List.mem_of_getElem? (i := 1739) (by decide +kernel)) rfl
theorem zk_1741 : (Jvm.Cond.instanceMethod ({ cls := "SeenToMoveModel", name := "goesOn", desc := "(I)I" } : Jvm.MethodName)) ∈ zTT := zTT_in (List.mem_of_getElem? (i := 1741) (by decide +kernel)) rfl
theorem zk_1742 : (Jvm.Cond.code ({ cls := "SeenToMoveModel", name := "goesOn", desc := "(I)I" } : Jvm.MethodName) prog_14_method_65_code (3 : Nat) (Option.some Jvm.ClassFile.FieldType.int)) ∈ zTT := zTT_in (List.mem_of_getElem? (i := 1742) (by decide +kernel)) rfl
theorem zk_1743 : (Jvm.Cond.methodLink "SeenToMoveModel" (329 : Nat) ({ cls := "SeenToMoveModel", name := "hour", desc := "()V" } : Jvm.MethodName)) ∈ zTT := zTT_in (List.mem_of_getElem? (i := 1743) (by decide +kernel)) rfl
theorem zk_1745 : (Jvm.Cond.instanceMethod ({ cls := "SeenToMoveModel", name := "hour", desc := "()V" } : Jvm.MethodName)) ∈ zTT := zTT_in (List.mem_of_getElem? (i := 1745) (by decide +kernel)) rfl
theorem zk_1746 : (Jvm.Cond.code ({ cls := "SeenToMoveModel", name := "hour", desc := "()V" } : Jvm.MethodName) prog_14_method_64_code (2 : Nat) (Option.none : Option Jvm.ClassFile.FieldType)) ∈ zTT := zTT_in (List.mem_of_getElem? (i := 1746) (by decide +kernel)) rfl
theorem zk_1747 : (Jvm.Cond.methodLink "SeenToMoveModel" (326 : Nat) ({ cls := "SeenToMoveModel", name := "goes", desc := "(I)V" } : Jvm.MethodName)) ∈ zTT := zTT_in (List.mem_of_getElem? (i := 1747) (by decide +kernel)) rfl
theorem zk_1749 : (Jvm.Cond.instanceMethod ({ cls := "SeenToMoveModel", name := "goes", desc := "(I)V" } : Jvm.MethodName)) ∈ zTT := zTT_in (List.mem_of_getElem? (i := 1749) (by decide +kernel)) rfl
theorem zk_1750 : (Jvm.Cond.code ({ cls := "SeenToMoveModel", name := "goes", desc := "(I)V" } : Jvm.MethodName) prog_14_method_63_code (2 : Nat) (Option.none : Option Jvm.ClassFile.FieldType)) ∈ zTT := zTT_in (List.mem_of_getElem? (i := 1750) (by decide +kernel)) rfl
theorem zk_1752 : (Jvm.Cond.instanceMethod ({ cls := "SeenToMoveModel", name := "undo", desc := "()I" } : Jvm.MethodName)) ∈ zTT := zTT_in (List.mem_of_getElem? (i := 1752) (by decide +kernel)) rfl
theorem zk_1753 : (Jvm.Cond.selects "SeenToMoveModel" ({ cls := "SeenToMoveModel", name := "undo", desc := "()I" } : Jvm.MethodName) ({ cls := "SeenToMoveModel", name := "undo", desc := "()I" } : Jvm.MethodName)) ∈ zTT := zTT_in (List.mem_of_getElem? (i := 1753) (by decide +kernel)) rfl
theorem zk_1754 : (Jvm.Cond.code ({ cls := "SeenToMoveModel", name := "undo", desc := "()I" } : Jvm.MethodName) prog_14_method_74_code (2 : Nat) (Option.some Jvm.ClassFile.FieldType.int)) ∈ zTT := zTT_in (List.mem_of_getElem? (i := 1754) (by decide +kernel)) rfl
theorem zk_1756 : (Jvm.Cond.instanceMethod ({ cls := "SeenToMoveModel", name := "where", desc := "(II)I" } : Jvm.MethodName)) ∈ zTT := zTT_in (List.mem_of_getElem? (i := 1756) (by decide +kernel)) rfl
theorem zk_1757 : (Jvm.Cond.selects "SeenToMoveModel" ({ cls := "SeenToMoveModel", name := "where", desc := "(II)I" } : Jvm.MethodName) ({ cls := "SeenToMoveModel", name := "where", desc := "(II)I" } : Jvm.MethodName)) ∈ zTT := zTT_in (List.mem_of_getElem? (i := 1757) (by decide +kernel)) rfl
theorem zk_1758 : (Jvm.Cond.code ({ cls := "SeenToMoveModel", name := "where", desc := "(II)I" } : Jvm.MethodName) prog_14_method_77_code (4 : Nat) (Option.some Jvm.ClassFile.FieldType.int)) ∈ zTT := zTT_in (List.mem_of_getElem? (i := 1758) (by decide +kernel)) rfl
theorem zk_1759 : (Jvm.Cond.methodLink "SeenToMoveModel" (348 : Nat) ({ cls := "SeenToMoveModel", name := "tries", desc := "()V" } : Jvm.MethodName)) ∈ zTT := zTT_in (List.mem_of_getElem? (i := 1759) (by decide +kernel)) rfl
theorem zk_1761 : (Jvm.Cond.instanceMethod ({ cls := "SeenToMoveModel", name := "tries", desc := "()V" } : Jvm.MethodName)) ∈ zTT := zTT_in (List.mem_of_getElem? (i := 1761) (by decide +kernel)) rfl
theorem zk_1762 : (Jvm.Cond.code ({ cls := "SeenToMoveModel", name := "tries", desc := "()V" } : Jvm.MethodName) prog_14_method_75_code (2 : Nat) (Option.none : Option Jvm.ClassFile.FieldType)) ∈ zTT := zTT_in (List.mem_of_getElem? (i := 1762) (by decide +kernel)) rfl
theorem zk_1763 : (Jvm.Cond.methodLink "SeenToMoveModel" (351 : Nat) ({ cls := "SeenToMoveModel", name := "back", desc := "()V" } : Jvm.MethodName)) ∈ zTT := zTT_in (List.mem_of_getElem? (i := 1763) (by decide +kernel)) rfl
theorem zk_1765 : (Jvm.Cond.instanceMethod ({ cls := "SeenToMoveModel", name := "back", desc := "()V" } : Jvm.MethodName)) ∈ zTT := zTT_in (List.mem_of_getElem? (i := 1765) (by decide +kernel)) rfl
theorem zk_1766 : (Jvm.Cond.code ({ cls := "SeenToMoveModel", name := "back", desc := "()V" } : Jvm.MethodName) prog_14_method_76_code (2 : Nat) (Option.none : Option Jvm.ClassFile.FieldType)) ∈ zTT := zTT_in (List.mem_of_getElem? (i := 1766) (by decide +kernel)) rfl
theorem zk_1768 : (Jvm.Cond.instanceMethod ({ cls := "SeenToMoveModel", name := "comes", desc := "(III)I" } : Jvm.MethodName)) ∈ zTT := zTT_in (List.mem_of_getElem? (i := 1768) (by decide +kernel)) rfl
theorem zk_1769 : (Jvm.Cond.selects "SeenToMoveModel" ({ cls := "SeenToMoveModel", name := "comes", desc := "(III)I" } : Jvm.MethodName) ({ cls := "SeenToMoveModel", name := "comes", desc := "(III)I" } : Jvm.MethodName)) ∈ zTT := zTT_in (List.mem_of_getElem? (i := 1769) (by decide +kernel)) rfl
theorem zk_1770 : (Jvm.Cond.code ({ cls := "SeenToMoveModel", name := "comes", desc := "(III)I" } : Jvm.MethodName) prog_14_method_79_code (4 : Nat) (Option.some Jvm.ClassFile.FieldType.int)) ∈ zTT := zTT_in (List.mem_of_getElem? (i := 1770) (by decide +kernel)) rfl
theorem zk_1771 : (Jvm.Cond.methodLink "SeenToMoveModel" (354 : Nat) ({ cls := "SeenToMoveModel", name := "comesIn", desc := "(IIII)I" } : Jvm.MethodName)) ∈ zTT := zTT_in (List.mem_of_getElem? (i := 1771) (by decide +kernel)) rfl
theorem zk_1773 : (Jvm.Cond.instanceMethod ({ cls := "SeenToMoveModel", name := "comesIn", desc := "(IIII)I" } : Jvm.MethodName)) ∈ zTT := zTT_in (List.mem_of_getElem? (i := 1773) (by decide +kernel)) rfl
theorem zk_1774 : (Jvm.Cond.code ({ cls := "SeenToMoveModel", name := "comesIn", desc := "(IIII)I" } : Jvm.MethodName) prog_14_method_78_code (7 : Nat) (Option.some Jvm.ClassFile.FieldType.int)) ∈ zTT := zTT_in (List.mem_of_getElem? (i := 1774) (by decide +kernel)) rfl
theorem zk_1776 : (Jvm.Cond.instanceMethod ({ cls := "SeenToMoveModel", name := "blind", desc := "(IIII)I" } : Jvm.MethodName)) ∈ zTT := zTT_in (List.mem_of_getElem? (i := 1776) (by decide +kernel)) rfl
theorem zk_1777 : (Jvm.Cond.selects "SeenToMoveModel" ({ cls := "SeenToMoveModel", name := "blind", desc := "(IIII)I" } : Jvm.MethodName) ({ cls := "SeenToMoveModel", name := "blind", desc := "(IIII)I" } : Jvm.MethodName)) ∈ zTT := zTT_in (List.mem_of_getElem? (i := 1777) (by decide +kernel)) rfl
theorem zk_1778 : (Jvm.Cond.code ({ cls := "SeenToMoveModel", name := "blind", desc := "(IIII)I" } : Jvm.MethodName) prog_14_method_80_code (7 : Nat) (Option.some Jvm.ClassFile.FieldType.int)) ∈ zTT := zTT_in (List.mem_of_getElem? (i := 1778) (by decide +kernel)) rfl
theorem zk_1779 : (Jvm.Cond.methodLink "SeenToMoveModel" (358 : Nat) ({ cls := "SeenToMoveModel", name := "bits", desc := "(I)I" } : Jvm.MethodName)) ∈ zTT := zTT_in (List.mem_of_getElem? (i := 1779) (by decide +kernel)) rfl
theorem zk_1780 : (Jvm.Cond.static ({ cls := "SeenToMoveModel", name := "bits", desc := "(I)I" } : Jvm.MethodName)) ∈ zTT := zTT_in (List.mem_of_getElem? (i := 1780) (by decide +kernel)) rfl
theorem zk_1781 : (Jvm.Cond.code ({ cls := "SeenToMoveModel", name := "bits", desc := "(I)I" } : Jvm.MethodName) prog_14_method_10_code (3 : Nat) (Option.some Jvm.ClassFile.FieldType.int)) ∈ zTT := zTT_in (List.mem_of_getElem? (i := 1781) (by decide +kernel)) rfl
theorem zk_1783 : (Jvm.Cond.instanceMethod ({ cls := "SeenToMoveModel", name := "blinded", desc := "()I" } : Jvm.MethodName)) ∈ zTT := zTT_in (List.mem_of_getElem? (i := 1783) (by decide +kernel)) rfl
theorem zk_1784 : (Jvm.Cond.selects "SeenToMoveModel" ({ cls := "SeenToMoveModel", name := "blinded", desc := "()I" } : Jvm.MethodName) ({ cls := "SeenToMoveModel", name := "blinded", desc := "()I" } : Jvm.MethodName)) ∈ zTT := zTT_in (List.mem_of_getElem? (i := 1784) (by decide +kernel)) rfl
theorem zk_1785 : (Jvm.Cond.code ({ cls := "SeenToMoveModel", name := "blinded", desc := "()I" } : Jvm.MethodName) prog_14_method_81_code (1 : Nat) (Option.some Jvm.ClassFile.FieldType.int)) ∈ zTT := zTT_in (List.mem_of_getElem? (i := 1785) (by decide +kernel)) rfl
theorem zk_1787 : (Jvm.Cond.instanceMethod ({ cls := "SeenToMoveModel", name := "cover", desc := "()I" } : Jvm.MethodName)) ∈ zTT := zTT_in (List.mem_of_getElem? (i := 1787) (by decide +kernel)) rfl
theorem zk_1788 : (Jvm.Cond.selects "SeenToMoveModel" ({ cls := "SeenToMoveModel", name := "cover", desc := "()I" } : Jvm.MethodName) ({ cls := "SeenToMoveModel", name := "cover", desc := "()I" } : Jvm.MethodName)) ∈ zTT := zTT_in (List.mem_of_getElem? (i := 1788) (by decide +kernel)) rfl
theorem zk_1789 : (Jvm.Cond.code ({ cls := "SeenToMoveModel", name := "cover", desc := "()I" } : Jvm.MethodName) prog_14_method_84_code (6 : Nat) (Option.some Jvm.ClassFile.FieldType.int)) ∈ zTT := zTT_in (List.mem_of_getElem? (i := 1789) (by decide +kernel)) rfl
theorem zk_1790 : (Jvm.Cond.methodLink "SeenToMoveModel" (370 : Nat) ({ cls := "SeenToMoveModel", name := "coveredBy", desc := "(II)I" } : Jvm.MethodName)) ∈ zTT := zTT_in (List.mem_of_getElem? (i := 1790) (by decide +kernel)) rfl
theorem zk_1792 : (Jvm.Cond.instanceMethod ({ cls := "SeenToMoveModel", name := "coveredBy", desc := "(II)I" } : Jvm.MethodName)) ∈ zTT := zTT_in (List.mem_of_getElem? (i := 1792) (by decide +kernel)) rfl
theorem zk_1793 : (Jvm.Cond.code ({ cls := "SeenToMoveModel", name := "coveredBy", desc := "(II)I" } : Jvm.MethodName) prog_14_method_83_code (5 : Nat) (Option.some Jvm.ClassFile.FieldType.int)) ∈ zTT := zTT_in (List.mem_of_getElem? (i := 1793) (by decide +kernel)) rfl
theorem zk_1794 : (Jvm.Cond.methodLink "SeenToMoveModel" (367 : Nat) ({ cls := "SeenToMoveModel", name := "sideIn", desc := "(II)I" } : Jvm.MethodName)) ∈ zTT := zTT_in (List.mem_of_getElem? (i := 1794) (by decide +kernel)) rfl
theorem zk_1795 : (Jvm.Cond.static ({ cls := "SeenToMoveModel", name := "sideIn", desc := "(II)I" } : Jvm.MethodName)) ∈ zTT := zTT_in (List.mem_of_getElem? (i := 1795) (by decide +kernel)) rfl
theorem zk_1796 : (Jvm.Cond.code ({ cls := "SeenToMoveModel", name := "sideIn", desc := "(II)I" } : Jvm.MethodName) prog_14_method_82_code (2 : Nat) (Option.some Jvm.ClassFile.FieldType.int)) ∈ zTT := zTT_in (List.mem_of_getElem? (i := 1796) (by decide +kernel)) rfl
theorem zk_1798 : (Jvm.Cond.instanceMethod ({ cls := "SeenToMoveModel", name := "coverBy", desc := "(I)I" } : Jvm.MethodName)) ∈ zTT := zTT_in (List.mem_of_getElem? (i := 1798) (by decide +kernel)) rfl
theorem zk_1799 : (Jvm.Cond.selects "SeenToMoveModel" ({ cls := "SeenToMoveModel", name := "coverBy", desc := "(I)I" } : Jvm.MethodName) ({ cls := "SeenToMoveModel", name := "coverBy", desc := "(I)I" } : Jvm.MethodName)) ∈ zTT := zTT_in (List.mem_of_getElem? (i := 1799) (by decide +kernel)) rfl
theorem zk_1800 : (Jvm.Cond.code ({ cls := "SeenToMoveModel", name := "coverBy", desc := "(I)I" } : Jvm.MethodName) prog_14_method_85_code (2 : Nat) (Option.some Jvm.ClassFile.FieldType.int)) ∈ zTT := zTT_in (List.mem_of_getElem? (i := 1800) (by decide +kernel)) rfl
theorem zk_1802 : (Jvm.Cond.instanceMethod ({ cls := "SeenToMoveModel", name := "few", desc := "()I" } : Jvm.MethodName)) ∈ zTT := zTT_in (List.mem_of_getElem? (i := 1802) (by decide +kernel)) rfl
theorem zk_1803 : (Jvm.Cond.selects "SeenToMoveModel" ({ cls := "SeenToMoveModel", name := "few", desc := "()I" } : Jvm.MethodName) ({ cls := "SeenToMoveModel", name := "few", desc := "()I" } : Jvm.MethodName)) ∈ zTT := zTT_in (List.mem_of_getElem? (i := 1803) (by decide +kernel)) rfl
theorem zk_1804 : (Jvm.Cond.code ({ cls := "SeenToMoveModel", name := "few", desc := "()I" } : Jvm.MethodName) prog_14_method_87_code (3 : Nat) (Option.some Jvm.ClassFile.FieldType.int)) ∈ zTT := zTT_in (List.mem_of_getElem? (i := 1804) (by decide +kernel)) rfl
theorem zk_1805 : (Jvm.Cond.methodLink "SeenToMoveModel" (373 : Nat) ({ cls := "SeenToMoveModel", name := "isEnough", desc := "(I)Z" } : Jvm.MethodName)) ∈ zTT := zTT_in (List.mem_of_getElem? (i := 1805) (by decide +kernel)) rfl
theorem zk_1807 : (Jvm.Cond.instanceMethod ({ cls := "SeenToMoveModel", name := "isEnough", desc := "(I)Z" } : Jvm.MethodName)) ∈ zTT := zTT_in (List.mem_of_getElem? (i := 1807) (by decide +kernel)) rfl
theorem zk_1808 : (Jvm.Cond.code ({ cls := "SeenToMoveModel", name := "isEnough", desc := "(I)Z" } : Jvm.MethodName) prog_14_method_86_code (3 : Nat) (Option.some Jvm.ClassFile.FieldType.boolean)) ∈ zTT := zTT_in (List.mem_of_getElem? (i := 1808) (by decide +kernel)) rfl
theorem zk_1810 : (Jvm.Cond.instanceMethod ({ cls := "SeenToMoveModel", name := "fewest", desc := "()I" } : Jvm.MethodName)) ∈ zTT := zTT_in (List.mem_of_getElem? (i := 1810) (by decide +kernel)) rfl
theorem zk_1811 : (Jvm.Cond.selects "SeenToMoveModel" ({ cls := "SeenToMoveModel", name := "fewest", desc := "()I" } : Jvm.MethodName) ({ cls := "SeenToMoveModel", name := "fewest", desc := "()I" } : Jvm.MethodName)) ∈ zTT := zTT_in (List.mem_of_getElem? (i := 1811) (by decide +kernel)) rfl
theorem zk_1812 : (Jvm.Cond.code ({ cls := "SeenToMoveModel", name := "fewest", desc := "()I" } : Jvm.MethodName) prog_14_method_88_code (1 : Nat) (Option.some Jvm.ClassFile.FieldType.int)) ∈ zTT := zTT_in (List.mem_of_getElem? (i := 1812) (by decide +kernel)) rfl
theorem zk_1814 : (Jvm.Cond.instanceMethod ({ cls := "SeenToMoveModel", name := "fits", desc := "()I" } : Jvm.MethodName)) ∈ zTT := zTT_in (List.mem_of_getElem? (i := 1814) (by decide +kernel)) rfl
theorem zk_1815 : (Jvm.Cond.selects "SeenToMoveModel" ({ cls := "SeenToMoveModel", name := "fits", desc := "()I" } : Jvm.MethodName) ({ cls := "SeenToMoveModel", name := "fits", desc := "()I" } : Jvm.MethodName)) ∈ zTT := zTT_in (List.mem_of_getElem? (i := 1815) (by decide +kernel)) rfl
theorem zk_1816 : (Jvm.Cond.code ({ cls := "SeenToMoveModel", name := "fits", desc := "()I" } : Jvm.MethodName) prog_14_method_93_code (3 : Nat) (Option.some Jvm.ClassFile.FieldType.int)) ∈ zTT := zTT_in (List.mem_of_getElem? (i := 1816) (by decide +kernel)) rfl
theorem zk_1817 : (Jvm.Cond.methodLink "SeenToMoveModel" (382 : Nat) ({ cls := "SeenToMoveModel", name := "octet", desc := "(I)I" } : Jvm.MethodName)) ∈ zTT := zTT_in (List.mem_of_getElem? (i := 1817) (by decide +kernel)) rfl
theorem zk_1819 : (Jvm.Cond.instanceMethod ({ cls := "SeenToMoveModel", name := "octet", desc := "(I)I" } : Jvm.MethodName)) ∈ zTT := zTT_in (List.mem_of_getElem? (i := 1819) (by decide +kernel)) rfl
theorem zk_1820 : (Jvm.Cond.code ({ cls := "SeenToMoveModel", name := "octet", desc := "(I)I" } : Jvm.MethodName) prog_14_method_11_code (2 : Nat) (Option.some Jvm.ClassFile.FieldType.int)) ∈ zTT := zTT_in (List.mem_of_getElem? (i := 1820) (by decide +kernel)) rfl
theorem zk_1821 : (Jvm.Cond.methodLink "SeenToMoveModel" (385 : Nat) ({ cls := "SeenToMoveModel", name := "cellTold", desc := "(I)I" } : Jvm.MethodName)) ∈ zTT := zTT_in (List.mem_of_getElem? (i := 1821) (by decide +kernel)) rfl
theorem zk_1823 : (Jvm.Cond.instanceMethod ({ cls := "SeenToMoveModel", name := "cellTold", desc := "(I)I" } : Jvm.MethodName)) ∈ zTT := zTT_in (List.mem_of_getElem? (i := 1823) (by decide +kernel)) rfl
theorem zk_1824 : (Jvm.Cond.code ({ cls := "SeenToMoveModel", name := "cellTold", desc := "(I)I" } : Jvm.MethodName) prog_14_method_90_code (2 : Nat) (Option.some Jvm.ClassFile.FieldType.int)) ∈ zTT := zTT_in (List.mem_of_getElem? (i := 1824) (by decide +kernel)) rfl
theorem zk_1825 : (Jvm.Cond.methodLink "SeenToMoveModel" (391 : Nat) ({ cls := "SeenToMoveModel", name := "laysTrail", desc := "(II)V" } : Jvm.MethodName)) ∈ zTT := zTT_in (List.mem_of_getElem? (i := 1825) (by decide +kernel)) rfl
theorem zk_1827 : (Jvm.Cond.instanceMethod ({ cls := "SeenToMoveModel", name := "laysTrail", desc := "(II)V" } : Jvm.MethodName)) ∈ zTT := zTT_in (List.mem_of_getElem? (i := 1827) (by decide +kernel)) rfl
theorem zk_1828 : (Jvm.Cond.code ({ cls := "SeenToMoveModel", name := "laysTrail", desc := "(II)V" } : Jvm.MethodName) prog_14_method_89_code (8 : Nat) (Option.none : Option Jvm.ClassFile.FieldType)) ∈ zTT := zTT_in (List.mem_of_getElem? (i := 1828) (by decide +kernel)) rfl
theorem zk_1829 : (Jvm.Cond.methodLink "SeenToMoveModel" (395 : Nat) ({ cls := "SeenToMoveModel", name := "isFit", desc := "(I)Z" } : Jvm.MethodName)) ∈ zTT := zTT_in (List.mem_of_getElem? (i := 1829) (by decide +kernel)) rfl
theorem zk_1831 : (Jvm.Cond.instanceMethod ({ cls := "SeenToMoveModel", name := "isFit", desc := "(I)Z" } : Jvm.MethodName)) ∈ zTT := zTT_in (List.mem_of_getElem? (i := 1831) (by decide +kernel)) rfl
theorem zk_1832 : (Jvm.Cond.code ({ cls := "SeenToMoveModel", name := "isFit", desc := "(I)Z" } : Jvm.MethodName) prog_14_method_91_code (4 : Nat) (Option.some Jvm.ClassFile.FieldType.boolean)) ∈ zTT := zTT_in (List.mem_of_getElem? (i := 1832) (by decide +kernel)) rfl
theorem zk_1833 : (Jvm.Cond.methodLink "SeenToMoveModel" (401 : Nat) ({ cls := "SeenToMoveModel", name := "leftBy", desc := "(I)I" } : Jvm.MethodName)) ∈ zTT := zTT_in (List.mem_of_getElem? (i := 1833) (by decide +kernel)) rfl
theorem zk_1835 : (Jvm.Cond.instanceMethod ({ cls := "SeenToMoveModel", name := "leftBy", desc := "(I)I" } : Jvm.MethodName)) ∈ zTT := zTT_in (List.mem_of_getElem? (i := 1835) (by decide +kernel)) rfl
theorem zk_1836 : (Jvm.Cond.code ({ cls := "SeenToMoveModel", name := "leftBy", desc := "(I)I" } : Jvm.MethodName) prog_14_method_92_code (6 : Nat) (Option.some Jvm.ClassFile.FieldType.int)) ∈ zTT := zTT_in (List.mem_of_getElem? (i := 1836) (by decide +kernel)) rfl
theorem zk_1837 : (Jvm.Cond.methodLink "SeenToMoveModel" (388 : Nat) ({ cls := "SeenToMoveModel", name := "greater", desc := "(II)I" } : Jvm.MethodName)) ∈ zTT := zTT_in (List.mem_of_getElem? (i := 1837) (by decide +kernel)) rfl
theorem zk_1838 : (Jvm.Cond.static ({ cls := "SeenToMoveModel", name := "greater", desc := "(II)I" } : Jvm.MethodName)) ∈ zTT := zTT_in (List.mem_of_getElem? (i := 1838) (by decide +kernel)) rfl
theorem zk_1839 : (Jvm.Cond.code ({ cls := "SeenToMoveModel", name := "greater", desc := "(II)I" } : Jvm.MethodName) prog_14_method_9_code (2 : Nat) (Option.some Jvm.ClassFile.FieldType.int)) ∈ zTT := zTT_in (List.mem_of_getElem? (i := 1839) (by decide +kernel)) rfl
theorem zk_1841 : (Jvm.Cond.instanceMethod ({ cls := "SeenToMoveModel", name := "fitsAt", desc := "(I)I" } : Jvm.MethodName)) ∈ zTT := zTT_in (List.mem_of_getElem? (i := 1841) (by decide +kernel)) rfl
theorem zk_1842 : (Jvm.Cond.selects "SeenToMoveModel" ({ cls := "SeenToMoveModel", name := "fitsAt", desc := "(I)I" } : Jvm.MethodName) ({ cls := "SeenToMoveModel", name := "fitsAt", desc := "(I)I" } : Jvm.MethodName)) ∈ zTT := zTT_in (List.mem_of_getElem? (i := 1842) (by decide +kernel)) rfl
theorem zk_1843 : (Jvm.Cond.code ({ cls := "SeenToMoveModel", name := "fitsAt", desc := "(I)I" } : Jvm.MethodName) prog_14_method_94_code (2 : Nat) (Option.some Jvm.ClassFile.FieldType.int)) ∈ zTT := zTT_in (List.mem_of_getElem? (i := 1843) (by decide +kernel)) rfl
theorem zk_1845 : (Jvm.Cond.instanceMethod ({ cls := "SeenToMoveModel", name := "ask", desc := "()I" } : Jvm.MethodName)) ∈ zTT := zTT_in (List.mem_of_getElem? (i := 1845) (by decide +kernel)) rfl
theorem zk_1846 : (Jvm.Cond.selects "SeenToMoveModel" ({ cls := "SeenToMoveModel", name := "ask", desc := "()I" } : Jvm.MethodName) ({ cls := "SeenToMoveModel", name := "ask", desc := "()I" } : Jvm.MethodName)) ∈ zTT := zTT_in (List.mem_of_getElem? (i := 1846) (by decide +kernel)) rfl
theorem zk_1847 : (Jvm.Cond.code ({ cls := "SeenToMoveModel", name := "ask", desc := "()I" } : Jvm.MethodName) prog_14_method_95_code (1 : Nat) (Option.some Jvm.ClassFile.FieldType.int)) ∈ zTT := zTT_in (List.mem_of_getElem? (i := 1847) (by decide +kernel)) rfl
theorem zk_1849 : (Jvm.Cond.instanceMethod ({ cls := "SeenToMoveModel", name := "grown", desc := "()I" } : Jvm.MethodName)) ∈ zTT := zTT_in (List.mem_of_getElem? (i := 1849) (by decide +kernel)) rfl
theorem zk_1850 : (Jvm.Cond.selects "SeenToMoveModel" ({ cls := "SeenToMoveModel", name := "grown", desc := "()I" } : Jvm.MethodName) ({ cls := "SeenToMoveModel", name := "grown", desc := "()I" } : Jvm.MethodName)) ∈ zTT := zTT_in (List.mem_of_getElem? (i := 1850) (by decide +kernel)) rfl
theorem zk_1851 : (Jvm.Cond.code ({ cls := "SeenToMoveModel", name := "grown", desc := "()I" } : Jvm.MethodName) prog_14_method_97_code (5 : Nat) (Option.some Jvm.ClassFile.FieldType.int)) ∈ zTT := zTT_in (List.mem_of_getElem? (i := 1851) (by decide +kernel)) rfl
theorem zk_1852 : (Jvm.Cond.constant "SeenToMoveModel" (404 : Nat) (-1000000 : Int32)) ∈ zTT := zTT_in (List.mem_of_getElem? (i := 1852) (by decide +kernel)) rfl
theorem zk_1853 : (Jvm.Cond.methodLink "SeenToMoveModel" (405 : Nat) ({ cls := "SeenToMoveModel", name := "firstLandOf", desc := "(I)I" } : Jvm.MethodName)) ∈ zTT := zTT_in (List.mem_of_getElem? (i := 1853) (by decide +kernel)) rfl
theorem zk_1855 : (Jvm.Cond.instanceMethod ({ cls := "SeenToMoveModel", name := "firstLandOf", desc := "(I)I" } : Jvm.MethodName)) ∈ zTT := zTT_in (List.mem_of_getElem? (i := 1855) (by decide +kernel)) rfl
theorem zk_1856 : (Jvm.Cond.code ({ cls := "SeenToMoveModel", name := "firstLandOf", desc := "(I)I" } : Jvm.MethodName) prog_14_method_96_code (4 : Nat) (Option.some Jvm.ClassFile.FieldType.int)) ∈ zTT := zTT_in (List.mem_of_getElem? (i := 1856) (by decide +kernel)) rfl
theorem zk_1858 : (Jvm.Cond.instanceMethod ({ cls := "SeenToMoveModel", name := "farthest", desc := "()I" } : Jvm.MethodName)) ∈ zTT := zTT_in (List.mem_of_getElem? (i := 1858) (by decide +kernel)) rfl
theorem zk_1859 : (Jvm.Cond.selects "SeenToMoveModel" ({ cls := "SeenToMoveModel", name := "farthest", desc := "()I" } : Jvm.MethodName) ({ cls := "SeenToMoveModel", name := "farthest", desc := "()I" } : Jvm.MethodName)) ∈ zTT := zTT_in (List.mem_of_getElem? (i := 1859) (by decide +kernel)) rfl
theorem zk_1860 : (Jvm.Cond.code ({ cls := "SeenToMoveModel", name := "farthest", desc := "()I" } : Jvm.MethodName) prog_14_method_98_code (3 : Nat) (Option.some Jvm.ClassFile.FieldType.int)) ∈ zTT := zTT_in (List.mem_of_getElem? (i := 1860) (by decide +kernel)) rfl
theorem zk_1862 : (Jvm.Cond.instanceMethod ({ cls := "SeenToMoveModel", name := "mean", desc := "(I)I" } : Jvm.MethodName)) ∈ zTT := zTT_in (List.mem_of_getElem? (i := 1862) (by decide +kernel)) rfl
theorem zk_1863 : (Jvm.Cond.selects "SeenToMoveModel" ({ cls := "SeenToMoveModel", name := "mean", desc := "(I)I" } : Jvm.MethodName) ({ cls := "SeenToMoveModel", name := "mean", desc := "(I)I" } : Jvm.MethodName)) ∈ zTT := zTT_in (List.mem_of_getElem? (i := 1863) (by decide +kernel)) rfl
theorem zk_1864 : (Jvm.Cond.code ({ cls := "SeenToMoveModel", name := "mean", desc := "(I)I" } : Jvm.MethodName) prog_14_method_99_code (5 : Nat) (Option.some Jvm.ClassFile.FieldType.int)) ∈ zTT := zTT_in (List.mem_of_getElem? (i := 1864) (by decide +kernel)) rfl
theorem zk_1866 : (Jvm.Cond.instanceMethod ({ cls := "SeenToMoveModel", name := "line", desc := "(I)I" } : Jvm.MethodName)) ∈ zTT := zTT_in (List.mem_of_getElem? (i := 1866) (by decide +kernel)) rfl
theorem zk_1867 : (Jvm.Cond.selects "SeenToMoveModel" ({ cls := "SeenToMoveModel", name := "line", desc := "(I)I" } : Jvm.MethodName) ({ cls := "SeenToMoveModel", name := "line", desc := "(I)I" } : Jvm.MethodName)) ∈ zTT := zTT_in (List.mem_of_getElem? (i := 1867) (by decide +kernel)) rfl
theorem zk_1868 : (Jvm.Cond.code ({ cls := "SeenToMoveModel", name := "line", desc := "(I)I" } : Jvm.MethodName) prog_14_method_103_code (3 : Nat) (Option.some Jvm.ClassFile.FieldType.int)) ∈ zTT := zTT_in (List.mem_of_getElem? (i := 1868) (by decide +kernel)) rfl
theorem zk_1869 : (Jvm.Cond.methodLink "SeenToMoveModel" (416 : Nat) ({ cls := "SeenToMoveModel", name := "spells", desc := "(J)V" } : Jvm.MethodName)) ∈ zTT := zTT_in (List.mem_of_getElem? (i := 1869) (by decide +kernel)) rfl
theorem zk_1871 : (Jvm.Cond.instanceMethod ({ cls := "SeenToMoveModel", name := "spells", desc := "(J)V" } : Jvm.MethodName)) ∈ zTT := zTT_in (List.mem_of_getElem? (i := 1871) (by decide +kernel)) rfl
theorem zk_1872 : (Jvm.Cond.code ({ cls := "SeenToMoveModel", name := "spells", desc := "(J)V" } : Jvm.MethodName) prog_14_method_101_code (4 : Nat) (Option.none : Option Jvm.ClassFile.FieldType)) ∈ zTT := zTT_in (List.mem_of_getElem? (i := 1872) (by decide +kernel)) rfl
theorem zk_1873 : (Jvm.Cond.constantLong "SeenToMoveModel" (411 : Nat) (255 : Int64)) ∈ zTT := zTT_in (List.mem_of_getElem? (i := 1873) (by decide +kernel)) rfl
theorem zk_1874 : (Jvm.Cond.methodLink "SeenToMoveModel" (413 : Nat) ({ cls := "SeenToMoveModel", name := "lays", desc := "(I)V" } : Jvm.MethodName)) ∈ zTT := zTT_in (List.mem_of_getElem? (i := 1874) (by decide +kernel)) rfl
theorem zk_1876 : (Jvm.Cond.instanceMethod ({ cls := "SeenToMoveModel", name := "lays", desc := "(I)V" } : Jvm.MethodName)) ∈ zTT := zTT_in (List.mem_of_getElem? (i := 1876) (by decide +kernel)) rfl
theorem zk_1877 : (Jvm.Cond.code ({ cls := "SeenToMoveModel", name := "lays", desc := "(I)V" } : Jvm.MethodName) prog_14_method_100_code (2 : Nat) (Option.none : Option Jvm.ClassFile.FieldType)) ∈ zTT := zTT_in (List.mem_of_getElem? (i := 1877) (by decide +kernel)) rfl
theorem zk_1878 : (Jvm.Cond.constantLong "SeenToMoveModel" (420 : Nat) (24948 : Int64)) ∈ zTT := zTT_in (List.mem_of_getElem? (i := 1878) (by decide +kernel)) rfl
theorem zk_1879 : (Jvm.Cond.methodLink "SeenToMoveModel" (422 : Nat) ({ cls := "SeenToMoveModel", name := "says", desc := "(J)V" } : Jvm.MethodName)) ∈ zTT := zTT_in (List.mem_of_getElem? (i := 1879) (by decide +kernel)) rfl
theorem zk_1881 : (Jvm.Cond.instanceMethod ({ cls := "SeenToMoveModel", name := "says", desc := "(J)V" } : Jvm.MethodName)) ∈ zTT := zTT_in (List.mem_of_getElem? (i := 1881) (by decide +kernel)) rfl
theorem zk_1882 : (Jvm.Cond.code ({ cls := "SeenToMoveModel", name := "says", desc := "(J)V" } : Jvm.MethodName) prog_14_method_102_code (3 : Nat) (Option.none : Option Jvm.ClassFile.FieldType)) ∈ zTT := zTT_in (List.mem_of_getElem? (i := 1882) (by decide +kernel)) rfl
theorem zk_1883 : (Jvm.Cond.constantLong "SeenToMoveModel" (425 : Nat) (29807 : Int64)) ∈ zTT := zTT_in (List.mem_of_getElem? (i := 1883) (by decide +kernel)) rfl
theorem zk_1885 : (Jvm.Cond.instanceMethod ({ cls := "SeenToMoveModel", name := "byteAt", desc := "(I)I" } : Jvm.MethodName)) ∈ zTT := zTT_in (List.mem_of_getElem? (i := 1885) (by decide +kernel)) rfl
theorem zk_1886 : (Jvm.Cond.selects "SeenToMoveModel" ({ cls := "SeenToMoveModel", name := "byteAt", desc := "(I)I" } : Jvm.MethodName) ({ cls := "SeenToMoveModel", name := "byteAt", desc := "(I)I" } : Jvm.MethodName)) ∈ zTT := zTT_in (List.mem_of_getElem? (i := 1886) (by decide +kernel)) rfl
theorem zk_1887 : (Jvm.Cond.code ({ cls := "SeenToMoveModel", name := "byteAt", desc := "(I)I" } : Jvm.MethodName) prog_14_method_104_code (2 : Nat) (Option.some Jvm.ClassFile.FieldType.int)) ∈ zTT := zTT_in (List.mem_of_getElem? (i := 1887) (by decide +kernel)) rfl
theorem zk_1889 : (Jvm.Cond.instanceMethod ({ cls := "SeenToMoveModel", name := "drawn", desc := "(II)I" } : Jvm.MethodName)) ∈ zTT := zTT_in (List.mem_of_getElem? (i := 1889) (by decide +kernel)) rfl
theorem zk_1890 : (Jvm.Cond.selects "SeenToMoveModel" ({ cls := "SeenToMoveModel", name := "drawn", desc := "(II)I" } : Jvm.MethodName) ({ cls := "SeenToMoveModel", name := "drawn", desc := "(II)I" } : Jvm.MethodName)) ∈ zTT := zTT_in (List.mem_of_getElem? (i := 1890) (by decide +kernel)) rfl
theorem zk_1891 : (Jvm.Cond.code ({ cls := "SeenToMoveModel", name := "drawn", desc := "(II)I" } : Jvm.MethodName) prog_14_method_108_code (3 : Nat) (Option.some Jvm.ClassFile.FieldType.int)) ∈ zTT := zTT_in (List.mem_of_getElem? (i := 1891) (by decide +kernel)) rfl
theorem zk_1892 : (Jvm.Cond.methodLink "SeenToMoveModel" (437 : Nat) ({ cls := "SeenToMoveModel", name := "draws", desc := "(II)I" } : Jvm.MethodName)) ∈ zTT := zTT_in (List.mem_of_getElem? (i := 1892) (by decide +kernel)) rfl
theorem zk_1894 : (Jvm.Cond.instanceMethod ({ cls := "SeenToMoveModel", name := "draws", desc := "(II)I" } : Jvm.MethodName)) ∈ zTT := zTT_in (List.mem_of_getElem? (i := 1894) (by decide +kernel)) rfl
theorem zk_1895 : (Jvm.Cond.code ({ cls := "SeenToMoveModel", name := "draws", desc := "(II)I" } : Jvm.MethodName) prog_14_method_107_code (5 : Nat) (Option.some Jvm.ClassFile.FieldType.int)) ∈ zTT := zTT_in (List.mem_of_getElem? (i := 1895) (by decide +kernel)) rfl
theorem zk_1896 : (Jvm.Cond.methodLink "SeenToMoveModel" (434 : Nat) ({ cls := "SeenToMoveModel", name := "drawLooker", desc := "(I)V" } : Jvm.MethodName)) ∈ zTT := zTT_in (List.mem_of_getElem? (i := 1896) (by decide +kernel)) rfl
theorem zk_1898 : (Jvm.Cond.instanceMethod ({ cls := "SeenToMoveModel", name := "drawLooker", desc := "(I)V" } : Jvm.MethodName)) ∈ zTT := zTT_in (List.mem_of_getElem? (i := 1898) (by decide +kernel)) rfl
theorem zk_1899 : (Jvm.Cond.code ({ cls := "SeenToMoveModel", name := "drawLooker", desc := "(I)V" } : Jvm.MethodName) prog_14_method_106_code (4 : Nat) (Option.none : Option Jvm.ClassFile.FieldType)) ∈ zTT := zTT_in (List.mem_of_getElem? (i := 1899) (by decide +kernel)) rfl
theorem zk_1900 : (Jvm.Cond.methodLink "SeenToMoveModel" (431 : Nat) ({ cls := "SeenToMoveModel", name := "draw", desc := "(I)I" } : Jvm.MethodName)) ∈ zTT := zTT_in (List.mem_of_getElem? (i := 1900) (by decide +kernel)) rfl
theorem zk_1902 : (Jvm.Cond.instanceMethod ({ cls := "SeenToMoveModel", name := "draw", desc := "(I)I" } : Jvm.MethodName)) ∈ zTT := zTT_in (List.mem_of_getElem? (i := 1902) (by decide +kernel)) rfl
theorem zk_1903 : (Jvm.Cond.code ({ cls := "SeenToMoveModel", name := "draw", desc := "(I)I" } : Jvm.MethodName) prog_14_method_105_code (2 : Nat) (Option.some Jvm.ClassFile.FieldType.int)) ∈ zTT := zTT_in (List.mem_of_getElem? (i := 1903) (by decide +kernel)) rfl
theorem zk_1904 : (Jvm.Cond.constant "SeenToMoveModel" (430 : Nat) (1103515245 : Int32)) ∈ zTT := zTT_in (List.mem_of_getElem? (i := 1904) (by decide +kernel)) rfl
theorem zk_1906 : (Jvm.Cond.instanceMethod ({ cls := "SeenToMoveModel", name := "odds", desc := "(III)I" } : Jvm.MethodName)) ∈ zTT := zTT_in (List.mem_of_getElem? (i := 1906) (by decide +kernel)) rfl
theorem zk_1907 : (Jvm.Cond.selects "SeenToMoveModel" ({ cls := "SeenToMoveModel", name := "odds", desc := "(III)I" } : Jvm.MethodName) ({ cls := "SeenToMoveModel", name := "odds", desc := "(III)I" } : Jvm.MethodName)) ∈ zTT := zTT_in (List.mem_of_getElem? (i := 1907) (by decide +kernel)) rfl
theorem zk_1908 : (Jvm.Cond.code ({ cls := "SeenToMoveModel", name := "odds", desc := "(III)I" } : Jvm.MethodName) prog_14_method_109_code (7 : Nat) (Option.some Jvm.ClassFile.FieldType.int)) ∈ zTT := zTT_in (List.mem_of_getElem? (i := 1908) (by decide +kernel)) rfl
theorem zk_1910 : (Jvm.Cond.instanceMethod ({ cls := "SeenToMoveModel", name := "book", desc := "(I)I" } : Jvm.MethodName)) ∈ zTT := zTT_in (List.mem_of_getElem? (i := 1910) (by decide +kernel)) rfl
theorem zk_1911 : (Jvm.Cond.selects "SeenToMoveModel" ({ cls := "SeenToMoveModel", name := "book", desc := "(I)I" } : Jvm.MethodName) ({ cls := "SeenToMoveModel", name := "book", desc := "(I)I" } : Jvm.MethodName)) ∈ zTT := zTT_in (List.mem_of_getElem? (i := 1911) (by decide +kernel)) rfl
theorem zk_1912 : (Jvm.Cond.code ({ cls := "SeenToMoveModel", name := "book", desc := "(I)I" } : Jvm.MethodName) prog_14_method_112_code (4 : Nat) (Option.some Jvm.ClassFile.FieldType.int)) ∈ zTT := zTT_in (List.mem_of_getElem? (i := 1912) (by decide +kernel)) rfl
theorem zk_1913 : (Jvm.Cond.methodLink "SeenToMoveModel" (443 : Nat) ({ cls := "SeenToMoveModel", name := "bookLine", desc := "()Z" } : Jvm.MethodName)) ∈ zTT := zTT_in (List.mem_of_getElem? (i := 1913) (by decide +kernel)) rfl
theorem zk_1915 : (Jvm.Cond.instanceMethod ({ cls := "SeenToMoveModel", name := "bookLine", desc := "()Z" } : Jvm.MethodName)) ∈ zTT := zTT_in (List.mem_of_getElem? (i := 1915) (by decide +kernel)) rfl
theorem zk_1916 : (Jvm.Cond.code ({ cls := "SeenToMoveModel", name := "bookLine", desc := "()Z" } : Jvm.MethodName) prog_14_method_110_code (7 : Nat) (Option.some Jvm.ClassFile.FieldType.boolean)) ∈ zTT := zTT_in (List.mem_of_getElem? (i := 1916) (by decide +kernel)) rfl
theorem zk_1917 : (Jvm.Cond.methodLink "SeenToMoveModel" (446 : Nat) ({ cls := "SeenToMoveModel", name := "does", desc := "(III)I" } : Jvm.MethodName)) ∈ zTT := zTT_in (List.mem_of_getElem? (i := 1917) (by decide +kernel)) rfl
theorem zk_1919 : (Jvm.Cond.instanceMethod ({ cls := "SeenToMoveModel", name := "does", desc := "(III)I" } : Jvm.MethodName)) ∈ zTT := zTT_in (List.mem_of_getElem? (i := 1919) (by decide +kernel)) rfl
theorem zk_1920 : (Jvm.Cond.code ({ cls := "SeenToMoveModel", name := "does", desc := "(III)I" } : Jvm.MethodName) prog_14_method_111_code (5 : Nat) (Option.some Jvm.ClassFile.FieldType.int)) ∈ zTT := zTT_in (List.mem_of_getElem? (i := 1920) (by decide +kernel)) rfl
theorem zk_1922 : (Jvm.Cond.instanceMethod ({ cls := "SeenToMoveModel", name := "told", desc := "(I)I" } : Jvm.MethodName)) ∈ zTT := zTT_in (List.mem_of_getElem? (i := 1922) (by decide +kernel)) rfl
theorem zk_1923 : (Jvm.Cond.selects "SeenToMoveModel" ({ cls := "SeenToMoveModel", name := "told", desc := "(I)I" } : Jvm.MethodName) ({ cls := "SeenToMoveModel", name := "told", desc := "(I)I" } : Jvm.MethodName)) ∈ zTT := zTT_in (List.mem_of_getElem? (i := 1923) (by decide +kernel)) rfl
theorem zk_1924 : (Jvm.Cond.code ({ cls := "SeenToMoveModel", name := "told", desc := "(I)I" } : Jvm.MethodName) prog_14_method_113_code (2 : Nat) (Option.some Jvm.ClassFile.FieldType.int)) ∈ zTT := zTT_in (List.mem_of_getElem? (i := 1924) (by decide +kernel)) rfl
theorem zk_1926 : (Jvm.Cond.instanceMethod ({ cls := "SeenToMoveModel", name := "sentence", desc := "()I" } : Jvm.MethodName)) ∈ zTT := zTT_in (List.mem_of_getElem? (i := 1926) (by decide +kernel)) rfl
theorem zk_1927 : (Jvm.Cond.selects "SeenToMoveModel" ({ cls := "SeenToMoveModel", name := "sentence", desc := "()I" } : Jvm.MethodName) ({ cls := "SeenToMoveModel", name := "sentence", desc := "()I" } : Jvm.MethodName)) ∈ zTT := zTT_in (List.mem_of_getElem? (i := 1927) (by decide +kernel)) rfl
theorem zk_1928 : (Jvm.Cond.code ({ cls := "SeenToMoveModel", name := "sentence", desc := "()I" } : Jvm.MethodName) prog_14_method_120_code (3 : Nat) (Option.some Jvm.ClassFile.FieldType.int)) ∈ zTT := zTT_in (List.mem_of_getElem? (i := 1928) (by decide +kernel)) rfl
theorem zk_1929 : (Jvm.Cond.methodLink "SeenToMoveModel" (475 : Nat) ({ cls := "SeenToMoveModel", name := "nots", desc := "()V" } : Jvm.MethodName)) ∈ zTT := zTT_in (List.mem_of_getElem? (i := 1929) (by decide +kernel)) rfl
theorem zk_1931 : (Jvm.Cond.instanceMethod ({ cls := "SeenToMoveModel", name := "nots", desc := "()V" } : Jvm.MethodName)) ∈ zTT := zTT_in (List.mem_of_getElem? (i := 1931) (by decide +kernel)) rfl
theorem zk_1932 : (Jvm.Cond.code ({ cls := "SeenToMoveModel", name := "nots", desc := "()V" } : Jvm.MethodName) prog_14_method_116_code (1 : Nat) (Option.none : Option Jvm.ClassFile.FieldType)) ∈ zTT := zTT_in (List.mem_of_getElem? (i := 1932) (by decide +kernel)) rfl
theorem zk_1933 : (Jvm.Cond.methodLink "SeenToMoveModel" (459 : Nat) ({ cls := "SeenToMoveModel", name := "code", desc := "(III)V" } : Jvm.MethodName)) ∈ zTT := zTT_in (List.mem_of_getElem? (i := 1933) (by decide +kernel)) rfl
theorem zk_1935 : (Jvm.Cond.instanceMethod ({ cls := "SeenToMoveModel", name := "code", desc := "(III)V" } : Jvm.MethodName)) ∈ zTT := zTT_in (List.mem_of_getElem? (i := 1935) (by decide +kernel)) rfl
theorem zk_1936 : (Jvm.Cond.code ({ cls := "SeenToMoveModel", name := "code", desc := "(III)V" } : Jvm.MethodName) prog_14_method_114_code (4 : Nat) (Option.none : Option Jvm.ClassFile.FieldType)) ∈ zTT := zTT_in (List.mem_of_getElem? (i := 1936) (by decide +kernel)) rfl
theorem zk_1937 : (Jvm.Cond.methodLink "SeenToMoveModel" (478 : Nat) ({ cls := "SeenToMoveModel", name := "joins", desc := "(I)V" } : Jvm.MethodName)) ∈ zTT := zTT_in (List.mem_of_getElem? (i := 1937) (by decide +kernel)) rfl
theorem zk_1939 : (Jvm.Cond.instanceMethod ({ cls := "SeenToMoveModel", name := "joins", desc := "(I)V" } : Jvm.MethodName)) ∈ zTT := zTT_in (List.mem_of_getElem? (i := 1939) (by decide +kernel)) rfl
theorem zk_1940 : (Jvm.Cond.code ({ cls := "SeenToMoveModel", name := "joins", desc := "(I)V" } : Jvm.MethodName) prog_14_method_115_code (2 : Nat) (Option.none : Option Jvm.ClassFile.FieldType)) ∈ zTT := zTT_in (List.mem_of_getElem? (i := 1940) (by decide +kernel)) rfl
theorem zk_1941 : (Jvm.Cond.methodLink "SeenToMoveModel" (481 : Nat) ({ cls := "SeenToMoveModel", name := "behind", desc := "()Z" } : Jvm.MethodName)) ∈ zTT := zTT_in (List.mem_of_getElem? (i := 1941) (by decide +kernel)) rfl
theorem zk_1943 : (Jvm.Cond.instanceMethod ({ cls := "SeenToMoveModel", name := "behind", desc := "()Z" } : Jvm.MethodName)) ∈ zTT := zTT_in (List.mem_of_getElem? (i := 1943) (by decide +kernel)) rfl
theorem zk_1944 : (Jvm.Cond.code ({ cls := "SeenToMoveModel", name := "behind", desc := "()Z" } : Jvm.MethodName) prog_14_method_119_code (1 : Nat) (Option.some Jvm.ClassFile.FieldType.boolean)) ∈ zTT := zTT_in (List.mem_of_getElem? (i := 1944) (by decide +kernel)) rfl
theorem zk_1945 : (Jvm.Cond.methodLink "SeenToMoveModel" (484 : Nat) ({ cls := "SeenToMoveModel", name := "operand", desc := "()Z" } : Jvm.MethodName)) ∈ zTT := zTT_in (List.mem_of_getElem? (i := 1945) (by decide +kernel)) rfl
theorem zk_1947 : (Jvm.Cond.instanceMethod ({ cls := "SeenToMoveModel", name := "operand", desc := "()Z" } : Jvm.MethodName)) ∈ zTT := zTT_in (List.mem_of_getElem? (i := 1947) (by decide +kernel)) rfl
theorem zk_1948 : (Jvm.Cond.code ({ cls := "SeenToMoveModel", name := "operand", desc := "()Z" } : Jvm.MethodName) prog_14_method_118_code (5 : Nat) (Option.some Jvm.ClassFile.FieldType.boolean)) ∈ zTT := zTT_in (List.mem_of_getElem? (i := 1948) (by decide +kernel)) rfl
theorem zk_1949 : (Jvm.Cond.methodLink "SeenToMoveModel" (466 : Nat) ({ cls := "SeenToMoveModel", name := "leafOf", desc := "()I" } : Jvm.MethodName)) ∈ zTT := zTT_in (List.mem_of_getElem? (i := 1949) (by decide +kernel)) rfl
theorem zk_1951 : (Jvm.Cond.instanceMethod ({ cls := "SeenToMoveModel", name := "leafOf", desc := "()I" } : Jvm.MethodName)) ∈ zTT := zTT_in (List.mem_of_getElem? (i := 1951) (by decide +kernel)) rfl
theorem zk_1952 : (Jvm.Cond.code ({ cls := "SeenToMoveModel", name := "leafOf", desc := "()I" } : Jvm.MethodName) prog_14_method_117_code (1 : Nat) (Option.some Jvm.ClassFile.FieldType.int)) ∈ zTT := zTT_in (List.mem_of_getElem? (i := 1952) (by decide +kernel)) rfl
theorem zk_1954 : (Jvm.Cond.instanceMethod ({ cls := "SeenToMoveModel", name := "said", desc := "(I)I" } : Jvm.MethodName)) ∈ zTT := zTT_in (List.mem_of_getElem? (i := 1954) (by decide +kernel)) rfl
theorem zk_1955 : (Jvm.Cond.selects "SeenToMoveModel" ({ cls := "SeenToMoveModel", name := "said", desc := "(I)I" } : Jvm.MethodName) ({ cls := "SeenToMoveModel", name := "said", desc := "(I)I" } : Jvm.MethodName)) ∈ zTT := zTT_in (List.mem_of_getElem? (i := 1955) (by decide +kernel)) rfl
theorem zk_1956 : (Jvm.Cond.code ({ cls := "SeenToMoveModel", name := "said", desc := "(I)I" } : Jvm.MethodName) prog_14_method_123_code (4 : Nat) (Option.some Jvm.ClassFile.FieldType.int)) ∈ zTT := zTT_in (List.mem_of_getElem? (i := 1956) (by decide +kernel)) rfl
theorem zk_1957 : (Jvm.Cond.methodLink "SeenToMoveModel" (491 : Nat) ({ cls := "SeenToMoveModel", name := "isSaid", desc := "(I)Z" } : Jvm.MethodName)) ∈ zTT := zTT_in (List.mem_of_getElem? (i := 1957) (by decide +kernel)) rfl
theorem zk_1959 : (Jvm.Cond.instanceMethod ({ cls := "SeenToMoveModel", name := "isSaid", desc := "(I)Z" } : Jvm.MethodName)) ∈ zTT := zTT_in (List.mem_of_getElem? (i := 1959) (by decide +kernel)) rfl
theorem zk_1960 : (Jvm.Cond.code ({ cls := "SeenToMoveModel", name := "isSaid", desc := "(I)Z" } : Jvm.MethodName) prog_14_method_122_code (5 : Nat) (Option.some Jvm.ClassFile.FieldType.boolean)) ∈ zTT := zTT_in (List.mem_of_getElem? (i := 1960) (by decide +kernel)) rfl
theorem zk_1961 : (Jvm.Cond.methodLink "SeenToMoveModel" (487 : Nat) ({ cls := "SeenToMoveModel", name := "isLeaf", desc := "(IIII)Z" } : Jvm.MethodName)) ∈ zTT := zTT_in (List.mem_of_getElem? (i := 1961) (by decide +kernel)) rfl
theorem zk_1963 : (Jvm.Cond.instanceMethod ({ cls := "SeenToMoveModel", name := "isLeaf", desc := "(IIII)Z" } : Jvm.MethodName)) ∈ zTT := zTT_in (List.mem_of_getElem? (i := 1963) (by decide +kernel)) rfl
theorem zk_1964 : (Jvm.Cond.code ({ cls := "SeenToMoveModel", name := "isLeaf", desc := "(IIII)Z" } : Jvm.MethodName) prog_14_method_121_code (6 : Nat) (Option.some Jvm.ClassFile.FieldType.boolean)) ∈ zTT := zTT_in (List.mem_of_getElem? (i := 1964) (by decide +kernel)) rfl
theorem zk_1966 : (Jvm.Cond.instanceMethod ({ cls := "SeenToMoveModel", name := "image", desc := "(I)Z" } : Jvm.MethodName)) ∈ zTT := zTT_in (List.mem_of_getElem? (i := 1966) (by decide +kernel)) rfl
theorem zk_1967 : (Jvm.Cond.selects "SeenToMoveModel" ({ cls := "SeenToMoveModel", name := "image", desc := "(I)Z" } : Jvm.MethodName) ({ cls := "SeenToMoveModel", name := "image", desc := "(I)Z" } : Jvm.MethodName)) ∈ zTT := zTT_in (List.mem_of_getElem? (i := 1967) (by decide +kernel)) rfl
theorem zk_1968 : (Jvm.Cond.code ({ cls := "SeenToMoveModel", name := "image", desc := "(I)Z" } : Jvm.MethodName) prog_14_method_124_code (3 : Nat) (Option.some Jvm.ClassFile.FieldType.boolean)) ∈ zTT := zTT_in (List.mem_of_getElem? (i := 1968) (by decide +kernel)) rfl
theorem zk_1970 : (Jvm.Cond.instanceMethod ({ cls := "SeenToMoveModel", name := "restore", desc := "(I)Z" } : Jvm.MethodName)) ∈ zTT := zTT_in (List.mem_of_getElem? (i := 1970) (by decide +kernel)) rfl
theorem zk_1971 : (Jvm.Cond.selects "SeenToMoveModel" ({ cls := "SeenToMoveModel", name := "restore", desc := "(I)Z" } : Jvm.MethodName) ({ cls := "SeenToMoveModel", name := "restore", desc := "(I)Z" } : Jvm.MethodName)) ∈ zTT := zTT_in (List.mem_of_getElem? (i := 1971) (by decide +kernel)) rfl
theorem zk_1972 : (Jvm.Cond.code ({ cls := "SeenToMoveModel", name := "restore", desc := "(I)Z" } : Jvm.MethodName) prog_14_method_125_code (3 : Nat) (Option.some Jvm.ClassFile.FieldType.boolean)) ∈ zTT := zTT_in (List.mem_of_getElem? (i := 1972) (by decide +kernel)) rfl
theorem zk_1974 : (Jvm.Cond.instanceMethod ({ cls := "SeenToMoveModel", name := "count", desc := "(I)I" } : Jvm.MethodName)) ∈ zTT := zTT_in (List.mem_of_getElem? (i := 1974) (by decide +kernel)) rfl
theorem zk_1975 : (Jvm.Cond.selects "SeenToMoveModel" ({ cls := "SeenToMoveModel", name := "count", desc := "(I)I" } : Jvm.MethodName) ({ cls := "SeenToMoveModel", name := "count", desc := "(I)I" } : Jvm.MethodName)) ∈ zTT := zTT_in (List.mem_of_getElem? (i := 1975) (by decide +kernel)) rfl
theorem zk_1976 : (Jvm.Cond.code ({ cls := "SeenToMoveModel", name := "count", desc := "(I)I" } : Jvm.MethodName) prog_14_method_126_code (2 : Nat) (Option.some Jvm.ClassFile.FieldType.int)) ∈ zTT := zTT_in (List.mem_of_getElem? (i := 1976) (by decide +kernel)) rfl
theorem zs_X10_stateIn : Cond.selects RX10 yX10_stateIn yX10_stateIn ∈ zTT := zTT_sel (q := (⟨"SeenToMove$Undos", "stateIn", "(I)LSeenToMove$State;"⟩, 3)) (List.mem_of_getElem? (i := 12) (by decide +kernel)) rfl
theorem zs_X11_comesBlind : Cond.selects RX11 yX11_comesBlind yX11_comesBlind ∈ zTT := zTT_sel (q := (⟨"SeenToMove", "comesBlind", "(IIII)Z"⟩, 14)) (List.mem_of_getElem? (i := 19) (by decide +kernel)) rfl
theorem zs_X11_couldSeeAll : Cond.selects RX11 yX11_couldSeeAll yX11_couldSeeAll ∈ zTT := zTT_sel (q := (⟨"SeenToMove", "couldSeeAll", "(I)Z"⟩, 14)) (List.mem_of_getElem? (i := 18) (by decide +kernel)) rfl
theorem zs_X11_digit : Cond.selects RX11 yX11_digit yX11_digit ∈ zTT := zTT_sel (q := (⟨"SeenToMove", "digit", "(II)I"⟩, 14)) (List.mem_of_getElem? (i := 17) (by decide +kernel)) rfl
theorem zs_X11_freeFigures : Cond.selects RX11 yX11_freeFigures yX11_freeFigures ∈ zTT := zTT_sel (q := (⟨"SeenToMove", "freeFigures", "()I"⟩, 14)) (List.mem_of_getElem? (i := 10) (by decide +kernel)) rfl
theorem zs_X11_goesDrawn : Cond.selects RX11 yX11_goesDrawn yX11_goesDrawn ∈ zTT := zTT_sel (q := (⟨"SeenToMove", "goesDrawn", "(II)Z"⟩, 14)) (List.mem_of_getElem? (i := 24) (by decide +kernel)) rfl
theorem zs_X11_imageIn : Cond.selects RX11 yX11_imageIn yX11_imageIn ∈ zTT := zTT_sel (q := (⟨"SeenToMove", "imageIn", "(I)LSeenToMove$Image;"⟩, 14)) (List.mem_of_getElem? (i := 32) (by decide +kernel)) rfl
theorem zs_X11_keepIfDone : Cond.selects RX11 yX11_keepIfDone yX11_keepIfDone ∈ zTT := zTT_sel (q := (⟨"SeenToMove", "keepIfDone", "(I)I"⟩, 14)) (List.mem_of_getElem? (i := 13) (by decide +kernel)) rfl
theorem zs_X11_keepIfGone : Cond.selects RX11 yX11_keepIfGone yX11_keepIfGone ∈ zTT := zTT_sel (q := (⟨"SeenToMove", "keepIfGone", "(I)I"⟩, 14)) (List.mem_of_getElem? (i := 14) (by decide +kernel)) rfl
theorem zs_X11_lookingLookers : Cond.selects RX11 yX11_lookingLookers yX11_lookingLookers ∈ zTT := zTT_sel (q := (⟨"SeenToMove", "lookingLookers", "()I"⟩, 14)) (List.mem_of_getElem? (i := 11) (by decide +kernel)) rfl
theorem zs_X11_markSights : Cond.selects RX11 yX11_markSights yX11_markSights ∈ zTT := zTT_sel (q := (⟨"SeenToMove", "markSights", "(Z)V"⟩, 14)) (List.mem_of_getElem? (i := 15) (by decide +kernel)) rfl
theorem zs_X11_seenFigures : Cond.selects RX11 yX11_seenFigures yX11_seenFigures ∈ zTT := zTT_sel (q := (⟨"SeenToMove", "seenFigures", "()I"⟩, 14)) (List.mem_of_getElem? (i := 9) (by decide +kernel)) rfl
theorem zs_X11_sightsOf : Cond.selects RX11 yX11_sightsOf yX11_sightsOf ∈ zTT := zTT_sel (q := (⟨"SeenToMove", "sightsOf", "(I)I"⟩, 14)) (List.mem_of_getElem? (i := 16) (by decide +kernel)) rfl
theorem zs_X12_back : Cond.selects RX12 yX12_back yX12_back ∈ zTT := zTT_sel (q := (⟨"SeenToMoveModel", "back", "()V"⟩, 50)) (List.mem_of_getElem? (i := 84) (by decide +kernel)) rfl
theorem zs_X12_bad : Cond.selects RX12 yX12_bad yX12_bad ∈ zTT := zTT_sel (q := (⟨"SeenToMoveModel", "bad", "(I)Z"⟩, 50)) (List.mem_of_getElem? (i := 42) (by decide +kernel)) rfl
theorem zs_X12_behind : Cond.selects RX12 yX12_behind yX12_behind ∈ zTT := zTT_sel (q := (⟨"SeenToMoveModel", "behind", "()Z"⟩, 50)) (List.mem_of_getElem? (i := 105) (by decide +kernel)) rfl
theorem zs_X12_beside : Cond.selects RX12 yX12_beside yX12_beside ∈ zTT := zTT_sel (q := (⟨"SeenToMoveModel", "beside", "(II)I"⟩, 50)) (List.mem_of_getElem? (i := 70) (by decide +kernel)) rfl
theorem zs_X12_blinks : Cond.selects RX12 yX12_blinks yX12_blinks ∈ zTT := zTT_sel (q := (⟨"SeenToMoveModel", "blinks", "(IZ)I"⟩, 50)) (List.mem_of_getElem? (i := 78) (by decide +kernel)) rfl
theorem zs_X12_bookLine : Cond.selects RX12 yX12_bookLine yX12_bookLine ∈ zTT := zTT_sel (q := (⟨"SeenToMoveModel", "bookLine", "()Z"⟩, 50)) (List.mem_of_getElem? (i := 100) (by decide +kernel)) rfl
theorem zs_X12_canGo : Cond.selects RX12 yX12_canGo yX12_canGo ∈ zTT := zTT_sel (q := (⟨"SeenToMoveModel", "canGo", "(I)Z"⟩, 50)) (List.mem_of_getElem? (i := 71) (by decide +kernel)) rfl
theorem zs_X12_cellTold : Cond.selects RX12 yX12_cellTold yX12_cellTold ∈ zTT := zTT_sel (q := (⟨"SeenToMoveModel", "cellTold", "(I)I"⟩, 50)) (List.mem_of_getElem? (i := 89) (by decide +kernel)) rfl
theorem zs_X12_clears : Cond.selects RX12 yX12_clears yX12_clears ∈ zTT := zTT_sel (q := (⟨"SeenToMoveModel", "clears", "()V"⟩, 50)) (List.mem_of_getElem? (i := 35) (by decide +kernel)) rfl
theorem zs_X12_code : Cond.selects RX12 yX12_code yX12_code ∈ zTT := zTT_sel (q := (⟨"SeenToMoveModel", "code", "(III)V"⟩, 50)) (List.mem_of_getElem? (i := 103) (by decide +kernel)) rfl
theorem zs_X12_comesIn : Cond.selects RX12 yX12_comesIn yX12_comesIn ∈ zTT := zTT_sel (q := (⟨"SeenToMoveModel", "comesIn", "(IIII)I"⟩, 50)) (List.mem_of_getElem? (i := 85) (by decide +kernel)) rfl
theorem zs_X12_coveredBy : Cond.selects RX12 yX12_coveredBy yX12_coveredBy ∈ zTT := zTT_sel (q := (⟨"SeenToMoveModel", "coveredBy", "(II)I"⟩, 50)) (List.mem_of_getElem? (i := 86) (by decide +kernel)) rfl
theorem zs_X12_does : Cond.selects RX12 yX12_does yX12_does ∈ zTT := zTT_sel (q := (⟨"SeenToMoveModel", "does", "(III)I"⟩, 50)) (List.mem_of_getElem? (i := 101) (by decide +kernel)) rfl
theorem zs_X12_draw : Cond.selects RX12 yX12_draw yX12_draw ∈ zTT := zTT_sel (q := (⟨"SeenToMoveModel", "draw", "(I)I"⟩, 50)) (List.mem_of_getElem? (i := 99) (by decide +kernel)) rfl
theorem zs_X12_drawLooker : Cond.selects RX12 yX12_drawLooker yX12_drawLooker ∈ zTT := zTT_sel (q := (⟨"SeenToMoveModel", "drawLooker", "(I)V"⟩, 50)) (List.mem_of_getElem? (i := 98) (by decide +kernel)) rfl
theorem zs_X12_draws : Cond.selects RX12 yX12_draws yX12_draws ∈ zTT := zTT_sel (q := (⟨"SeenToMoveModel", "draws", "(II)I"⟩, 50)) (List.mem_of_getElem? (i := 97) (by decide +kernel)) rfl
theorem zs_X12_figureAt : Cond.selects RX12 yX12_figureAt yX12_figureAt ∈ zTT := zTT_sel (q := (⟨"SeenToMoveModel", "figureAt", "(I)I"⟩, 50)) (List.mem_of_getElem? (i := 69) (by decide +kernel)) rfl
theorem zs_X12_figuresTo : Cond.selects RX12 yX12_figuresTo yX12_figuresTo ∈ zTT := zTT_sel (q := (⟨"SeenToMoveModel", "figuresTo", "(II)I"⟩, 50)) (List.mem_of_getElem? (i := 68) (by decide +kernel)) rfl
theorem zs_X12_firstLandOf : Cond.selects RX12 yX12_firstLandOf yX12_firstLandOf ∈ zTT := zTT_sel (q := (⟨"SeenToMoveModel", "firstLandOf", "(I)I"⟩, 50)) (List.mem_of_getElem? (i := 93) (by decide +kernel)) rfl
theorem zs_X12_firstOwner : Cond.selects RX12 yX12_firstOwner yX12_firstOwner ∈ zTT := zTT_sel (q := (⟨"SeenToMoveModel", "firstOwner", "(I)I"⟩, 50)) (List.mem_of_getElem? (i := 60) (by decide +kernel)) rfl
theorem zs_X12_four : Cond.selects RX12 yX12_four yX12_four ∈ zTT := zTT_sel (q := (⟨"SeenToMoveModel", "four", "(I)V"⟩, 50)) (List.mem_of_getElem? (i := 34) (by decide +kernel)) rfl
theorem zs_X12_fresh : Cond.selects RX12 yX12_fresh yX12_fresh ∈ zTT := zTT_sel (q := (⟨"SeenToMoveModel", "fresh", "(I)Z"⟩, 50)) (List.mem_of_getElem? (i := 48) (by decide +kernel)) rfl
theorem zs_X12_goes : Cond.selects RX12 yX12_goes yX12_goes ∈ zTT := zTT_sel (q := (⟨"SeenToMoveModel", "goes", "(I)V"⟩, 50)) (List.mem_of_getElem? (i := 82) (by decide +kernel)) rfl
theorem zs_X12_goesOn : Cond.selects RX12 yX12_goesOn yX12_goesOn ∈ zTT := zTT_sel (q := (⟨"SeenToMoveModel", "goesOn", "(I)I"⟩, 50)) (List.mem_of_getElem? (i := 80) (by decide +kernel)) rfl
theorem zs_X12_hour : Cond.selects RX12 yX12_hour yX12_hour ∈ zTT := zTT_sel (q := (⟨"SeenToMoveModel", "hour", "()V"⟩, 50)) (List.mem_of_getElem? (i := 81) (by decide +kernel)) rfl
theorem zs_X12_isCell : Cond.selects RX12 yX12_isCell yX12_isCell ∈ zTT := zTT_sel (q := (⟨"SeenToMoveModel", "isCell", "(II)Z"⟩, 50)) (List.mem_of_getElem? (i := 61) (by decide +kernel)) rfl
theorem zs_X12_isEnough : Cond.selects RX12 yX12_isEnough yX12_isEnough ∈ zTT := zTT_sel (q := (⟨"SeenToMoveModel", "isEnough", "(I)Z"⟩, 50)) (List.mem_of_getElem? (i := 87) (by decide +kernel)) rfl
theorem zs_X12_isFigure : Cond.selects RX12 yX12_isFigure yX12_isFigure ∈ zTT := zTT_sel (q := (⟨"SeenToMoveModel", "isFigure", "(I)Z"⟩, 50)) (List.mem_of_getElem? (i := 62) (by decide +kernel)) rfl
theorem zs_X12_isFit : Cond.selects RX12 yX12_isFit yX12_isFit ∈ zTT := zTT_sel (q := (⟨"SeenToMoveModel", "isFit", "(I)Z"⟩, 50)) (List.mem_of_getElem? (i := 91) (by decide +kernel)) rfl
theorem zs_X12_isLeaf : Cond.selects RX12 yX12_isLeaf yX12_isLeaf ∈ zTT := zTT_sel (q := (⟨"SeenToMoveModel", "isLeaf", "(IIII)Z"⟩, 50)) (List.mem_of_getElem? (i := 109) (by decide +kernel)) rfl
theorem zs_X12_isLooker : Cond.selects RX12 yX12_isLooker yX12_isLooker ∈ zTT := zTT_sel (q := (⟨"SeenToMoveModel", "isLooker", "(I)Z"⟩, 50)) (List.mem_of_getElem? (i := 73) (by decide +kernel)) rfl
theorem zs_X12_isLooking : Cond.selects RX12 yX12_isLooking yX12_isLooking ∈ zTT := zTT_sel (q := (⟨"SeenToMoveModel", "isLooking", "(I)Z"⟩, 50)) (List.mem_of_getElem? (i := 66) (by decide +kernel)) rfl
theorem zs_X12_isName : Cond.selects RX12 yX12_isName yX12_isName ∈ zTT := zTT_sel (q := (⟨"SeenToMoveModel", "isName", "()Z"⟩, 50)) (List.mem_of_getElem? (i := 49) (by decide +kernel)) rfl
theorem zs_X12_isSaid : Cond.selects RX12 yX12_isSaid yX12_isSaid ∈ zTT := zTT_sel (q := (⟨"SeenToMoveModel", "isSaid", "(I)Z"⟩, 50)) (List.mem_of_getElem? (i := 108) (by decide +kernel)) rfl
theorem zs_X12_isShut : Cond.selects RX12 yX12_isShut yX12_isShut ∈ zTT := zTT_sel (q := (⟨"SeenToMoveModel", "isShut", "(I)Z"⟩, 50)) (List.mem_of_getElem? (i := 67) (by decide +kernel)) rfl
theorem zs_X12_isSign : Cond.selects RX12 yX12_isSign yX12_isSign ∈ zTT := zTT_sel (q := (⟨"SeenToMoveModel", "isSign", "(I)Z"⟩, 50)) (List.mem_of_getElem? (i := 59) (by decide +kernel)) rfl
theorem zs_X12_isWord : Cond.selects RX12 yX12_isWord yX12_isWord ∈ zTT := zTT_sel (q := (⟨"SeenToMoveModel", "isWord", "(J)Z"⟩, 50)) (List.mem_of_getElem? (i := 40) (by decide +kernel)) rfl
theorem zs_X12_joins : Cond.selects RX12 yX12_joins yX12_joins ∈ zTT := zTT_sel (q := (⟨"SeenToMoveModel", "joins", "(I)V"⟩, 50)) (List.mem_of_getElem? (i := 104) (by decide +kernel)) rfl
theorem zs_X12_keep : Cond.selects RX12 yX12_keep yX12_keep ∈ zTT := zTT_sel (q := (⟨"SeenToMoveModel", "keep", "()V"⟩, 50)) (List.mem_of_getElem? (i := 76) (by decide +kernel)) rfl
theorem zs_X12_landOf : Cond.selects RX12 yX12_landOf yX12_landOf ∈ zTT := zTT_sel (q := (⟨"SeenToMoveModel", "landOf", "(I)I"⟩, 50)) (List.mem_of_getElem? (i := 75) (by decide +kernel)) rfl
theorem zs_X12_lays : Cond.selects RX12 yX12_lays yX12_lays ∈ zTT := zTT_sel (q := (⟨"SeenToMoveModel", "lays", "(I)V"⟩, 50)) (List.mem_of_getElem? (i := 95) (by decide +kernel)) rfl
theorem zs_X12_laysTrail : Cond.selects RX12 yX12_laysTrail yX12_laysTrail ∈ zTT := zTT_sel (q := (⟨"SeenToMoveModel", "laysTrail", "(II)V"⟩, 50)) (List.mem_of_getElem? (i := 90) (by decide +kernel)) rfl
theorem zs_X12_leafOf : Cond.selects RX12 yX12_leafOf yX12_leafOf ∈ zTT := zTT_sel (q := (⟨"SeenToMoveModel", "leafOf", "()I"⟩, 50)) (List.mem_of_getElem? (i := 107) (by decide +kernel)) rfl
theorem zs_X12_leftBy : Cond.selects RX12 yX12_leftBy yX12_leftBy ∈ zTT := zTT_sel (q := (⟨"SeenToMoveModel", "leftBy", "(I)I"⟩, 50)) (List.mem_of_getElem? (i := 92) (by decide +kernel)) rfl
theorem zs_X12_lookerAt : Cond.selects RX12 yX12_lookerAt yX12_lookerAt ∈ zTT := zTT_sel (q := (⟨"SeenToMoveModel", "lookerAt", "(I)I"⟩, 50)) (List.mem_of_getElem? (i := 72) (by decide +kernel)) rfl
theorem zs_X12_looksAt : Cond.selects RX12 yX12_looksAt yX12_looksAt ∈ zTT := zTT_sel (q := (⟨"SeenToMoveModel", "looksAt", "(II)Z"⟩, 50)) (List.mem_of_getElem? (i := 53) (by decide +kernel)) rfl
theorem zs_X12_next : Cond.selects RX12 yX12_next yX12_next ∈ zTT := zTT_sel (q := (⟨"SeenToMoveModel", "next", "()V"⟩, 50)) (List.mem_of_getElem? (i := 37) (by decide +kernel)) rfl
theorem zs_X12_nots : Cond.selects RX12 yX12_nots yX12_nots ∈ zTT := zTT_sel (q := (⟨"SeenToMoveModel", "nots", "()V"⟩, 50)) (List.mem_of_getElem? (i := 102) (by decide +kernel)) rfl
theorem zs_X12_octet : Cond.selects RX12 yX12_octet yX12_octet ∈ zTT := zTT_sel (q := (⟨"SeenToMoveModel", "octet", "(I)I"⟩, 50)) (List.mem_of_getElem? (i := 88) (by decide +kernel)) rfl
theorem zs_X12_operand : Cond.selects RX12 yX12_operand yX12_operand ∈ zTT := zTT_sel (q := (⟨"SeenToMoveModel", "operand", "()Z"⟩, 50)) (List.mem_of_getElem? (i := 106) (by decide +kernel)) rfl
theorem zs_X12_peek : Cond.selects RX12 yX12_peek yX12_peek ∈ zTT := zTT_sel (q := (⟨"SeenToMoveModel", "peek", "()I"⟩, 50)) (List.mem_of_getElem? (i := 38) (by decide +kernel)) rfl
theorem zs_X12_puts : Cond.selects RX12 yX12_puts yX12_puts ∈ zTT := zTT_sel (q := (⟨"SeenToMoveModel", "puts", "(III)Z"⟩, 50)) (List.mem_of_getElem? (i := 43) (by decide +kernel)) rfl
theorem zs_X12_readField : Cond.selects RX12 yX12_readField yX12_readField ∈ zTT := zTT_sel (q := (⟨"SeenToMoveModel", "readField", "()Z"⟩, 50)) (List.mem_of_getElem? (i := 41) (by decide +kernel)) rfl
theorem zs_X12_readFigure : Cond.selects RX12 yX12_readFigure yX12_readFigure ∈ zTT := zTT_sel (q := (⟨"SeenToMoveModel", "readFigure", "()Z"⟩, 50)) (List.mem_of_getElem? (i := 54) (by decide +kernel)) rfl
theorem zs_X12_readHedge : Cond.selects RX12 yX12_readHedge yX12_readHedge ∈ zTT := zTT_sel (q := (⟨"SeenToMoveModel", "readHedge", "()Z"⟩, 50)) (List.mem_of_getElem? (i := 45) (by decide +kernel)) rfl
theorem zs_X12_readLand : Cond.selects RX12 yX12_readLand yX12_readLand ∈ zTT := zTT_sel (q := (⟨"SeenToMoveModel", "readLand", "()Z"⟩, 50)) (List.mem_of_getElem? (i := 51) (by decide +kernel)) rfl
theorem zs_X12_readLine : Cond.selects RX12 yX12_readLine yX12_readLine ∈ zTT := zTT_sel (q := (⟨"SeenToMoveModel", "readLine", "()Z"⟩, 50)) (List.mem_of_getElem? (i := 39) (by decide +kernel)) rfl
theorem zs_X12_readLooker : Cond.selects RX12 yX12_readLooker yX12_readLooker ∈ zTT := zTT_sel (q := (⟨"SeenToMoveModel", "readLooker", "()Z"⟩, 50)) (List.mem_of_getElem? (i := 57) (by decide +kernel)) rfl
theorem zs_X12_readOwner : Cond.selects RX12 yX12_readOwner yX12_readOwner ∈ zTT := zTT_sel (q := (⟨"SeenToMoveModel", "readOwner", "()Z"⟩, 50)) (List.mem_of_getElem? (i := 47) (by decide +kernel)) rfl
theorem zs_X12_says : Cond.selects RX12 yX12_says yX12_says ∈ zTT := zTT_sel (q := (⟨"SeenToMoveModel", "says", "(J)V"⟩, 50)) (List.mem_of_getElem? (i := 96) (by decide +kernel)) rfl
theorem zs_X12_seek : Cond.selects RX12 yX12_seek yX12_seek ∈ zTT := zTT_sel (q := (⟨"SeenToMoveModel", "seek", "(II)I"⟩, 50)) (List.mem_of_getElem? (i := 50) (by decide +kernel)) rfl
theorem zs_X12_seenBy : Cond.selects RX12 yX12_seenBy yX12_seenBy ∈ zTT := zTT_sel (q := (⟨"SeenToMoveModel", "seenBy", "(I)I"⟩, 50)) (List.mem_of_getElem? (i := 64) (by decide +kernel)) rfl
theorem zs_X12_seesOf : Cond.selects RX12 yX12_seesOf yX12_seesOf ∈ zTT := zTT_sel (q := (⟨"SeenToMoveModel", "seesOf", "(I)I"⟩, 50)) (List.mem_of_getElem? (i := 65) (by decide +kernel)) rfl
theorem zs_X12_sideWord : Cond.selects RX12 yX12_sideWord yX12_sideWord ∈ zTT := zTT_sel (q := (⟨"SeenToMoveModel", "sideWord", "()I"⟩, 50)) (List.mem_of_getElem? (i := 56) (by decide +kernel)) rfl
theorem zs_X12_sign : Cond.selects RX12 yX12_sign yX12_sign ∈ zTT := zTT_sel (q := (⟨"SeenToMoveModel", "sign", "(I)Z"⟩, 50)) (List.mem_of_getElem? (i := 58) (by decide +kernel)) rfl
theorem zs_X12_spells : Cond.selects RX12 yX12_spells yX12_spells ∈ zTT := zTT_sel (q := (⟨"SeenToMoveModel", "spells", "(J)V"⟩, 50)) (List.mem_of_getElem? (i := 94) (by decide +kernel)) rfl
theorem zs_X12_taken : Cond.selects RX12 yX12_taken yX12_taken ∈ zTT := zTT_sel (q := (⟨"SeenToMoveModel", "taken", "(I)V"⟩, 50)) (List.mem_of_getElem? (i := 36) (by decide +kernel)) rfl
theorem zs_X12_takes : Cond.selects RX12 yX12_takes yX12_takes ∈ zTT := zTT_sel (q := (⟨"SeenToMoveModel", "takes", "(II)Z"⟩, 50)) (List.mem_of_getElem? (i := 44) (by decide +kernel)) rfl
theorem zs_X12_takesCell : Cond.selects RX12 yX12_takesCell yX12_takesCell ∈ zTT := zTT_sel (q := (⟨"SeenToMoveModel", "takesCell", "()Z"⟩, 50)) (List.mem_of_getElem? (i := 46) (by decide +kernel)) rfl
theorem zs_X12_takesName : Cond.selects RX12 yX12_takesName yX12_takesName ∈ zTT := zTT_sel (q := (⟨"SeenToMoveModel", "takesName", "(II)Z"⟩, 50)) (List.mem_of_getElem? (i := 52) (by decide +kernel)) rfl
theorem zs_X12_takesSide : Cond.selects RX12 yX12_takesSide yX12_takesSide ∈ zTT := zTT_sel (q := (⟨"SeenToMoveModel", "takesSide", "()Z"⟩, 50)) (List.mem_of_getElem? (i := 55) (by decide +kernel)) rfl
theorem zs_X12_throwsIf : Cond.selects RX12 yX12_throwsIf yX12_throwsIf ∈ zTT := zTT_sel (q := (⟨"SeenToMoveModel", "throwsIf", "(Z)Z"⟩, 50)) (List.mem_of_getElem? (i := 63) (by decide +kernel)) rfl
theorem zs_X12_tries : Cond.selects RX12 yX12_tries yX12_tries ∈ zTT := zTT_sel (q := (⟨"SeenToMoveModel", "tries", "()V"⟩, 50)) (List.mem_of_getElem? (i := 83) (by decide +kernel)) rfl
theorem zs_X12_wentInAll : Cond.selects RX12 yX12_wentInAll yX12_wentInAll ∈ zTT := zTT_sel (q := (⟨"SeenToMoveModel", "wentInAll", "()I"⟩, 50)) (List.mem_of_getElem? (i := 74) (by decide +kernel)) rfl
theorem zs_X12_whyFace : Cond.selects RX12 yX12_whyFace yX12_whyFace ∈ zTT := zTT_sel (q := (⟨"SeenToMoveModel", "whyFace", "(II)I"⟩, 50)) (List.mem_of_getElem? (i := 79) (by decide +kernel)) rfl
theorem zs_X12_whyWalk : Cond.selects RX12 yX12_whyWalk yX12_whyWalk ∈ zTT := zTT_sel (q := (⟨"SeenToMoveModel", "whyWalk", "(II)I"⟩, 50)) (List.mem_of_getElem? (i := 77) (by decide +kernel)) rfl
theorem zs_X1_addLine : Cond.selects RX1 yX1_addLine yX1_addLine ∈ zTT := zTT_sel (q := (⟨"SeenToMove$BookText", "addLine", "(III)V"⟩, 6)) (List.mem_of_getElem? (i := 26) (by decide +kernel)) rfl
theorem zs_X1_readLine : Cond.selects RX1 yX1_readLine yX1_readLine ∈ zTT := zTT_sel (q := (⟨"SeenToMove$BookText", "readLine", "()V"⟩, 6)) (List.mem_of_getElem? (i := 25) (by decide +kernel)) rfl
theorem zs_X1_readLooker : Cond.selects RX1 yX1_readLooker yX1_readLooker ∈ zTT := zTT_sel (q := (⟨"SeenToMove$BookText", "readLooker", "(I)V"⟩, 6)) (List.mem_of_getElem? (i := 27) (by decide +kernel)) rfl
theorem zs_X3_readCell : Cond.selects RX3 yX3_readCell yX3_readCell ∈ zTT := zTT_sel (q := (⟨"SeenToMove$FieldText", "readCell", "()I"⟩, 6)) (List.mem_of_getElem? (i := 3) (by decide +kernel)) rfl
theorem zs_X3_readFigure : Cond.selects RX3 yX3_readFigure yX3_readFigure ∈ zTT := zTT_sel (q := (⟨"SeenToMove$FieldText", "readFigure", "()V"⟩, 6)) (List.mem_of_getElem? (i := 7) (by decide +kernel)) rfl
theorem zs_X3_readHedge : Cond.selects RX3 yX3_readHedge yX3_readHedge ∈ zTT := zTT_sel (q := (⟨"SeenToMove$FieldText", "readHedge", "()V"⟩, 6)) (List.mem_of_getElem? (i := 2) (by decide +kernel)) rfl
theorem zs_X3_readLand : Cond.selects RX3 yX3_readLand yX3_readLand ∈ zTT := zTT_sel (q := (⟨"SeenToMove$FieldText", "readLand", "()V"⟩, 6)) (List.mem_of_getElem? (i := 6) (by decide +kernel)) rfl
theorem zs_X3_readLooker : Cond.selects RX3 yX3_readLooker yX3_readLooker ∈ zTT := zTT_sel (q := (⟨"SeenToMove$FieldText", "readLooker", "()V"⟩, 6)) (List.mem_of_getElem? (i := 8) (by decide +kernel)) rfl
theorem zs_X3_readNewName : Cond.selects RX3 yX3_readNewName yX3_readNewName ∈ zTT := zTT_sel (q := (⟨"SeenToMove$FieldText", "readNewName", "()J"⟩, 6)) (List.mem_of_getElem? (i := 5) (by decide +kernel)) rfl
theorem zs_X3_readOwner : Cond.selects RX3 yX3_readOwner yX3_readOwner ∈ zTT := zTT_sel (q := (⟨"SeenToMove$FieldText", "readOwner", "()V"⟩, 6)) (List.mem_of_getElem? (i := 4) (by decide +kernel)) rfl
theorem zs_X3_readSize : Cond.selects RX3 yX3_readSize yX3_readSize ∈ zTT := zTT_sel (q := (⟨"SeenToMove$FieldText", "readSize", "()V"⟩, 6)) (List.mem_of_getElem? (i := 1) (by decide +kernel)) rfl
theorem zs_X4_bestHour : Cond.selects RX4 yX4_bestHour yX4_bestHour ∈ zTT := zTT_sel (q := (⟨"SeenToMove$Fits", "bestHour", "()I"⟩, 6)) (List.mem_of_getElem? (i := 22) (by decide +kernel)) rfl
theorem zs_X4_goAlone : Cond.selects RX4 yX4_goAlone yX4_goAlone ∈ zTT := zTT_sel (q := (⟨"SeenToMove$Fits", "goAlone", "(LSeenToMove$Field;I)V"⟩, 6)) (List.mem_of_getElem? (i := 20) (by decide +kernel)) rfl
theorem zs_X4_isAsShown : Cond.selects RX4 yX4_isAsShown yX4_isAsShown ∈ zTT := zTT_sel (q := (⟨"SeenToMove$Fits", "isAsShown", "(I)Z"⟩, 6)) (List.mem_of_getElem? (i := 21) (by decide +kernel)) rfl
theorem zs_X4_mostLeft : Cond.selects RX4 yX4_mostLeft yX4_mostLeft ∈ zTT := zTT_sel (q := (⟨"SeenToMove$Fits", "mostLeft", "(I)I"⟩, 6)) (List.mem_of_getElem? (i := 23) (by decide +kernel)) rfl
theorem zs_X6_isSo : Cond.selects RX6 yX6_isSo yX6_isSo ∈ zTT := zTT_sel (q := (⟨"SeenToMove$Sentence", "isSo", "(LSeenToMove$State;II)Z"⟩, 4)) (List.mem_of_getElem? (i := 31) (by decide +kernel)) rfl
theorem zs_X7_readSign : Cond.selects RX7 yX7_readSign yX7_readSign ∈ zTT := zTT_sel (q := (⟨"SeenToMove$SentenceText", "readSign", "()I"⟩, 4)) (List.mem_of_getElem? (i := 30) (by decide +kernel)) rfl
theorem zs_X9_readRun : Cond.selects RX9 yX9_readRun yX9_readRun ∈ zTT := zTT_sel (q := (⟨"SeenToMove$Tape", "readRun", "()I"⟩, 12)) (List.mem_of_getElem? (i := 0) (by decide +kernel)) rfl
theorem zcpw : zCpw := ⟨zk_726, zk_725, zk_19⟩
theorem zin_X0 : ∀ w ∈ u_ws RX0 TX0 9, w ∈ zTT := by
  intro w h
  obtain ⟨k, hk, rfl⟩ := List.mem_map.mp h
  have hk := List.mem_range.mp hk
  rcases (show k = 0 ∨ k = 1 ∨ k = 2 ∨ k = 3 ∨ k = 4 ∨ k = 5 ∨ k = 6 ∨ k = 7 ∨ k = 8 by omega) with rfl | rfl | rfl | rfl | rfl | rfl | rfl | rfl | rfl
  · exact zk_489
  · exact zk_491
  · exact zk_493
  · exact zk_495
  · exact zk_497
  · exact zk_499
  · exact zk_501
  · exact zk_503
  · exact zk_505
theorem zin_X1 : ∀ w ∈ u_ws RX1 TX1 6, w ∈ zTT := by
  intro w h
  obtain ⟨k, hk, rfl⟩ := List.mem_map.mp h
  have hk := List.mem_range.mp hk
  rcases (show k = 0 ∨ k = 1 ∨ k = 2 ∨ k = 3 ∨ k = 4 ∨ k = 5 by omega) with rfl | rfl | rfl | rfl | rfl | rfl
  · exact zk_357
  · exact zk_359
  · exact zk_361
  · exact zk_363
  · exact zk_365
  · exact zk_367
theorem zin_X2 : ∀ w ∈ u_ws RX2 TX2 15, w ∈ zTT := by
  intro w h
  obtain ⟨k, hk, rfl⟩ := List.mem_map.mp h
  have hk := List.mem_range.mp hk
  rcases (show k = 0 ∨ k = 1 ∨ k = 2 ∨ k = 3 ∨ k = 4 ∨ k = 5 ∨ k = 6 ∨ k = 7 ∨ k = 8 ∨ k = 9 ∨ k = 10 ∨ k = 11 ∨ k = 12 ∨ k = 13 ∨ k = 14 by omega) with rfl | rfl | rfl | rfl | rfl | rfl | rfl | rfl | rfl | rfl | rfl | rfl | rfl | rfl | rfl
  · exact zk_210
  · exact zk_212
  · exact zk_214
  · exact zk_216
  · exact zk_218
  · exact zk_220
  · exact zk_222
  · exact zk_224
  · exact zk_226
  · exact zk_228
  · exact zk_230
  · exact zk_232
  · exact zk_234
  · exact zk_236
  · exact zk_238
theorem zin_X3 : ∀ w ∈ u_ws RX3 TX3 6, w ∈ zTT := by
  intro w h
  obtain ⟨k, hk, rfl⟩ := List.mem_map.mp h
  have hk := List.mem_range.mp hk
  rcases (show k = 0 ∨ k = 1 ∨ k = 2 ∨ k = 3 ∨ k = 4 ∨ k = 5 by omega) with rfl | rfl | rfl | rfl | rfl | rfl
  · exact zk_331
  · exact zk_333
  · exact zk_335
  · exact zk_337
  · exact zk_339
  · exact zk_341
theorem zin_X4 : ∀ w ∈ u_ws RX4 TX4 6, w ∈ zTT := by
  intro w h
  obtain ⟨k, hk, rfl⟩ := List.mem_map.mp h
  have hk := List.mem_range.mp hk
  rcases (show k = 0 ∨ k = 1 ∨ k = 2 ∨ k = 3 ∨ k = 4 ∨ k = 5 by omega) with rfl | rfl | rfl | rfl | rfl | rfl
  · exact zk_454
  · exact zk_456
  · exact zk_458
  · exact zk_460
  · exact zk_462
  · exact zk_464
theorem zin_X5 : ∀ w ∈ u_ws RX5 TX5 4, w ∈ zTT := by
  intro w h
  obtain ⟨k, hk, rfl⟩ := List.mem_map.mp h
  have hk := List.mem_range.mp hk
  rcases (show k = 0 ∨ k = 1 ∨ k = 2 ∨ k = 3 by omega) with rfl | rfl | rfl | rfl
  · exact zk_430
  · exact zk_432
  · exact zk_434
  · exact zk_436
theorem zin_X6 : ∀ w ∈ u_ws RX6 TX6 4, w ∈ zTT := by
  intro w h
  obtain ⟨k, hk, rfl⟩ := List.mem_map.mp h
  have hk := List.mem_range.mp hk
  rcases (show k = 0 ∨ k = 1 ∨ k = 2 ∨ k = 3 by omega) with rfl | rfl | rfl | rfl
  · exact zk_304
  · exact zk_306
  · exact zk_308
  · exact zk_310
theorem zin_X7 : ∀ w ∈ u_ws RX7 TX7 4, w ∈ zTT := by
  intro w h
  obtain ⟨k, hk, rfl⟩ := List.mem_map.mp h
  have hk := List.mem_range.mp hk
  rcases (show k = 0 ∨ k = 1 ∨ k = 2 ∨ k = 3 by omega) with rfl | rfl | rfl | rfl
  · exact zk_383
  · exact zk_385
  · exact zk_387
  · exact zk_389
theorem zin_X8 : ∀ w ∈ u_ws RX8 TX8 9, w ∈ zTT := by
  intro w h
  obtain ⟨k, hk, rfl⟩ := List.mem_map.mp h
  have hk := List.mem_range.mp hk
  rcases (show k = 0 ∨ k = 1 ∨ k = 2 ∨ k = 3 ∨ k = 4 ∨ k = 5 ∨ k = 6 ∨ k = 7 ∨ k = 8 by omega) with rfl | rfl | rfl | rfl | rfl | rfl | rfl | rfl | rfl
  · exact zk_274
  · exact zk_276
  · exact zk_278
  · exact zk_280
  · exact zk_282
  · exact zk_284
  · exact zk_286
  · exact zk_288
  · exact zk_290
theorem zin_X9 : ∀ w ∈ u_ws RX9 TX9 12, w ∈ zTT := by
  intro w h
  obtain ⟨k, hk, rfl⟩ := List.mem_map.mp h
  have hk := List.mem_range.mp hk
  rcases (show k = 0 ∨ k = 1 ∨ k = 2 ∨ k = 3 ∨ k = 4 ∨ k = 5 ∨ k = 6 ∨ k = 7 ∨ k = 8 ∨ k = 9 ∨ k = 10 ∨ k = 11 by omega) with rfl | rfl | rfl | rfl | rfl | rfl | rfl | rfl | rfl | rfl | rfl | rfl
  · exact zk_117
  · exact zk_119
  · exact zk_121
  · exact zk_123
  · exact zk_125
  · exact zk_127
  · exact zk_129
  · exact zk_131
  · exact zk_133
  · exact zk_135
  · exact zk_137
  · exact zk_139
theorem zin_X10 : ∀ w ∈ u_ws RX10 TX10 3, w ∈ zTT := by
  intro w h
  obtain ⟨k, hk, rfl⟩ := List.mem_map.mp h
  have hk := List.mem_range.mp hk
  rcases (show k = 0 ∨ k = 1 ∨ k = 2 by omega) with rfl | rfl | rfl
  · exact zk_404
  · exact zk_406
  · exact zk_408
theorem zin_X11 : ∀ w ∈ u_ws RX11 TX11 14, w ∈ zTT := by
  intro w h
  obtain ⟨k, hk, rfl⟩ := List.mem_map.mp h
  have hk := List.mem_range.mp hk
  rcases (show k = 0 ∨ k = 1 ∨ k = 2 ∨ k = 3 ∨ k = 4 ∨ k = 5 ∨ k = 6 ∨ k = 7 ∨ k = 8 ∨ k = 9 ∨ k = 10 ∨ k = 11 ∨ k = 12 ∨ k = 13 by omega) with rfl | rfl | rfl | rfl | rfl | rfl | rfl | rfl | rfl | rfl | rfl | rfl | rfl | rfl
  · exact zk_522
  · exact zk_524
  · exact zk_526
  · exact zk_528
  · exact zk_530
  · exact zk_532
  · exact zk_534
  · exact zk_536
  · exact zk_538
  · exact zk_540
  · exact zk_542
  · exact zk_544
  · exact zk_546
  · exact zk_548
theorem zin_X12 : ∀ w ∈ u_ws RX12 TX12 50, w ∈ zTT := by
  intro w h
  obtain ⟨k, hk, rfl⟩ := List.mem_map.mp h
  have hk := List.mem_range.mp hk
  rcases (show k = 0 ∨ k = 1 ∨ k = 2 ∨ k = 3 ∨ k = 4 ∨ k = 5 ∨ k = 6 ∨ k = 7 ∨ k = 8 ∨ k = 9 ∨ k = 10 ∨ k = 11 ∨ k = 12 ∨ k = 13 ∨ k = 14 ∨ k = 15 ∨ k = 16 ∨ k = 17 ∨ k = 18 ∨ k = 19 ∨ k = 20 ∨ k = 21 ∨ k = 22 ∨ k = 23 ∨ k = 24 ∨ k = 25 ∨ k = 26 ∨ k = 27 ∨ k = 28 ∨ k = 29 ∨ k = 30 ∨ k = 31 ∨ k = 32 ∨ k = 33 ∨ k = 34 ∨ k = 35 ∨ k = 36 ∨ k = 37 ∨ k = 38 ∨ k = 39 ∨ k = 40 ∨ k = 41 ∨ k = 42 ∨ k = 43 ∨ k = 44 ∨ k = 45 ∨ k = 46 ∨ k = 47 ∨ k = 48 ∨ k = 49 by omega) with rfl | rfl | rfl | rfl | rfl | rfl | rfl | rfl | rfl | rfl | rfl | rfl | rfl | rfl | rfl | rfl | rfl | rfl | rfl | rfl | rfl | rfl | rfl | rfl | rfl | rfl | rfl | rfl | rfl | rfl | rfl | rfl | rfl | rfl | rfl | rfl | rfl | rfl | rfl | rfl | rfl | rfl | rfl | rfl | rfl | rfl | rfl | rfl | rfl | rfl
  · exact zk_1397
  · exact zk_1399
  · exact zk_1401
  · exact zk_1403
  · exact zk_1405
  · exact zk_1407
  · exact zk_1409
  · exact zk_1411
  · exact zk_1413
  · exact zk_1415
  · exact zk_1417
  · exact zk_1419
  · exact zk_1421
  · exact zk_1423
  · exact zk_1425
  · exact zk_1427
  · exact zk_1429
  · exact zk_1431
  · exact zk_1433
  · exact zk_1435
  · exact zk_1437
  · exact zk_1439
  · exact zk_1441
  · exact zk_1443
  · exact zk_1445
  · exact zk_1447
  · exact zk_1449
  · exact zk_1451
  · exact zk_1453
  · exact zk_1455
  · exact zk_1457
  · exact zk_1459
  · exact zk_1461
  · exact zk_1463
  · exact zk_1465
  · exact zk_1467
  · exact zk_1469
  · exact zk_1471
  · exact zk_1473
  · exact zk_1475
  · exact zk_1477
  · exact zk_1479
  · exact zk_1481
  · exact zk_1483
  · exact zk_1485
  · exact zk_1487
  · exact zk_1489
  · exact zk_1491
  · exact zk_1493
  · exact zk_1495
theorem zy_J6_bitCount_0f7a4 : zYS yJ6_bitCount_0f7a4 RJ6 cJ6_bitCount_0f7a4 1 (some .int) 1 := ⟨zk_936, zk_935, zk_24, ⟨rfl, by decide +kernel, by decide +kernel, by decide +kernel⟩, by decide⟩
theorem zy_J9_floorMod_7cf53 : zYS yJ9_floorMod_7cf53 RJ9 cJ9_floorMod_7cf53 3 (some .int) 2 := ⟨zk_762, zk_761, zk_18, ⟨rfl, by decide +kernel, by decide +kernel, by decide +kernel⟩, by decide⟩
theorem zy_J9_max_7cf53 : zYS yJ9_max_7cf53 RJ9 cJ9_max_7cf53 2 (some .int) 2 := ⟨zk_1005, zk_1004, zk_18, ⟨rfl, by decide +kernel, by decide +kernel, by decide +kernel⟩, by decide⟩
theorem zy_J9_min_7cf53 : zYS yJ9_min_7cf53 RJ9 cJ9_min_7cf53 2 (some .int) 2 := ⟨zk_589, zk_588, zk_18, ⟨rfl, by decide +kernel, by decide +kernel, by decide +kernel⟩, by decide⟩
theorem zy_X11_put : zYS yX11_put RX11 cX11_put 3 (none) 3 := ⟨zk_656, zk_655, zk_1, ⟨rfl, by decide +kernel, by decide +kernel, by decide +kernel⟩, by decide⟩
theorem zy_X11_at : zYS yX11_at RX11 cX11_at 2 (some .int) 2 := ⟨zk_681, zk_680, zk_1, ⟨rfl, by decide +kernel, by decide +kernel, by decide +kernel⟩, by decide⟩
theorem zy_X8_goneByAll : zYV yX8_goneByAll RX8 cX8_goneByAll 3 (some .int) 0 := ⟨zk_814, zk_812, zk_813, zk_8, ⟨rfl, by decide +kernel, by decide +kernel, by decide +kernel⟩, by decide⟩
theorem zy_X0_tell : zYV yX0_tell RX0 cX0_tell 4 (none) 3 := ⟨zk_1130, zk_1128, zk_1129, zk_16, ⟨rfl, by decide +kernel, by decide +kernel, by decide +kernel⟩, by decide⟩
theorem zy_X0_addSign : zYV yX0_addSign RX0 cX0_addSign 2 (none) 1 := ⟨zk_1036, zk_1034, zk_1035, zk_16, ⟨rfl, by decide +kernel, by decide +kernel, by decide +kernel⟩, by decide⟩
theorem zy_X0_addName : zYV yX0_addName RX0 cX0_addName 5 (none) 1 := ⟨zk_1032, zk_1030, zk_1031, zk_16, ⟨rfl, by decide +kernel, by decide +kernel, by decide +kernel⟩, by decide⟩
theorem zy_X9_signAt : zYV yX9_signAt RX9 cX9_signAt 2 (some .int) 1 := ⟨zk_593, zk_591, zk_592, zk_2, ⟨rfl, by decide +kernel, by decide +kernel, by decide +kernel⟩, by decide⟩
theorem zy_X9_isBlank : zYS yX9_isBlank RX9 cX9_isBlank 1 (some .boolean) 1 := ⟨zk_596, zk_595, zk_2, ⟨rfl, by decide +kernel, by decide +kernel, by decide +kernel⟩, by decide⟩
theorem zy_X9_isTokenSign : zYS yX9_isTokenSign RX9 cX9_isTokenSign 1 (some .boolean) 1 := ⟨zk_599, zk_598, zk_2, ⟨rfl, by decide +kernel, by decide +kernel, by decide +kernel⟩, by decide⟩
theorem zy_X9_readRun : zYV yX9_readRun RX9 cX9_readRun 6 (some .int) 0 := ⟨zk_603, zk_602, zs_X9_readRun, zk_2, ⟨rfl, by decide +kernel, by decide +kernel, by decide +kernel⟩, by decide⟩
theorem zy_X11_placeOf : zYS yX11_placeOf RX11 cX11_placeOf 5 (some .int) 3 := ⟨zk_606, zk_605, zk_1, ⟨rfl, by decide +kernel, by decide +kernel, by decide +kernel⟩, by decide⟩
theorem zy_X9_advance : zYV yX9_advance RX9 cX9_advance 3 (none) 0 := ⟨zk_586, zk_584, zk_585, zk_2, ⟨rfl, by decide +kernel, by decide +kernel, by decide +kernel⟩, by decide⟩
theorem zy_X9_start : zYV yX9_start RX9 cX9_start 2 (none) 1 := ⟨zk_582, zk_580, zk_581, zk_2, ⟨rfl, by decide +kernel, by decide +kernel, by decide +kernel⟩, by decide⟩
theorem zy_X9_failAt : zYV yX9_failAt RX9 cX9_failAt 3 (none) 2 := ⟨zk_618, zk_616, zk_617, zk_2, ⟨rfl, by decide +kernel, by decide +kernel, by decide +kernel⟩, by decide⟩
theorem zy_X9_fail : zYV yX9_fail RX9 cX9_fail 2 (none) 1 := ⟨zk_614, zk_612, zk_613, zk_2, ⟨rfl, by decide +kernel, by decide +kernel, by decide +kernel⟩, by decide⟩
theorem zy_X9_goesOn : zYV yX9_goesOn RX9 cX9_goesOn 1 (some .boolean) 0 := ⟨zk_610, zk_608, zk_609, zk_2, ⟨rfl, by decide +kernel, by decide +kernel, by decide +kernel⟩, by decide⟩
theorem zy_X9_isWord : zYV yX9_isWord RX9 cX9_isWord 2 (some .boolean) 1 := ⟨zk_1093, zk_1091, zk_1092, zk_2, ⟨rfl, by decide +kernel, by decide +kernel, by decide +kernel⟩, by decide⟩
theorem zy_X9_needNumber : zYV yX9_needNumber RX9 cX9_needNumber 4 (some .int) 2 := ⟨zk_628, zk_626, zk_627, zk_2, ⟨rfl, by decide +kernel, by decide +kernel, by decide +kernel⟩, by decide⟩
theorem zy_X1_addLine : zYV yX1_addLine RX1 cX1_addLine 4 (none) 3 := ⟨zk_1101, zk_1100, zs_X1_addLine, zk_11, ⟨rfl, by decide +kernel, by decide +kernel, by decide +kernel⟩, by decide⟩
theorem zy_X9_takesWord : zYV yX9_takesWord RX9 cX9_takesWord 3 (some .boolean) 1 := ⟨zk_1110, zk_1108, zk_1109, zk_2, ⟨rfl, by decide +kernel, by decide +kernel, by decide +kernel⟩, by decide⟩
theorem zy_X11_isSide : zYS yX11_isSide RX11 cX11_isSide 1 (some .boolean) 1 := ⟨zk_692, zk_691, zk_1, ⟨rfl, by decide +kernel, by decide +kernel, by decide +kernel⟩, by decide⟩
theorem zy_X9_needSide : zYV yX9_needSide RX9 cX9_needSide 2 (some .int) 0 := ⟨zk_689, zk_687, zk_688, zk_2, ⟨rfl, by decide +kernel, by decide +kernel, by decide +kernel⟩, by decide⟩
theorem zy_X1_readLooker : zYV yX1_readLooker RX1 cX1_readLooker 2 (none) 1 := ⟨zk_1106, zk_1105, zs_X1_readLooker, zk_11, ⟨rfl, by decide +kernel, by decide +kernel, by decide +kernel⟩, by decide⟩
theorem zy_X1_readLine : zYV yX1_readLine RX1 cX1_readLine 5 (none) 0 := ⟨zk_1089, zk_1088, zs_X1_readLine, zk_11, ⟨rfl, by decide +kernel, by decide +kernel, by decide +kernel⟩, by decide⟩
theorem zy_X9_isSign : zYV yX9_isSign RX9 cX9_isSign 2 (some .boolean) 1 := ⟨zk_704, zk_702, zk_703, zk_2, ⟨rfl, by decide +kernel, by decide +kernel, by decide +kernel⟩, by decide⟩
theorem zy_X9_needSign : zYV yX9_needSign RX9 cX9_needSign 2 (none) 1 := ⟨zk_700, zk_698, zk_699, zk_2, ⟨rfl, by decide +kernel, by decide +kernel, by decide +kernel⟩, by decide⟩
theorem zy_X1_read : zYV yX1_read RX1 cX1_read 2 (none) 0 := ⟨zk_1083, zk_1081, zk_1082, zk_11, ⟨rfl, by decide +kernel, by decide +kernel, by decide +kernel⟩, by decide⟩
theorem zy_X8_turnTo : zYV yX8_turnTo RX8 cX8_turnTo 3 (some .int) 2 := ⟨zk_837, zk_835, zk_836, zk_8, ⟨rfl, by decide +kernel, by decide +kernel, by decide +kernel⟩, by decide⟩
theorem zy_X1_wrongBy : zYS yX1_wrongBy RX1 cX1_wrongBy 2 (some .int) 2 := ⟨zk_1122, zk_1121, zk_11, ⟨rfl, by decide +kernel, by decide +kernel, by decide +kernel⟩, by decide⟩
theorem zy_X2_beside : zYV yX2_beside RX2 cX2_beside 5 (some .int) 2 := ⟨zk_775, zk_773, zk_774, zk_7, ⟨rfl, by decide +kernel, by decide +kernel, by decide +kernel⟩, by decide⟩
theorem zy_X2_hasHedge : zYV yX2_hasHedge RX2 cX2_hasHedge 2 (some .boolean) 1 := ⟨zk_640, zk_638, zk_639, zk_7, ⟨rfl, by decide +kernel, by decide +kernel, by decide +kernel⟩, by decide⟩
theorem zy_X8_figureIn : zYV yX8_figureIn RX8 cX8_figureIn 3 (some .int) 1 := ⟨zk_648, zk_646, zk_647, zk_8, ⟨rfl, by decide +kernel, by decide +kernel, by decide +kernel⟩, by decide⟩
theorem zy_X8_lookerIn : zYV yX8_lookerIn RX8 cX8_lookerIn 3 (some .int) 1 := ⟨zk_652, zk_650, zk_651, zk_8, ⟨rfl, by decide +kernel, by decide +kernel, by decide +kernel⟩, by decide⟩
theorem zy_X8_hasSomebody : zYV yX8_hasSomebody RX8 cX8_hasSomebody 2 (some .boolean) 1 := ⟨zk_644, zk_642, zk_643, zk_8, ⟨rfl, by decide +kernel, by decide +kernel, by decide +kernel⟩, by decide⟩
theorem zy_X8_walkTo : zYV yX8_walkTo RX8 cX8_walkTo 4 (some .int) 2 := ⟨zk_854, zk_852, zk_853, zk_8, ⟨rfl, by decide +kernel, by decide +kernel, by decide +kernel⟩, by decide⟩
theorem zy_X8_setEyes : zYV yX8_setEyes RX8 cX8_setEyes 3 (some .int) 2 := ⟨zk_863, zk_861, zk_862, zk_8, ⟨rfl, by decide +kernel, by decide +kernel, by decide +kernel⟩, by decide⟩
theorem zy_X8_looks : zYV yX8_looks RX8 cX8_looks 3 (some .boolean) 1 := ⟨zk_759, zk_757, zk_758, zk_8, ⟨rfl, by decide +kernel, by decide +kernel, by decide +kernel⟩, by decide⟩
theorem zy_X8_isInSight : zYV yX8_isInSight RX8 cX8_isInSight 7 (some .boolean) 3 := ⟨zk_770, zk_768, zk_769, zk_8, ⟨rfl, by decide +kernel, by decide +kernel, by decide +kernel⟩, by decide⟩
theorem zy_X8_seers : zYV yX8_seers RX8 cX8_seers 5 (some .int) 1 := ⟨zk_797, zk_795, zk_796, zk_8, ⟨rfl, by decide +kernel, by decide +kernel, by decide +kernel⟩, by decide⟩
theorem zy_X8_faceTo : zYV yX8_faceTo RX8 cX8_faceTo 3 (some .int) 2 := ⟨zk_879, zk_877, zk_878, zk_8, ⟨rfl, by decide +kernel, by decide +kernel, by decide +kernel⟩, by decide⟩
theorem zy_X11_divides : zYS yX11_divides RX11 cX11_divides 2 (some .boolean) 2 := ⟨zk_891, zk_890, zk_1, ⟨rfl, by decide +kernel, by decide +kernel, by decide +kernel⟩, by decide⟩
theorem zy_X8_canGo : zYV yX8_canGo RX8 cX8_canGo 3 (some .boolean) 1 := ⟨zk_806, zk_804, zk_805, zk_8, ⟨rfl, by decide +kernel, by decide +kernel, by decide +kernel⟩, by decide⟩
theorem zy_X8_goOrTurn : zYV yX8_goOrTurn RX8 cX8_goOrTurn 3 (none) 1 := ⟨zk_895, zk_893, zk_894, zk_8, ⟨rfl, by decide +kernel, by decide +kernel, by decide +kernel⟩, by decide⟩
theorem zy_X8_goHour : zYV yX8_goHour RX8 cX8_goHour 2 (none) 0 := ⟨zk_888, zk_886, zk_887, zk_8, ⟨rfl, by decide +kernel, by decide +kernel, by decide +kernel⟩, by decide⟩
theorem zy_X1_doLine : zYV yX1_doLine RX1 cX1_doLine 6 (some .int) 2 := ⟨zk_1117, zk_1115, zk_1116, zk_11, ⟨rfl, by decide +kernel, by decide +kernel, by decide +kernel⟩, by decide⟩
theorem zy_X11_fill : zYS yX11_fill RX11 cX11_fill 3 (none) 2 := ⟨zk_577, zk_576, zk_1, ⟨rfl, by decide +kernel, by decide +kernel, by decide +kernel⟩, by decide⟩
theorem zy_X2_clear : zYV yX2_clear RX2 cX2_clear 1 (none) 0 := ⟨zk_574, zk_572, zk_573, zk_7, ⟨rfl, by decide +kernel, by decide +kernel, by decide +kernel⟩, by decide⟩
theorem zy_X11_copyNames : zYS yX11_copyNames RX11 cX11_copyNames 2 (none) 2 := ⟨zk_722, zk_721, zk_1, ⟨rfl, by decide +kernel, by decide +kernel, by decide +kernel⟩, by decide⟩
theorem zy_X11_copy : zYS yX11_copy RX11 cX11_copy 2 (none) 2 := ⟨zk_729, zk_728, zk_1, ⟨rfl, by decide +kernel, by decide +kernel, by decide +kernel⟩, by decide⟩
theorem zy_X2_copyFrom : zYV yX2_copyFrom RX2 cX2_copyFrom 2 (none) 1 := ⟨zk_719, zk_717, zk_718, zk_7, ⟨rfl, by decide +kernel, by decide +kernel, by decide +kernel⟩, by decide⟩
theorem zy_X2_hasFigure : zYV yX2_hasFigure RX2 cX2_hasFigure 2 (some .boolean) 1 := ⟨zk_875, zk_873, zk_874, zk_7, ⟨rfl, by decide +kernel, by decide +kernel, by decide +kernel⟩, by decide⟩
theorem zy_X2_hasLooker : zYV yX2_hasLooker RX2 cX2_hasLooker 2 (some .boolean) 1 := ⟨zk_754, zk_752, zk_753, zk_7, ⟨rfl, by decide +kernel, by decide +kernel, by decide +kernel⟩, by decide⟩
theorem zy_X2_hasCell : zYV yX2_hasCell RX2 cX2_hasCell 3 (some .boolean) 2 := ⟨zk_783, zk_781, zk_782, zk_7, ⟨rfl, by decide +kernel, by decide +kernel, by decide +kernel⟩, by decide⟩
theorem zy_X2_isTold : zYV yX2_isTold RX2 cX2_isTold 3 (some .boolean) 1 := ⟨zk_668, zk_666, zk_667, zk_7, ⟨rfl, by decide +kernel, by decide +kernel, by decide +kernel⟩, by decide⟩
theorem zy_X3_readSize : zYV yX3_readSize RX3 cX3_readSize 1 (none) 0 := ⟨zk_622, zk_621, zs_X3_readSize, zk_10, ⟨rfl, by decide +kernel, by decide +kernel, by decide +kernel⟩, by decide⟩
theorem zy_X3_readCell : zYV yX3_readCell RX3 cX3_readCell 4 (some .int) 0 := ⟨zk_636, zk_635, zs_X3_readCell, zk_10, ⟨rfl, by decide +kernel, by decide +kernel, by decide +kernel⟩, by decide⟩
theorem zy_X3_readHedge : zYV yX3_readHedge RX3 cX3_readHedge 1 (none) 0 := ⟨zk_632, zk_631, zs_X3_readHedge, zk_10, ⟨rfl, by decide +kernel, by decide +kernel, by decide +kernel⟩, by decide⟩
theorem zy_X3_readNewName : zYV yX3_readNewName RX3 cX3_readNewName 3 (some .long) 0 := ⟨zk_664, zk_663, zs_X3_readNewName, zk_10, ⟨rfl, by decide +kernel, by decide +kernel, by decide +kernel⟩, by decide⟩
theorem zy_X11_putName : zYS yX11_putName RX11 cX11_putName 4 (none) 3 := ⟨zk_90, zk_89, zk_1, ⟨rfl, by decide +kernel, by decide +kernel, by decide +kernel⟩, by decide⟩
theorem zy_X3_readOwner : zYV yX3_readOwner RX3 cX3_readOwner 1 (none) 0 := ⟨zk_660, zk_659, zs_X3_readOwner, zk_10, ⟨rfl, by decide +kernel, by decide +kernel, by decide +kernel⟩, by decide⟩
theorem zy_X9_needNameOf : zYV yX9_needNameOf RX9 cX9_needNameOf 4 (some .int) 2 := ⟨zk_678, zk_676, zk_677, zk_2, ⟨rfl, by decide +kernel, by decide +kernel, by decide +kernel⟩, by decide⟩
theorem zy_X3_readLand : zYV yX3_readLand RX3 cX3_readLand 3 (none) 0 := ⟨zk_674, zk_673, zs_X3_readLand, zk_10, ⟨rfl, by decide +kernel, by decide +kernel, by decide +kernel⟩, by decide⟩
theorem zy_X3_readFigure : zYV yX3_readFigure RX3 cX3_readFigure 2 (none) 0 := ⟨zk_685, zk_684, zs_X3_readFigure, zk_10, ⟨rfl, by decide +kernel, by decide +kernel, by decide +kernel⟩, by decide⟩
theorem zy_X3_readLooker : zYV yX3_readLooker RX3 cX3_readLooker 3 (none) 0 := ⟨zk_696, zk_695, zs_X3_readLooker, zk_10, ⟨rfl, by decide +kernel, by decide +kernel, by decide +kernel⟩, by decide⟩
theorem zy_X8_landOf : zYV yX8_landOf RX8 cX8_landOf 4 (some .int) 1 := ⟨zk_715, zk_713, zk_714, zk_8, ⟨rfl, by decide +kernel, by decide +kernel, by decide +kernel⟩, by decide⟩
theorem zy_X8_begin : zYV yX8_begin RX8 cX8_begin 4 (none) 1 := ⟨zk_708, zk_706, zk_707, zk_8, ⟨rfl, by decide +kernel, by decide +kernel, by decide +kernel⟩, by decide⟩
theorem zy_X3_read : zYV yX3_read RX3 cX3_read 3 (some .int) 0 := ⟨zk_570, zk_568, zk_569, zk_10, ⟨rfl, by decide +kernel, by decide +kernel, by decide +kernel⟩, by decide⟩
theorem zy_X4_readCells : zYV yX4_readCells RX4 cX4_readCells 6 (some .boolean) 2 := ⟨zk_975, zk_973, zk_974, zk_15, ⟨rfl, by decide +kernel, by decide +kernel, by decide +kernel⟩, by decide⟩
theorem zy_X4_goAlone : zYV yX4_goAlone RX4 cX4_goAlone 8 (none) 2 := ⟨zk_987, zk_986, zs_X4_goAlone, zk_15, ⟨rfl, by decide +kernel, by decide +kernel, by decide +kernel⟩, by decide⟩
theorem zy_X4_isAsShown : zYV yX4_isAsShown RX4 cX4_isAsShown 3 (some .boolean) 1 := ⟨zk_994, zk_993, zs_X4_isAsShown, zk_15, ⟨rfl, by decide +kernel, by decide +kernel, by decide +kernel⟩, by decide⟩
theorem zy_X4_mostLeft : zYV yX4_mostLeft RX4 cX4_mostLeft 7 (some .int) 1 := ⟨zk_1002, zk_1001, zs_X4_mostLeft, zk_15, ⟨rfl, by decide +kernel, by decide +kernel, by decide +kernel⟩, by decide⟩
theorem zy_X4_bestHour : zYV yX4_bestHour RX4 cX4_bestHour 3 (some .int) 0 := ⟨zk_998, zk_997, zs_X4_bestHour, zk_15, ⟨rfl, by decide +kernel, by decide +kernel, by decide +kernel⟩, by decide⟩
theorem zy_X4_find : zYV yX4_find RX4 cX4_find 4 (some .int) 1 := ⟨zk_983, zk_981, zk_982, zk_15, ⟨rfl, by decide +kernel, by decide +kernel, by decide +kernel⟩, by decide⟩
theorem zy_X6_clear : zYV yX6_clear RX6 cX6_clear 1 (none) 0 := ⟨zk_738, zk_736, zk_737, zk_9, ⟨rfl, by decide +kernel, by decide +kernel, by decide +kernel⟩, by decide⟩
theorem zy_X6_copyFrom : zYV yX6_copyFrom RX6 cX6_copyFrom 2 (none) 1 := ⟨zk_1174, zk_1172, zk_1173, zk_9, ⟨rfl, by decide +kernel, by decide +kernel, by decide +kernel⟩, by decide⟩
theorem zy_X6_add : zYV yX6_add RX6 cX6_add 4 (none) 3 := ⟨zk_1161, zk_1159, zk_1160, zk_9, ⟨rfl, by decide +kernel, by decide +kernel, by decide +kernel⟩, by decide⟩
theorem zy_X6_compares : zYS yX6_compares RX6 cX6_compares 3 (some .boolean) 3 := ⟨zk_1193, zk_1192, zk_9, ⟨rfl, by decide +kernel, by decide +kernel, by decide +kernel⟩, by decide⟩
theorem zy_X6_isSo : zYV yX6_isSo RX6 cX6_isSo 6 (some .boolean) 3 := ⟨zk_1188, zk_1187, zs_X6_isSo, zk_9, ⟨rfl, by decide +kernel, by decide +kernel, by decide +kernel⟩, by decide⟩
theorem zy_X6_holds : zYV yX6_holds RX6 cX6_holds 7 (some .boolean) 2 := ⟨zk_1183, zk_1181, zk_1182, zk_9, ⟨rfl, by decide +kernel, by decide +kernel, by decide +kernel⟩, by decide⟩
theorem zy_X7_readSign : zYV yX7_readSign RX7 cX7_readSign 2 (some .int) 0 := ⟨zk_1167, zk_1166, zs_X7_readSign, zk_12, ⟨rfl, by decide +kernel, by decide +kernel, by decide +kernel⟩, by decide⟩
theorem zy_X8_copyFrom : zYV yX8_copyFrom RX8 cX8_copyFrom 2 (none) 1 := ⟨zk_733, zk_731, zk_732, zk_8, ⟨rfl, by decide +kernel, by decide +kernel, by decide +kernel⟩, by decide⟩
theorem zy_X8_sight : zYV yX8_sight RX8 cX8_sight 5 (some .int) 2 := ⟨zk_766, zk_764, zk_765, zk_8, ⟨rfl, by decide +kernel, by decide +kernel, by decide +kernel⟩, by decide⟩
theorem zy_X8_nextSeed : zYS yX8_nextSeed RX8 cX8_nextSeed 1 (some .int) 1 := ⟨zk_1062, zk_1061, zk_8, ⟨rfl, by decide +kernel, by decide +kernel, by decide +kernel⟩, by decide⟩
theorem zy_X8_goDrawnHour : zYV yX8_goDrawnHour RX8 cX8_goDrawnHour 5 (some .int) 1 := ⟨zk_1059, zk_1057, zk_1058, zk_8, ⟨rfl, by decide +kernel, by decide +kernel, by decide +kernel⟩, by decide⟩
theorem zy_X9_add : zYV yX9_add RX9 cX9_add 3 (none) 1 := ⟨zk_558, zk_556, zk_557, zk_2, ⟨rfl, by decide +kernel, by decide +kernel, by decide +kernel⟩, by decide⟩
theorem zy_X10_clear : zYV yX10_clear RX10 cX10_clear 1 (none) 0 := ⟨zk_742, zk_740, zk_741, zk_13, ⟨rfl, by decide +kernel, by decide +kernel, by decide +kernel⟩, by decide⟩
theorem zy_X10_stateIn : zYV yX10_stateIn RX10 cX10_stateIn 2 (some (.object "SeenToMove$State")) 1 := ⟨zk_832, zk_831, zs_X10_stateIn, zk_13, ⟨rfl, by decide +kernel, by decide +kernel, by decide +kernel⟩, by decide⟩
theorem zy_X10_hold : zYV yX10_hold RX10 cX10_hold 3 (none) 1 := ⟨zk_828, zk_826, zk_827, zk_13, ⟨rfl, by decide +kernel, by decide +kernel, by decide +kernel⟩, by decide⟩
theorem zy_X10_keep : zYV yX10_keep RX10 cX10_keep 1 (none) 0 := ⟨zk_845, zk_843, zk_844, zk_13, ⟨rfl, by decide +kernel, by decide +kernel, by decide +kernel⟩, by decide⟩
theorem zy_X10_giveBack : zYV yX10_giveBack RX10 cX10_giveBack 4 (some .int) 1 := ⟨zk_908, zk_906, zk_907, zk_13, ⟨rfl, by decide +kernel, by decide +kernel, by decide +kernel⟩, by decide⟩
theorem zy_X11_feed : zYV yX11_feed RX11 cX11_feed 6 (some .int) 5 := ⟨zk_554, zk_552, zk_553, zk_1, ⟨rfl, by decide +kernel, by decide +kernel, by decide +kernel⟩, by decide⟩
theorem zy_X11_end : zYV yX11_end RX11 cX11_end 2 (some .boolean) 1 := ⟨zk_562, zk_560, zk_561, zk_1, ⟨rfl, by decide +kernel, by decide +kernel, by decide +kernel⟩, by decide⟩
theorem zy_X11_field : zYV yX11_field RX11 cX11_field 2 (some .int) 0 := ⟨zk_566, zk_564, zk_565, zk_1, ⟨rfl, by decide +kernel, by decide +kernel, by decide +kernel⟩, by decide⟩
theorem zy_X11_fault : zYV yX11_fault RX11 cX11_fault 1 (some .int) 0 := ⟨zk_746, zk_744, zk_745, zk_1, ⟨rfl, by decide +kernel, by decide +kernel, by decide +kernel⟩, by decide⟩
theorem zy_X11_looker : zYV yX11_looker RX11 cX11_looker 3 (some .int) 2 := ⟨zk_750, zk_748, zk_749, zk_1, ⟨rfl, by decide +kernel, by decide +kernel, by decide +kernel⟩, by decide⟩
theorem zy_X11_cell : zYV yX11_cell RX11 cX11_cell 5 (some .int) 3 := ⟨zk_779, zk_777, zk_778, zk_1, ⟨rfl, by decide +kernel, by decide +kernel, by decide +kernel⟩, by decide⟩
theorem zy_X11_seenFigures : zYV yX11_seenFigures RX11 cX11_seenFigures 3 (some .int) 0 := ⟨zk_793, zk_792, zs_X11_seenFigures, zk_1, ⟨rfl, by decide +kernel, by decide +kernel, by decide +kernel⟩, by decide⟩
theorem zy_X11_freeFigures : zYV yX11_freeFigures RX11 cX11_freeFigures 3 (some .int) 0 := ⟨zk_802, zk_801, zs_X11_freeFigures, zk_1, ⟨rfl, by decide +kernel, by decide +kernel, by decide +kernel⟩, by decide⟩
theorem zy_X11_lookingLookers : zYV yX11_lookingLookers RX11 cX11_lookingLookers 3 (some .int) 0 := ⟨zk_810, zk_809, zs_X11_lookingLookers, zk_1, ⟨rfl, by decide +kernel, by decide +kernel, by decide +kernel⟩, by decide⟩
theorem zy_X11_now : zYV yX11_now RX11 cX11_now 2 (some .int) 1 := ⟨zk_789, zk_787, zk_788, zk_1, ⟨rfl, by decide +kernel, by decide +kernel, by decide +kernel⟩, by decide⟩
theorem zy_X11_land : zYV yX11_land RX11 cX11_land 2 (some .int) 1 := ⟨zk_818, zk_816, zk_817, zk_1, ⟨rfl, by decide +kernel, by decide +kernel, by decide +kernel⟩, by decide⟩
theorem zy_X11_keepIfDone : zYV yX11_keepIfDone RX11 cX11_keepIfDone 2 (some .int) 1 := ⟨zk_841, zk_840, zs_X11_keepIfDone, zk_1, ⟨rfl, by decide +kernel, by decide +kernel, by decide +kernel⟩, by decide⟩
theorem zy_X11_turn : zYV yX11_turn RX11 cX11_turn 3 (some .int) 2 := ⟨zk_823, zk_821, zk_822, zk_1, ⟨rfl, by decide +kernel, by decide +kernel, by decide +kernel⟩, by decide⟩
theorem zy_X11_walk : zYV yX11_walk RX11 cX11_walk 3 (some .int) 2 := ⟨zk_850, zk_848, zk_849, zk_1, ⟨rfl, by decide +kernel, by decide +kernel, by decide +kernel⟩, by decide⟩
theorem zy_X11_shut : zYV yX11_shut RX11 cX11_shut 2 (some .int) 1 := ⟨zk_859, zk_857, zk_858, zk_1, ⟨rfl, by decide +kernel, by decide +kernel, by decide +kernel⟩, by decide⟩
theorem zy_X11_open : zYV yX11_open RX11 cX11_open 2 (some .int) 1 := ⟨zk_867, zk_865, zk_866, zk_1, ⟨rfl, by decide +kernel, by decide +kernel, by decide +kernel⟩, by decide⟩
theorem zy_X11_face : zYV yX11_face RX11 cX11_face 3 (some .int) 2 := ⟨zk_871, zk_869, zk_870, zk_1, ⟨rfl, by decide +kernel, by decide +kernel, by decide +kernel⟩, by decide⟩
theorem zy_X11_keepIfGone : zYV yX11_keepIfGone RX11 cX11_keepIfGone 2 (some .int) 1 := ⟨zk_900, zk_899, zs_X11_keepIfGone, zk_1, ⟨rfl, by decide +kernel, by decide +kernel, by decide +kernel⟩, by decide⟩
theorem zy_X11_hours : zYV yX11_hours RX11 cX11_hours 4 (some .int) 1 := ⟨zk_884, zk_882, zk_883, zk_1, ⟨rfl, by decide +kernel, by decide +kernel, by decide +kernel⟩, by decide⟩
theorem zy_X11_undo : zYV yX11_undo RX11 cX11_undo 1 (some .int) 0 := ⟨zk_904, zk_902, zk_903, zk_1, ⟨rfl, by decide +kernel, by decide +kernel, by decide +kernel⟩, by decide⟩
theorem zy_X11_where : zYV yX11_where RX11 cX11_where 4 (some .int) 2 := ⟨zk_912, zk_910, zk_911, zk_1, ⟨rfl, by decide +kernel, by decide +kernel, by decide +kernel⟩, by decide⟩
theorem zy_X11_comes : zYV yX11_comes RX11 cX11_comes 6 (some .int) 3 := ⟨zk_916, zk_914, zk_915, zk_1, ⟨rfl, by decide +kernel, by decide +kernel, by decide +kernel⟩, by decide⟩
theorem zy_X11_markSights : zYV yX11_markSights RX11 cX11_markSights 5 (none) 1 := ⟨zk_924, zk_923, zs_X11_markSights, zk_1, ⟨rfl, by decide +kernel, by decide +kernel, by decide +kernel⟩, by decide⟩
theorem zy_X11_digit : zYV yX11_digit RX11 cX11_digit 3 (some .int) 2 := ⟨zk_933, zk_932, zs_X11_digit, zk_1, ⟨rfl, by decide +kernel, by decide +kernel, by decide +kernel⟩, by decide⟩
theorem zy_X11_sightsOf : zYV yX11_sightsOf RX11 cX11_sightsOf 4 (some .int) 1 := ⟨zk_929, zk_928, zs_X11_sightsOf, zk_1, ⟨rfl, by decide +kernel, by decide +kernel, by decide +kernel⟩, by decide⟩
theorem zy_X11_cover : zYV yX11_cover RX11 cX11_cover 5 (some .int) 0 := ⟨zk_920, zk_918, zk_919, zk_1, ⟨rfl, by decide +kernel, by decide +kernel, by decide +kernel⟩, by decide⟩
theorem zy_X11_coverBy : zYV yX11_coverBy RX11 cX11_coverBy 2 (some .int) 1 := ⟨zk_943, zk_941, zk_942, zk_1, ⟨rfl, by decide +kernel, by decide +kernel, by decide +kernel⟩, by decide⟩
theorem zy_X11_couldSeeAll : zYV yX11_couldSeeAll RX11 cX11_couldSeeAll 8 (some .boolean) 1 := ⟨zk_951, zk_950, zs_X11_couldSeeAll, zk_1, ⟨rfl, by decide +kernel, by decide +kernel, by decide +kernel⟩, by decide⟩
theorem zy_X11_few : zYV yX11_few RX11 cX11_few 3 (some .int) 0 := ⟨zk_947, zk_945, zk_946, zk_1, ⟨rfl, by decide +kernel, by decide +kernel, by decide +kernel⟩, by decide⟩
theorem zy_X11_fewest : zYV yX11_fewest RX11 cX11_fewest 1 (some .int) 0 := ⟨zk_955, zk_953, zk_954, zk_1, ⟨rfl, by decide +kernel, by decide +kernel, by decide +kernel⟩, by decide⟩
theorem zy_X11_comesBlind : zYV yX11_comesBlind RX11 cX11_comesBlind 6 (some .boolean) 4 := ⟨zk_963, zk_962, zs_X11_comesBlind, zk_1, ⟨rfl, by decide +kernel, by decide +kernel, by decide +kernel⟩, by decide⟩
theorem zy_X11_blind : zYV yX11_blind RX11 cX11_blind 7 (some .int) 4 := ⟨zk_959, zk_957, zk_958, zk_1, ⟨rfl, by decide +kernel, by decide +kernel, by decide +kernel⟩, by decide⟩
theorem zy_X11_blinded : zYV yX11_blinded RX11 cX11_blinded 1 (some .int) 0 := ⟨zk_967, zk_965, zk_966, zk_1, ⟨rfl, by decide +kernel, by decide +kernel, by decide +kernel⟩, by decide⟩
theorem zy_X11_fits : zYV yX11_fits RX11 cX11_fits 2 (some .int) 0 := ⟨zk_971, zk_969, zk_970, zk_1, ⟨rfl, by decide +kernel, by decide +kernel, by decide +kernel⟩, by decide⟩
theorem zy_X11_fitsAt : zYV yX11_fitsAt RX11 cX11_fitsAt 2 (some .int) 1 := ⟨zk_1009, zk_1007, zk_1008, zk_1, ⟨rfl, by decide +kernel, by decide +kernel, by decide +kernel⟩, by decide⟩
theorem zy_X11_ask : zYV yX11_ask RX11 cX11_ask 1 (some .int) 0 := ⟨zk_1013, zk_1011, zk_1012, zk_1, ⟨rfl, by decide +kernel, by decide +kernel, by decide +kernel⟩, by decide⟩
theorem zy_X11_grown : zYV yX11_grown RX11 cX11_grown 5 (some .int) 0 := ⟨zk_1017, zk_1015, zk_1016, zk_1, ⟨rfl, by decide +kernel, by decide +kernel, by decide +kernel⟩, by decide⟩
theorem zy_X11_farthest : zYV yX11_farthest RX11 cX11_farthest 3 (some .int) 0 := ⟨zk_1021, zk_1019, zk_1020, zk_1, ⟨rfl, by decide +kernel, by decide +kernel, by decide +kernel⟩, by decide⟩
theorem zy_X11_commonDivisor : zYS yX11_commonDivisor RX11 cX11_commonDivisor 6 (some .int) 2 := ⟨zk_1293, zk_1292, zk_1, ⟨rfl, by decide +kernel, by decide +kernel, by decide +kernel⟩, by decide⟩
theorem zy_X11_byteAt : zYV yX11_byteAt RX11 cX11_byteAt 2 (some .int) 1 := ⟨zk_1051, zk_1049, zk_1050, zk_1, ⟨rfl, by decide +kernel, by decide +kernel, by decide +kernel⟩, by decide⟩
theorem zy_X11_drawn : zYV yX11_drawn RX11 cX11_drawn 6 (some .int) 2 := ⟨zk_1055, zk_1053, zk_1054, zk_1, ⟨rfl, by decide +kernel, by decide +kernel, by decide +kernel⟩, by decide⟩
theorem zy_X11_goesDrawn : zYV yX11_goesDrawn RX11 cX11_goesDrawn 5 (some .boolean) 2 := ⟨zk_1075, zk_1074, zs_X11_goesDrawn, zk_1, ⟨rfl, by decide +kernel, by decide +kernel, by decide +kernel⟩, by decide⟩
theorem zy_X11_odds : zYV yX11_odds RX11 cX11_odds 6 (some .int) 3 := ⟨zk_1071, zk_1069, zk_1070, zk_1, ⟨rfl, by decide +kernel, by decide +kernel, by decide +kernel⟩, by decide⟩
theorem zy_X11_book : zYV yX11_book RX11 cX11_book 5 (some .int) 1 := ⟨zk_1079, zk_1077, zk_1078, zk_1, ⟨rfl, by decide +kernel, by decide +kernel, by decide +kernel⟩, by decide⟩
theorem zy_X11_told : zYV yX11_told RX11 cX11_told 2 (some .int) 1 := ⟨zk_1135, zk_1133, zk_1134, zk_1, ⟨rfl, by decide +kernel, by decide +kernel, by decide +kernel⟩, by decide⟩
theorem zy_X11_said : zYV yX11_said RX11 cX11_said 4 (some .int) 1 := ⟨zk_1179, zk_1177, zk_1178, zk_1, ⟨rfl, by decide +kernel, by decide +kernel, by decide +kernel⟩, by decide⟩
theorem zy_X11_imageIn : zYV yX11_imageIn RX11 cX11_imageIn 2 (some (.object "SeenToMove$Image")) 1 := ⟨zk_1201, zk_1200, zs_X11_imageIn, zk_1, ⟨rfl, by decide +kernel, by decide +kernel, by decide +kernel⟩, by decide⟩
theorem zy_X11_image : zYV yX11_image RX11 cX11_image 3 (some .boolean) 1 := ⟨zk_1197, zk_1195, zk_1196, zk_1, ⟨rfl, by decide +kernel, by decide +kernel, by decide +kernel⟩, by decide⟩
theorem zy_X11_restore : zYV yX11_restore RX11 cX11_restore 3 (some .boolean) 1 := ⟨zk_1205, zk_1203, zk_1204, zk_1, ⟨rfl, by decide +kernel, by decide +kernel, by decide +kernel⟩, by decide⟩
theorem zy_X11_count : zYV yX11_count RX11 cX11_count 2 (some .int) 1 := ⟨zk_1209, zk_1207, zk_1208, zk_1, ⟨rfl, by decide +kernel, by decide +kernel, by decide +kernel⟩, by decide⟩
theorem zy_X11_nameAt : zYS yX11_nameAt RX11 cX11_nameAt 2 (some .long) 2 := ⟨zk_1028, zk_1027, zk_1, ⟨rfl, by decide +kernel, by decide +kernel, by decide +kernel⟩, by decide⟩
theorem zy_X12_thrown : zYV yX12_thrown RX12 cX12_thrown 1 (some .int) 0 := ⟨zk_1297, zk_1295, zk_1296, zk_17, ⟨rfl, by decide +kernel, by decide +kernel, by decide +kernel⟩, by decide⟩
theorem zy_X12_throwsIf : zYV yX12_throwsIf RX12 cX12_throwsIf 2 (some .boolean) 1 := ⟨zk_1631, zk_1630, zs_X12_throwsIf, zk_17, ⟨rfl, by decide +kernel, by decide +kernel, by decide +kernel⟩, by decide⟩
theorem zy_X12_four : zYV yX12_four RX12 cX12_four 3 (none) 1 := ⟨zk_1306, zk_1304, zs_X12_four, zk_17, ⟨rfl, by decide +kernel, by decide +kernel, by decide +kernel⟩, by decide⟩
theorem zy_X12_feed : zYV yX12_feed RX12 cX12_feed 6 (some .int) 5 := ⟨zk_1301, zk_1299, zk_1300, zk_17, ⟨rfl, by decide +kernel, by decide +kernel, by decide +kernel⟩, by decide⟩
theorem zy_X12_end : zYV yX12_end RX12 cX12_end 2 (some .boolean) 1 := ⟨zk_1310, zk_1308, zk_1309, zk_17, ⟨rfl, by decide +kernel, by decide +kernel, by decide +kernel⟩, by decide⟩
theorem zy_X12_taken : zYV yX12_taken RX12 cX12_taken 2 (none) 1 := ⟨zk_1506, zk_1505, zs_X12_taken, zk_17, ⟨rfl, by decide +kernel, by decide +kernel, by decide +kernel⟩, by decide⟩
theorem zy_X12_isIn : zYS yX12_isIn RX12 cX12_isIn 3 (some .boolean) 3 := ⟨zk_1547, zk_1546, zk_17, ⟨rfl, by decide +kernel, by decide +kernel, by decide +kernel⟩, by decide⟩
theorem zy_X12_bitOf : zYS yX12_bitOf RX12 cX12_bitOf 2 (some .boolean) 2 := ⟨zk_1650, zk_1649, zk_17, ⟨rfl, by decide +kernel, by decide +kernel, by decide +kernel⟩, by decide⟩
theorem zy_X12_greater : zYS yX12_greater RX12 cX12_greater 2 (some .int) 2 := ⟨zk_1839, zk_1838, zk_17, ⟨rfl, by decide +kernel, by decide +kernel, by decide +kernel⟩, by decide⟩
theorem zy_X12_bits : zYS yX12_bits RX12 cX12_bits 3 (some .int) 1 := ⟨zk_1781, zk_1780, zk_17, ⟨rfl, by decide +kernel, by decide +kernel, by decide +kernel⟩, by decide⟩
theorem zy_X12_octet : zYV yX12_octet RX12 cX12_octet 2 (some .int) 1 := ⟨zk_1820, zk_1819, zs_X12_octet, zk_17, ⟨rfl, by decide +kernel, by decide +kernel, by decide +kernel⟩, by decide⟩
theorem zy_X12_clears : zYV yX12_clears RX12 cX12_clears 2 (none) 0 := ⟨zk_1346, zk_1345, zs_X12_clears, zk_17, ⟨rfl, by decide +kernel, by decide +kernel, by decide +kernel⟩, by decide⟩
theorem zy_X12_peek : zYV yX12_peek RX12 cX12_peek 1 (some .int) 0 := ⟨zk_1514, zk_1513, zs_X12_peek, zk_17, ⟨rfl, by decide +kernel, by decide +kernel, by decide +kernel⟩, by decide⟩
theorem zy_X12_isSmall : zYS yX12_isSmall RX12 cX12_isSmall 1 (some .boolean) 1 := ⟨zk_1517, zk_1516, zk_17, ⟨rfl, by decide +kernel, by decide +kernel, by decide +kernel⟩, by decide⟩
theorem zy_X12_isDigit : zYS yX12_isDigit RX12 cX12_isDigit 1 (some .boolean) 1 := ⟨zk_1520, zk_1519, zk_17, ⟨rfl, by decide +kernel, by decide +kernel, by decide +kernel⟩, by decide⟩
theorem zy_X12_next : zYV yX12_next RX12 cX12_next 4 (none) 0 := ⟨zk_1510, zk_1509, zs_X12_next, zk_17, ⟨rfl, by decide +kernel, by decide +kernel, by decide +kernel⟩, by decide⟩
theorem zy_X12_bad : zYV yX12_bad RX12 cX12_bad 2 (some .boolean) 1 := ⟨zk_1536, zk_1535, zs_X12_bad, zk_17, ⟨rfl, by decide +kernel, by decide +kernel, by decide +kernel⟩, by decide⟩
theorem zy_X12_isWord : zYV yX12_isWord RX12 cX12_isWord 3 (some .boolean) 1 := ⟨zk_1528, zk_1527, zs_X12_isWord, zk_17, ⟨rfl, by decide +kernel, by decide +kernel, by decide +kernel⟩, by decide⟩
theorem zy_X12_isSign : zYV yX12_isSign RX12 cX12_isSign 2 (some .boolean) 1 := ⟨zk_1607, zk_1606, zs_X12_isSign, zk_17, ⟨rfl, by decide +kernel, by decide +kernel, by decide +kernel⟩, by decide⟩
theorem zy_X12_sign : zYV yX12_sign RX12 cX12_sign 2 (some .boolean) 1 := ⟨zk_1603, zk_1602, zs_X12_sign, zk_17, ⟨rfl, by decide +kernel, by decide +kernel, by decide +kernel⟩, by decide⟩
theorem zy_X12_isName : zYV yX12_isName RX12 cX12_isName 3 (some .boolean) 0 := ⟨zk_1567, zk_1566, zs_X12_isName, zk_17, ⟨rfl, by decide +kernel, by decide +kernel, by decide +kernel⟩, by decide⟩
theorem zy_X12_takes : zYV yX12_takes RX12 cX12_takes 3 (some .boolean) 2 := ⟨zk_1544, zk_1543, zs_X12_takes, zk_17, ⟨rfl, by decide +kernel, by decide +kernel, by decide +kernel⟩, by decide⟩
theorem zy_X12_puts : zYV yX12_puts RX12 cX12_puts 4 (some .boolean) 3 := ⟨zk_1540, zk_1539, zs_X12_puts, zk_17, ⟨rfl, by decide +kernel, by decide +kernel, by decide +kernel⟩, by decide⟩
theorem zy_X12_sideWord : zYV yX12_sideWord RX12 cX12_sideWord 1 (some .int) 0 := ⟨zk_1595, zk_1594, zs_X12_sideWord, zk_17, ⟨rfl, by decide +kernel, by decide +kernel, by decide +kernel⟩, by decide⟩
theorem zy_X12_takesSide : zYV yX12_takesSide RX12 cX12_takesSide 1 (some .boolean) 0 := ⟨zk_1591, zk_1590, zs_X12_takesSide, zk_17, ⟨rfl, by decide +kernel, by decide +kernel, by decide +kernel⟩, by decide⟩
theorem zy_X12_seek : zYV yX12_seek RX12 cX12_seek 4 (some .int) 2 := ⟨zk_1571, zk_1570, zs_X12_seek, zk_17, ⟨rfl, by decide +kernel, by decide +kernel, by decide +kernel⟩, by decide⟩
theorem zy_X12_fresh : zYV yX12_fresh RX12 cX12_fresh 2 (some .boolean) 1 := ⟨zk_1563, zk_1562, zs_X12_fresh, zk_17, ⟨rfl, by decide +kernel, by decide +kernel, by decide +kernel⟩, by decide⟩
theorem zy_X12_looksAt : zYV yX12_looksAt RX12 cX12_looksAt 3 (some .boolean) 2 := ⟨zk_1583, zk_1582, zs_X12_looksAt, zk_17, ⟨rfl, by decide +kernel, by decide +kernel, by decide +kernel⟩, by decide⟩
theorem zy_X12_takesName : zYV yX12_takesName RX12 cX12_takesName 3 (some .boolean) 2 := ⟨zk_1579, zk_1578, zs_X12_takesName, zk_17, ⟨rfl, by decide +kernel, by decide +kernel, by decide +kernel⟩, by decide⟩
theorem zy_X12_readField : zYV yX12_readField RX12 cX12_readField 1 (some .boolean) 0 := ⟨zk_1532, zk_1531, zs_X12_readField, zk_17, ⟨rfl, by decide +kernel, by decide +kernel, by decide +kernel⟩, by decide⟩
theorem zy_X12_takesCell : zYV yX12_takesCell RX12 cX12_takesCell 5 (some .boolean) 0 := ⟨zk_1555, zk_1554, zs_X12_takesCell, zk_17, ⟨rfl, by decide +kernel, by decide +kernel, by decide +kernel⟩, by decide⟩
theorem zy_X12_readHedge : zYV yX12_readHedge RX12 cX12_readHedge 1 (some .boolean) 0 := ⟨zk_1551, zk_1550, zs_X12_readHedge, zk_17, ⟨rfl, by decide +kernel, by decide +kernel, by decide +kernel⟩, by decide⟩
theorem zy_X12_readOwner : zYV yX12_readOwner RX12 cX12_readOwner 2 (some .boolean) 0 := ⟨zk_1559, zk_1558, zs_X12_readOwner, zk_17, ⟨rfl, by decide +kernel, by decide +kernel, by decide +kernel⟩, by decide⟩
theorem zy_X12_readLand : zYV yX12_readLand RX12 cX12_readLand 2 (some .boolean) 0 := ⟨zk_1575, zk_1574, zs_X12_readLand, zk_17, ⟨rfl, by decide +kernel, by decide +kernel, by decide +kernel⟩, by decide⟩
theorem zy_X12_readFigure : zYV yX12_readFigure RX12 cX12_readFigure 2 (some .boolean) 0 := ⟨zk_1587, zk_1586, zs_X12_readFigure, zk_17, ⟨rfl, by decide +kernel, by decide +kernel, by decide +kernel⟩, by decide⟩
theorem zy_X12_readLooker : zYV yX12_readLooker RX12 cX12_readLooker 2 (some .boolean) 0 := ⟨zk_1599, zk_1598, zs_X12_readLooker, zk_17, ⟨rfl, by decide +kernel, by decide +kernel, by decide +kernel⟩, by decide⟩
theorem zy_X12_readLine : zYV yX12_readLine RX12 cX12_readLine 1 (some .boolean) 0 := ⟨zk_1524, zk_1523, zs_X12_readLine, zk_17, ⟨rfl, by decide +kernel, by decide +kernel, by decide +kernel⟩, by decide⟩
theorem zy_X12_isCell : zYV yX12_isCell RX12 cX12_isCell 3 (some .boolean) 2 := ⟨zk_1615, zk_1614, zs_X12_isCell, zk_17, ⟨rfl, by decide +kernel, by decide +kernel, by decide +kernel⟩, by decide⟩
theorem zy_X12_firstOwner : zYV yX12_firstOwner RX12 cX12_firstOwner 3 (some .int) 1 := ⟨zk_1611, zk_1610, zs_X12_firstOwner, zk_17, ⟨rfl, by decide +kernel, by decide +kernel, by decide +kernel⟩, by decide⟩
theorem zy_X12_field : zYV yX12_field RX12 cX12_field 2 (some .int) 0 := ⟨zk_1502, zk_1500, zk_1501, zk_17, ⟨rfl, by decide +kernel, by decide +kernel, by decide +kernel⟩, by decide⟩
theorem zy_X12_fault : zYV yX12_fault RX12 cX12_fault 1 (some .int) 0 := ⟨zk_1619, zk_1617, zk_1618, zk_17, ⟨rfl, by decide +kernel, by decide +kernel, by decide +kernel⟩, by decide⟩
theorem zy_X12_isFigure : zYV yX12_isFigure RX12 cX12_isFigure 2 (some .boolean) 1 := ⟨zk_1627, zk_1626, zs_X12_isFigure, zk_17, ⟨rfl, by decide +kernel, by decide +kernel, by decide +kernel⟩, by decide⟩
theorem zy_X12_isLooker : zYV yX12_isLooker RX12 cX12_isLooker 2 (some .boolean) 1 := ⟨zk_1678, zk_1677, zs_X12_isLooker, zk_17, ⟨rfl, by decide +kernel, by decide +kernel, by decide +kernel⟩, by decide⟩
theorem zy_X12_figureAt : zYV yX12_figureAt RX12 cX12_figureAt 3 (some .int) 1 := ⟨zk_1658, zk_1657, zs_X12_figureAt, zk_17, ⟨rfl, by decide +kernel, by decide +kernel, by decide +kernel⟩, by decide⟩
theorem zy_X12_lookerAt : zYV yX12_lookerAt RX12 cX12_lookerAt 3 (some .int) 1 := ⟨zk_1670, zk_1669, zs_X12_lookerAt, zk_17, ⟨rfl, by decide +kernel, by decide +kernel, by decide +kernel⟩, by decide⟩
theorem zy_X12_beside : zYV yX12_beside RX12 cX12_beside 5 (some .int) 2 := ⟨zk_1662, zk_1661, zs_X12_beside, zk_17, ⟨rfl, by decide +kernel, by decide +kernel, by decide +kernel⟩, by decide⟩
theorem zy_X12_canGo : zYV yX12_canGo RX12 cX12_canGo 3 (some .boolean) 1 := ⟨zk_1666, zk_1665, zs_X12_canGo, zk_17, ⟨rfl, by decide +kernel, by decide +kernel, by decide +kernel⟩, by decide⟩
theorem zy_X12_figuresTo : zYV yX12_figuresTo RX12 cX12_figuresTo 5 (some .int) 2 := ⟨zk_1654, zk_1653, zs_X12_figuresTo, zk_17, ⟨rfl, by decide +kernel, by decide +kernel, by decide +kernel⟩, by decide⟩
theorem zy_X12_isShut : zYV yX12_isShut RX12 cX12_isShut 2 (some .boolean) 1 := ⟨zk_1647, zk_1646, zs_X12_isShut, zk_17, ⟨rfl, by decide +kernel, by decide +kernel, by decide +kernel⟩, by decide⟩
theorem zy_X12_isLooking : zYV yX12_isLooking RX12 cX12_isLooking 2 (some .boolean) 1 := ⟨zk_1643, zk_1642, zs_X12_isLooking, zk_17, ⟨rfl, by decide +kernel, by decide +kernel, by decide +kernel⟩, by decide⟩
theorem zy_X12_seesOf : zYV yX12_seesOf RX12 cX12_seesOf 2 (some .int) 1 := ⟨zk_1639, zk_1638, zs_X12_seesOf, zk_17, ⟨rfl, by decide +kernel, by decide +kernel, by decide +kernel⟩, by decide⟩
theorem zy_X12_seenBy : zYV yX12_seenBy RX12 cX12_seenBy 4 (some .int) 1 := ⟨zk_1635, zk_1634, zs_X12_seenBy, zk_17, ⟨rfl, by decide +kernel, by decide +kernel, by decide +kernel⟩, by decide⟩
theorem zy_X12_wentInAll : zYV yX12_wentInAll RX12 cX12_wentInAll 3 (some .int) 0 := ⟨zk_1690, zk_1689, zs_X12_wentInAll, zk_17, ⟨rfl, by decide +kernel, by decide +kernel, by decide +kernel⟩, by decide⟩
theorem zy_X12_landOf : zYV yX12_landOf RX12 cX12_landOf 4 (some .int) 1 := ⟨zk_1698, zk_1697, zs_X12_landOf, zk_17, ⟨rfl, by decide +kernel, by decide +kernel, by decide +kernel⟩, by decide⟩
theorem zy_X12_figure : zYV yX12_figure RX12 cX12_figure 3 (some .int) 2 := ⟨zk_1623, zk_1621, zk_1622, zk_17, ⟨rfl, by decide +kernel, by decide +kernel, by decide +kernel⟩, by decide⟩
theorem zy_X12_looker : zYV yX12_looker RX12 cX12_looker 3 (some .int) 2 := ⟨zk_1674, zk_1672, zk_1673, zk_17, ⟨rfl, by decide +kernel, by decide +kernel, by decide +kernel⟩, by decide⟩
theorem zy_X12_cell : zYV yX12_cell RX12 cX12_cell 5 (some .int) 3 := ⟨zk_1682, zk_1680, zk_1681, zk_17, ⟨rfl, by decide +kernel, by decide +kernel, by decide +kernel⟩, by decide⟩
theorem zy_X12_now : zYV yX12_now RX12 cX12_now 6 (some .int) 1 := ⟨zk_1686, zk_1684, zk_1685, zk_17, ⟨rfl, by decide +kernel, by decide +kernel, by decide +kernel⟩, by decide⟩
theorem zy_X12_land : zYV yX12_land RX12 cX12_land 2 (some .int) 1 := ⟨zk_1694, zk_1692, zk_1693, zk_17, ⟨rfl, by decide +kernel, by decide +kernel, by decide +kernel⟩, by decide⟩
theorem zy_X12_whyWalk : zYV yX12_whyWalk RX12 cX12_whyWalk 4 (some .int) 2 := ⟨zk_1714, zk_1713, zs_X12_whyWalk, zk_17, ⟨rfl, by decide +kernel, by decide +kernel, by decide +kernel⟩, by decide⟩
theorem zy_X12_whyFace : zYV yX12_whyFace RX12 cX12_whyFace 3 (some .int) 2 := ⟨zk_1734, zk_1733, zs_X12_whyFace, zk_17, ⟨rfl, by decide +kernel, by decide +kernel, by decide +kernel⟩, by decide⟩
theorem zy_X12_goes : zYV yX12_goes RX12 cX12_goes 2 (none) 1 := ⟨zk_1750, zk_1749, zs_X12_goes, zk_17, ⟨rfl, by decide +kernel, by decide +kernel, by decide +kernel⟩, by decide⟩
theorem zy_X12_hour : zYV yX12_hour RX12 cX12_hour 2 (none) 0 := ⟨zk_1746, zk_1745, zs_X12_hour, zk_17, ⟨rfl, by decide +kernel, by decide +kernel, by decide +kernel⟩, by decide⟩
theorem zy_X12_goesOn : zYV yX12_goesOn RX12 cX12_goesOn 3 (some .int) 1 := ⟨zk_1742, zk_1741, zs_X12_goesOn, zk_17, ⟨rfl, by decide +kernel, by decide +kernel, by decide +kernel⟩, by decide⟩
theorem zy_X12_keep : zYV yX12_keep RX12 cX12_keep 2 (none) 0 := ⟨zk_1706, zk_1705, zs_X12_keep, zk_17, ⟨rfl, by decide +kernel, by decide +kernel, by decide +kernel⟩, by decide⟩
theorem zy_X12_turn : zYV yX12_turn RX12 cX12_turn 3 (some .int) 2 := ⟨zk_1702, zk_1700, zk_1701, zk_17, ⟨rfl, by decide +kernel, by decide +kernel, by decide +kernel⟩, by decide⟩
theorem zy_X12_walk : zYV yX12_walk RX12 cX12_walk 4 (some .int) 2 := ⟨zk_1710, zk_1708, zk_1709, zk_17, ⟨rfl, by decide +kernel, by decide +kernel, by decide +kernel⟩, by decide⟩
theorem zy_X12_blinks : zYV yX12_blinks RX12 cX12_blinks 3 (some .int) 2 := ⟨zk_1722, zk_1721, zs_X12_blinks, zk_17, ⟨rfl, by decide +kernel, by decide +kernel, by decide +kernel⟩, by decide⟩
theorem zy_X12_shut : zYV yX12_shut RX12 cX12_shut 2 (some .int) 1 := ⟨zk_1718, zk_1716, zk_1717, zk_17, ⟨rfl, by decide +kernel, by decide +kernel, by decide +kernel⟩, by decide⟩
theorem zy_X12_open : zYV yX12_open RX12 cX12_open 2 (some .int) 1 := ⟨zk_1726, zk_1724, zk_1725, zk_17, ⟨rfl, by decide +kernel, by decide +kernel, by decide +kernel⟩, by decide⟩
theorem zy_X12_face : zYV yX12_face RX12 cX12_face 4 (some .int) 2 := ⟨zk_1730, zk_1728, zk_1729, zk_17, ⟨rfl, by decide +kernel, by decide +kernel, by decide +kernel⟩, by decide⟩
theorem zy_X12_hours : zYV yX12_hours RX12 cX12_hours 2 (some .int) 1 := ⟨zk_1738, zk_1736, zk_1737, zk_17, ⟨rfl, by decide +kernel, by decide +kernel, by decide +kernel⟩, by decide⟩
theorem zy_X12_undo : zYV yX12_undo RX12 cX12_undo 2 (some .int) 0 := ⟨zk_1754, zk_1752, zk_1753, zk_17, ⟨rfl, by decide +kernel, by decide +kernel, by decide +kernel⟩, by decide⟩
theorem zy_X12_tries : zYV yX12_tries RX12 cX12_tries 2 (none) 0 := ⟨zk_1762, zk_1761, zs_X12_tries, zk_17, ⟨rfl, by decide +kernel, by decide +kernel, by decide +kernel⟩, by decide⟩
theorem zy_X12_back : zYV yX12_back RX12 cX12_back 2 (none) 0 := ⟨zk_1766, zk_1765, zs_X12_back, zk_17, ⟨rfl, by decide +kernel, by decide +kernel, by decide +kernel⟩, by decide⟩
theorem zy_X12_where : zYV yX12_where RX12 cX12_where 4 (some .int) 2 := ⟨zk_1758, zk_1756, zk_1757, zk_17, ⟨rfl, by decide +kernel, by decide +kernel, by decide +kernel⟩, by decide⟩
theorem zy_X12_comesIn : zYV yX12_comesIn RX12 cX12_comesIn 7 (some .int) 4 := ⟨zk_1774, zk_1773, zs_X12_comesIn, zk_17, ⟨rfl, by decide +kernel, by decide +kernel, by decide +kernel⟩, by decide⟩
theorem zy_X12_comes : zYV yX12_comes RX12 cX12_comes 4 (some .int) 3 := ⟨zk_1770, zk_1768, zk_1769, zk_17, ⟨rfl, by decide +kernel, by decide +kernel, by decide +kernel⟩, by decide⟩
theorem zy_X12_blind : zYV yX12_blind RX12 cX12_blind 7 (some .int) 4 := ⟨zk_1778, zk_1776, zk_1777, zk_17, ⟨rfl, by decide +kernel, by decide +kernel, by decide +kernel⟩, by decide⟩
theorem zy_X12_blinded : zYV yX12_blinded RX12 cX12_blinded 1 (some .int) 0 := ⟨zk_1785, zk_1783, zk_1784, zk_17, ⟨rfl, by decide +kernel, by decide +kernel, by decide +kernel⟩, by decide⟩
theorem zy_X12_sideIn : zYS yX12_sideIn RX12 cX12_sideIn 2 (some .int) 2 := ⟨zk_1796, zk_1795, zk_17, ⟨rfl, by decide +kernel, by decide +kernel, by decide +kernel⟩, by decide⟩
theorem zy_X12_coveredBy : zYV yX12_coveredBy RX12 cX12_coveredBy 5 (some .int) 2 := ⟨zk_1793, zk_1792, zs_X12_coveredBy, zk_17, ⟨rfl, by decide +kernel, by decide +kernel, by decide +kernel⟩, by decide⟩
theorem zy_X12_cover : zYV yX12_cover RX12 cX12_cover 6 (some .int) 0 := ⟨zk_1789, zk_1787, zk_1788, zk_17, ⟨rfl, by decide +kernel, by decide +kernel, by decide +kernel⟩, by decide⟩
theorem zy_X12_coverBy : zYV yX12_coverBy RX12 cX12_coverBy 2 (some .int) 1 := ⟨zk_1800, zk_1798, zk_1799, zk_17, ⟨rfl, by decide +kernel, by decide +kernel, by decide +kernel⟩, by decide⟩
theorem zy_X12_isEnough : zYV yX12_isEnough RX12 cX12_isEnough 3 (some .boolean) 1 := ⟨zk_1808, zk_1807, zs_X12_isEnough, zk_17, ⟨rfl, by decide +kernel, by decide +kernel, by decide +kernel⟩, by decide⟩
theorem zy_X12_few : zYV yX12_few RX12 cX12_few 3 (some .int) 0 := ⟨zk_1804, zk_1802, zk_1803, zk_17, ⟨rfl, by decide +kernel, by decide +kernel, by decide +kernel⟩, by decide⟩
theorem zy_X12_fewest : zYV yX12_fewest RX12 cX12_fewest 1 (some .int) 0 := ⟨zk_1812, zk_1810, zk_1811, zk_17, ⟨rfl, by decide +kernel, by decide +kernel, by decide +kernel⟩, by decide⟩
theorem zy_X12_laysTrail : zYV yX12_laysTrail RX12 cX12_laysTrail 8 (none) 2 := ⟨zk_1828, zk_1827, zs_X12_laysTrail, zk_17, ⟨rfl, by decide +kernel, by decide +kernel, by decide +kernel⟩, by decide⟩
theorem zy_X12_cellTold : zYV yX12_cellTold RX12 cX12_cellTold 2 (some .int) 1 := ⟨zk_1824, zk_1823, zs_X12_cellTold, zk_17, ⟨rfl, by decide +kernel, by decide +kernel, by decide +kernel⟩, by decide⟩
theorem zy_X12_isFit : zYV yX12_isFit RX12 cX12_isFit 4 (some .boolean) 1 := ⟨zk_1832, zk_1831, zs_X12_isFit, zk_17, ⟨rfl, by decide +kernel, by decide +kernel, by decide +kernel⟩, by decide⟩
theorem zy_X12_leftBy : zYV yX12_leftBy RX12 cX12_leftBy 6 (some .int) 1 := ⟨zk_1836, zk_1835, zs_X12_leftBy, zk_17, ⟨rfl, by decide +kernel, by decide +kernel, by decide +kernel⟩, by decide⟩
theorem zy_X12_fits : zYV yX12_fits RX12 cX12_fits 3 (some .int) 0 := ⟨zk_1816, zk_1814, zk_1815, zk_17, ⟨rfl, by decide +kernel, by decide +kernel, by decide +kernel⟩, by decide⟩
theorem zy_X12_fitsAt : zYV yX12_fitsAt RX12 cX12_fitsAt 2 (some .int) 1 := ⟨zk_1843, zk_1841, zk_1842, zk_17, ⟨rfl, by decide +kernel, by decide +kernel, by decide +kernel⟩, by decide⟩
theorem zy_X12_ask : zYV yX12_ask RX12 cX12_ask 1 (some .int) 0 := ⟨zk_1847, zk_1845, zk_1846, zk_17, ⟨rfl, by decide +kernel, by decide +kernel, by decide +kernel⟩, by decide⟩
theorem zy_X12_firstLandOf : zYV yX12_firstLandOf RX12 cX12_firstLandOf 4 (some .int) 1 := ⟨zk_1856, zk_1855, zs_X12_firstLandOf, zk_17, ⟨rfl, by decide +kernel, by decide +kernel, by decide +kernel⟩, by decide⟩
theorem zy_X12_grown : zYV yX12_grown RX12 cX12_grown 5 (some .int) 0 := ⟨zk_1851, zk_1849, zk_1850, zk_17, ⟨rfl, by decide +kernel, by decide +kernel, by decide +kernel⟩, by decide⟩
theorem zy_X12_farthest : zYV yX12_farthest RX12 cX12_farthest 3 (some .int) 0 := ⟨zk_1860, zk_1858, zk_1859, zk_17, ⟨rfl, by decide +kernel, by decide +kernel, by decide +kernel⟩, by decide⟩
theorem zy_X12_mean : zYV yX12_mean RX12 cX12_mean 5 (some .int) 1 := ⟨zk_1864, zk_1862, zk_1863, zk_17, ⟨rfl, by decide +kernel, by decide +kernel, by decide +kernel⟩, by decide⟩
theorem zy_X12_lays : zYV yX12_lays RX12 cX12_lays 2 (none) 1 := ⟨zk_1877, zk_1876, zs_X12_lays, zk_17, ⟨rfl, by decide +kernel, by decide +kernel, by decide +kernel⟩, by decide⟩
theorem zy_X12_spells : zYV yX12_spells RX12 cX12_spells 4 (none) 1 := ⟨zk_1872, zk_1871, zs_X12_spells, zk_17, ⟨rfl, by decide +kernel, by decide +kernel, by decide +kernel⟩, by decide⟩
theorem zy_X12_says : zYV yX12_says RX12 cX12_says 3 (none) 1 := ⟨zk_1882, zk_1881, zs_X12_says, zk_17, ⟨rfl, by decide +kernel, by decide +kernel, by decide +kernel⟩, by decide⟩
theorem zy_X12_line : zYV yX12_line RX12 cX12_line 3 (some .int) 1 := ⟨zk_1868, zk_1866, zk_1867, zk_17, ⟨rfl, by decide +kernel, by decide +kernel, by decide +kernel⟩, by decide⟩
theorem zy_X12_byteAt : zYV yX12_byteAt RX12 cX12_byteAt 2 (some .int) 1 := ⟨zk_1887, zk_1885, zk_1886, zk_17, ⟨rfl, by decide +kernel, by decide +kernel, by decide +kernel⟩, by decide⟩
theorem zy_X12_draw : zYV yX12_draw RX12 cX12_draw 2 (some .int) 1 := ⟨zk_1903, zk_1902, zs_X12_draw, zk_17, ⟨rfl, by decide +kernel, by decide +kernel, by decide +kernel⟩, by decide⟩
theorem zy_X12_drawLooker : zYV yX12_drawLooker RX12 cX12_drawLooker 4 (none) 1 := ⟨zk_1899, zk_1898, zs_X12_drawLooker, zk_17, ⟨rfl, by decide +kernel, by decide +kernel, by decide +kernel⟩, by decide⟩
theorem zy_X12_draws : zYV yX12_draws RX12 cX12_draws 5 (some .int) 2 := ⟨zk_1895, zk_1894, zs_X12_draws, zk_17, ⟨rfl, by decide +kernel, by decide +kernel, by decide +kernel⟩, by decide⟩
theorem zy_X12_drawn : zYV yX12_drawn RX12 cX12_drawn 3 (some .int) 2 := ⟨zk_1891, zk_1889, zk_1890, zk_17, ⟨rfl, by decide +kernel, by decide +kernel, by decide +kernel⟩, by decide⟩
theorem zy_X12_odds : zYV yX12_odds RX12 cX12_odds 7 (some .int) 3 := ⟨zk_1908, zk_1906, zk_1907, zk_17, ⟨rfl, by decide +kernel, by decide +kernel, by decide +kernel⟩, by decide⟩
theorem zy_X12_bookLine : zYV yX12_bookLine RX12 cX12_bookLine 7 (some .boolean) 0 := ⟨zk_1916, zk_1915, zs_X12_bookLine, zk_17, ⟨rfl, by decide +kernel, by decide +kernel, by decide +kernel⟩, by decide⟩
theorem zy_X12_does : zYV yX12_does RX12 cX12_does 5 (some .int) 3 := ⟨zk_1920, zk_1919, zs_X12_does, zk_17, ⟨rfl, by decide +kernel, by decide +kernel, by decide +kernel⟩, by decide⟩
theorem zy_X12_book : zYV yX12_book RX12 cX12_book 4 (some .int) 1 := ⟨zk_1912, zk_1910, zk_1911, zk_17, ⟨rfl, by decide +kernel, by decide +kernel, by decide +kernel⟩, by decide⟩
theorem zy_X12_told : zYV yX12_told RX12 cX12_told 2 (some .int) 1 := ⟨zk_1924, zk_1922, zk_1923, zk_17, ⟨rfl, by decide +kernel, by decide +kernel, by decide +kernel⟩, by decide⟩
theorem zy_X12_code : zYV yX12_code RX12 cX12_code 4 (none) 3 := ⟨zk_1936, zk_1935, zs_X12_code, zk_17, ⟨rfl, by decide +kernel, by decide +kernel, by decide +kernel⟩, by decide⟩
theorem zy_X12_joins : zYV yX12_joins RX12 cX12_joins 2 (none) 1 := ⟨zk_1940, zk_1939, zs_X12_joins, zk_17, ⟨rfl, by decide +kernel, by decide +kernel, by decide +kernel⟩, by decide⟩
theorem zy_X12_nots : zYV yX12_nots RX12 cX12_nots 1 (none) 0 := ⟨zk_1932, zk_1931, zs_X12_nots, zk_17, ⟨rfl, by decide +kernel, by decide +kernel, by decide +kernel⟩, by decide⟩
theorem zy_X12_leafOf : zYV yX12_leafOf RX12 cX12_leafOf 1 (some .int) 0 := ⟨zk_1952, zk_1951, zs_X12_leafOf, zk_17, ⟨rfl, by decide +kernel, by decide +kernel, by decide +kernel⟩, by decide⟩
theorem zy_X12_operand : zYV yX12_operand RX12 cX12_operand 5 (some .boolean) 0 := ⟨zk_1948, zk_1947, zs_X12_operand, zk_17, ⟨rfl, by decide +kernel, by decide +kernel, by decide +kernel⟩, by decide⟩
theorem zy_X12_behind : zYV yX12_behind RX12 cX12_behind 1 (some .boolean) 0 := ⟨zk_1944, zk_1943, zs_X12_behind, zk_17, ⟨rfl, by decide +kernel, by decide +kernel, by decide +kernel⟩, by decide⟩
theorem zy_X12_sentence : zYV yX12_sentence RX12 cX12_sentence 3 (some .int) 0 := ⟨zk_1928, zk_1926, zk_1927, zk_17, ⟨rfl, by decide +kernel, by decide +kernel, by decide +kernel⟩, by decide⟩
theorem zy_X12_isLeaf : zYV yX12_isLeaf RX12 cX12_isLeaf 6 (some .boolean) 4 := ⟨zk_1964, zk_1963, zs_X12_isLeaf, zk_17, ⟨rfl, by decide +kernel, by decide +kernel, by decide +kernel⟩, by decide⟩
theorem zy_X12_isSaid : zYV yX12_isSaid RX12 cX12_isSaid 5 (some .boolean) 1 := ⟨zk_1960, zk_1959, zs_X12_isSaid, zk_17, ⟨rfl, by decide +kernel, by decide +kernel, by decide +kernel⟩, by decide⟩
theorem zy_X12_said : zYV yX12_said RX12 cX12_said 4 (some .int) 1 := ⟨zk_1956, zk_1954, zk_1955, zk_17, ⟨rfl, by decide +kernel, by decide +kernel, by decide +kernel⟩, by decide⟩
theorem zy_X12_image : zYV yX12_image RX12 cX12_image 3 (some .boolean) 1 := ⟨zk_1968, zk_1966, zk_1967, zk_17, ⟨rfl, by decide +kernel, by decide +kernel, by decide +kernel⟩, by decide⟩
theorem zy_X12_restore : zYV yX12_restore RX12 cX12_restore 3 (some .boolean) 1 := ⟨zk_1972, zk_1970, zk_1971, zk_17, ⟨rfl, by decide +kernel, by decide +kernel, by decide +kernel⟩, by decide⟩
theorem zy_X12_count : zYV yX12_count RX12 cX12_count 2 (some .int) 1 := ⟨zk_1976, zk_1974, zk_1975, zk_17, ⟨rfl, by decide +kernel, by decide +kernel, by decide +kernel⟩, by decide⟩
