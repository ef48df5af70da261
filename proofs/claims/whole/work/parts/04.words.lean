/-- the good words of the tables: every method is proved over all of them -/
def th_G : List Cond := lw_tbl.filter goodWord
theorem th_good : ∀ w ∈ th_G, goodWord w = true := fun _ h => (List.mem_filter.mp h).2
theorem th_G0 {w : Cond} (h : w ∈ k2_sels lw_privs) (g : goodWord w = true) : w ∈ th_G := List.mem_filter.mpr ⟨List.mem_append_left _ h, g⟩
theorem th_G1 {w : Cond} (h : w ∈ tables_1_1) (g : goodWord w = true) : w ∈ th_G := List.mem_filter.mpr ⟨List.mem_append_right _ (List.mem_append_left _ h), g⟩
theorem th_G2 {w : Cond} (h : w ∈ tables_1_2) (g : goodWord w = true) : w ∈ th_G := List.mem_filter.mpr ⟨List.mem_append_right _ (List.mem_append_right _ (List.mem_append_left _ h)), g⟩
theorem th_G3 {w : Cond} (h : w ∈ tables_1_3) (g : goodWord w = true) : w ∈ th_G := List.mem_filter.mpr ⟨List.mem_append_right _ (List.mem_append_right _ (List.mem_append_right _ (List.mem_append_left _ h))), g⟩
theorem th_G4 {w : Cond} (h : w ∈ tables_1_4) (g : goodWord w = true) : w ∈ th_G := List.mem_filter.mpr ⟨List.mem_append_right _ (List.mem_append_right _ (List.mem_append_right _ (List.mem_append_right _ h))), g⟩
theorem tw_1_14 : Cond.classLink RL 8 RX5 ∈ th_G := th_G1 (List.mem_of_getElem? (i := 14) rfl) rfl
theorem tw_1_15 : Cond.instantiable RX5 5 ∈ th_G := th_G1 (List.mem_of_getElem? (i := 15) rfl) rfl
theorem tw_1_1 : Cond.initialized RX5 ∈ th_G := th_G1 (List.mem_of_getElem? (i := 1) rfl) rfl
theorem tw_3_149 : Cond.classLink RL 102 RX6 ∈ th_G := th_G3 (List.mem_of_getElem? (i := 149) rfl) rfl
theorem tw_3_150 : Cond.instantiable RX6 22 ∈ th_G := th_G3 (List.mem_of_getElem? (i := 150) rfl) rfl
theorem tw_1_7 : Cond.initialized RX6 ∈ th_G := th_G1 (List.mem_of_getElem? (i := 7) rfl) rfl
theorem tw_4_174 : Cond.arrayClass .long ∈ th_G := th_G4 (List.mem_of_getElem? (i := 174) rfl) rfl
theorem tw_1_16 : Cond.methodLink RL 101 yX5_init ∈ th_G := th_G1 (List.mem_of_getElem? (i := 16) rfl) rfl
theorem tw_1_17 : Cond.instanceMethod yX5_init ∈ th_G := th_G1 (List.mem_of_getElem? (i := 17) rfl) rfl
theorem tw_1_18 : Cond.code yX5_init cX5_init 2 none ∈ th_G := th_G1 (List.mem_of_getElem? (i := 18) rfl) rfl
theorem tw_1_19 : Cond.methodLink RX5 1 objectInit ∈ th_G := th_G1 (List.mem_of_getElem? (i := 19) rfl) rfl
theorem tw_1_20 : Cond.instanceMethod objectInit ∈ th_G := th_G1 (List.mem_of_getElem? (i := 20) rfl) rfl
theorem tw_1_21 : Cond.code objectInit ⟨#[0xb1]⟩ 1 none ∈ th_G := th_G1 (List.mem_of_getElem? (i := 21) rfl) rfl
theorem tw_1_22 : Cond.classLink RX5 9 RX2 ∈ th_G := th_G1 (List.mem_of_getElem? (i := 22) rfl) rfl
theorem tw_1_133 : Cond.fieldLink RX5 11 "TreeheadGallery" "views" "[LTreeheadGallery$View;" ∈ th_G := th_G1 (List.mem_of_getElem? (i := 133) rfl) rfl
theorem tw_1_24 : Cond.classLink RX5 15 RX3 ∈ th_G := th_G1 (List.mem_of_getElem? (i := 24) rfl) rfl
theorem tw_1_134 : Cond.fieldLink RX5 17 "TreeheadGallery" "watchers" "[LTreeheadGallery$Watcher;" ∈ th_G := th_G1 (List.mem_of_getElem? (i := 134) rfl) rfl
theorem tw_1_26 : Cond.classLink RX5 21 RX0 ∈ th_G := th_G1 (List.mem_of_getElem? (i := 26) rfl) rfl
theorem tw_1_27 : Cond.instantiable RX0 3 ∈ th_G := th_G1 (List.mem_of_getElem? (i := 27) rfl) rfl
theorem tw_1_2 : Cond.initialized RX0 ∈ th_G := th_G1 (List.mem_of_getElem? (i := 2) rfl) rfl
theorem tw_1_135 : Cond.fieldLink RX5 24 "TreeheadGallery" "desk" "LTreeheadGallery$Desk;" ∈ th_G := th_G1 (List.mem_of_getElem? (i := 135) rfl) rfl
theorem tw_1_74 : Cond.classLink RX5 28 RX1 ∈ th_G := th_G1 (List.mem_of_getElem? (i := 74) rfl) rfl
theorem tw_1_75 : Cond.instantiable RX1 2 ∈ th_G := th_G1 (List.mem_of_getElem? (i := 75) rfl) rfl
theorem tw_1_4 : Cond.initialized RX1 ∈ th_G := th_G1 (List.mem_of_getElem? (i := 4) rfl) rfl
theorem tw_1_136 : Cond.fieldLink RX5 31 "TreeheadGallery" "map" "LTreeheadGallery$KeyMap;" ∈ th_G := th_G1 (List.mem_of_getElem? (i := 136) rfl) rfl
theorem tw_1_137 : Cond.fieldLink RX5 35 "TreeheadGallery" "viewCount" "I" ∈ th_G := th_G1 (List.mem_of_getElem? (i := 137) rfl) rfl
theorem tw_1_87 : Cond.instantiable RX2 3 ∈ th_G := th_G1 (List.mem_of_getElem? (i := 87) rfl) rfl
theorem tw_1_5 : Cond.initialized RX2 ∈ th_G := th_G1 (List.mem_of_getElem? (i := 5) rfl) rfl
theorem tw_1_104 : Cond.instantiable RX3 6 ∈ th_G := th_G1 (List.mem_of_getElem? (i := 104) rfl) rfl
theorem tw_1_6 : Cond.initialized RX3 ∈ th_G := th_G1 (List.mem_of_getElem? (i := 6) rfl) rfl
theorem tw_1_29 : Cond.instanceMethod yX0_init ∈ th_G := th_G1 (List.mem_of_getElem? (i := 29) rfl) rfl
theorem tw_1_30 : Cond.code yX0_init cX0_init 1 none ∈ th_G := th_G1 (List.mem_of_getElem? (i := 30) rfl) rfl
theorem tw_1_31 : Cond.methodLink RX0 3 objectInit ∈ th_G := th_G1 (List.mem_of_getElem? (i := 31) rfl) rfl
theorem tw_1_61 : Cond.arrayClass .int ∈ th_G := th_G1 (List.mem_of_getElem? (i := 61) rfl) rfl
theorem tw_1_65 : Cond.fieldLink RX0 9 "TreeheadGallery$Desk" "sums" "[I" ∈ th_G := th_G1 (List.mem_of_getElem? (i := 65) rfl) rfl
theorem tw_1_32 : Cond.classLink RX0 15 RX4 ∈ th_G := th_G1 (List.mem_of_getElem? (i := 32) rfl) rfl
theorem tw_1_33 : Cond.instantiable RX4 7 ∈ th_G := th_G1 (List.mem_of_getElem? (i := 33) rfl) rfl
theorem tw_1_3 : Cond.initialized RX4 ∈ th_G := th_G1 (List.mem_of_getElem? (i := 3) rfl) rfl
theorem tw_1_66 : Cond.fieldLink RX0 18 "TreeheadGallery$Desk" "way" "LTreeheadGallery$Way;" ∈ th_G := th_G1 (List.mem_of_getElem? (i := 66) rfl) rfl
theorem tw_1_35 : Cond.instanceMethod yX4_init ∈ th_G := th_G1 (List.mem_of_getElem? (i := 35) rfl) rfl
theorem tw_1_36 : Cond.code yX4_init cX4_init 1 none ∈ th_G := th_G1 (List.mem_of_getElem? (i := 36) rfl) rfl
theorem tw_1_37 : Cond.methodLink RX4 3 objectInit ∈ th_G := th_G1 (List.mem_of_getElem? (i := 37) rfl) rfl
theorem tw_1_40 : Cond.fieldLink RX4 9 "TreeheadGallery$Way" "froms" "[I" ∈ th_G := th_G1 (List.mem_of_getElem? (i := 40) rfl) rfl
theorem tw_1_41 : Cond.fieldLink RX4 15 "TreeheadGallery$Way" "lengths" "[I" ∈ th_G := th_G1 (List.mem_of_getElem? (i := 41) rfl) rfl
theorem tw_1_62 : Cond.arrayClass .boolean ∈ th_G := th_G1 (List.mem_of_getElem? (i := 62) rfl) rfl
theorem tw_1_42 : Cond.fieldLink RX4 18 "TreeheadGallery$Way" "firsts" "[Z" ∈ th_G := th_G1 (List.mem_of_getElem? (i := 42) rfl) rfl
theorem tw_1_76 : Cond.methodLink RX5 30 yX1_init ∈ th_G := th_G1 (List.mem_of_getElem? (i := 76) rfl) rfl
theorem tw_1_77 : Cond.instanceMethod yX1_init ∈ th_G := th_G1 (List.mem_of_getElem? (i := 77) rfl) rfl
theorem tw_1_78 : Cond.code yX1_init cX1_init 2 none ∈ th_G := th_G1 (List.mem_of_getElem? (i := 78) rfl) rfl
theorem tw_1_79 : Cond.methodLink RX1 3 objectInit ∈ th_G := th_G1 (List.mem_of_getElem? (i := 79) rfl) rfl
theorem tw_1_80 : Cond.fieldLink RX1 9 "TreeheadGallery$KeyMap" "values" "[I" ∈ th_G := th_G1 (List.mem_of_getElem? (i := 80) rfl) rfl
theorem tw_1_81 : Cond.fieldLink RX1 15 "TreeheadGallery$KeyMap" "sums" "[I" ∈ th_G := th_G1 (List.mem_of_getElem? (i := 81) rfl) rfl
theorem tw_1_89 : Cond.instanceMethod yX2_init ∈ th_G := th_G1 (List.mem_of_getElem? (i := 89) rfl) rfl
theorem tw_1_90 : Cond.code yX2_init cX2_init 1 none ∈ th_G := th_G1 (List.mem_of_getElem? (i := 90) rfl) rfl
theorem tw_1_91 : Cond.methodLink RX2 3 objectInit ∈ th_G := th_G1 (List.mem_of_getElem? (i := 91) rfl) rfl
theorem tw_1_95 : Cond.fieldLink RX2 9 "TreeheadGallery$View" "values" "[I" ∈ th_G := th_G1 (List.mem_of_getElem? (i := 95) rfl) rfl
theorem tw_1_96 : Cond.fieldLink RX2 15 "TreeheadGallery$View" "blocks" "[I" ∈ th_G := th_G1 (List.mem_of_getElem? (i := 96) rfl) rfl
theorem tw_1_106 : Cond.instanceMethod yX3_init ∈ th_G := th_G1 (List.mem_of_getElem? (i := 106) rfl) rfl
theorem tw_1_107 : Cond.code yX3_init cX3_init 1 none ∈ th_G := th_G1 (List.mem_of_getElem? (i := 107) rfl) rfl
theorem tw_1_108 : Cond.methodLink RX3 3 objectInit ∈ th_G := th_G1 (List.mem_of_getElem? (i := 108) rfl) rfl
theorem tw_1_110 : Cond.fieldLink RX3 9 "TreeheadGallery$Watcher" "size" "I" ∈ th_G := th_G1 (List.mem_of_getElem? (i := 110) rfl) rfl
theorem tw_1_112 : Cond.fieldLink RX3 15 "TreeheadGallery$Watcher" "root" "I" ∈ th_G := th_G1 (List.mem_of_getElem? (i := 112) rfl) rfl
theorem tw_1_116 : Cond.fieldLink RX3 18 "TreeheadGallery$Watcher" "followed" "I" ∈ th_G := th_G1 (List.mem_of_getElem? (i := 116) rfl) rfl
theorem tw_3_151 : Cond.methodLink RL 104 yX6_init ∈ th_G := th_G3 (List.mem_of_getElem? (i := 151) rfl) rfl
theorem tw_3_152 : Cond.instanceMethod yX6_init ∈ th_G := th_G3 (List.mem_of_getElem? (i := 152) rfl) rfl
theorem tw_3_153 : Cond.code yX6_init cX6_init 2 none ∈ th_G := th_G3 (List.mem_of_getElem? (i := 153) rfl) rfl
theorem tw_3_154 : Cond.methodLink RX6 1 objectInit ∈ th_G := th_G3 (List.mem_of_getElem? (i := 154) rfl) rfl
theorem tw_3_156 : Cond.fieldLink RX6 7 "TreeheadGalleryModel" "values" "[I" ∈ th_G := th_G3 (List.mem_of_getElem? (i := 156) rfl) rfl
theorem tw_3_157 : Cond.fieldLink RX6 13 "TreeheadGalleryModel" "sizes" "[I" ∈ th_G := th_G3 (List.mem_of_getElem? (i := 157) rfl) rfl
theorem tw_3_158 : Cond.fieldLink RX6 16 "TreeheadGalleryModel" "views" "I" ∈ th_G := th_G3 (List.mem_of_getElem? (i := 158) rfl) rfl
theorem tw_3_159 : Cond.fieldLink RX6 20 "TreeheadGalleryModel" "trees" "[I" ∈ th_G := th_G3 (List.mem_of_getElem? (i := 159) rfl) rfl
theorem tw_3_160 : Cond.fieldLink RX6 23 "TreeheadGalleryModel" "spans" "[I" ∈ th_G := th_G3 (List.mem_of_getElem? (i := 160) rfl) rfl
theorem tw_3_161 : Cond.fieldLink RX6 26 "TreeheadGalleryModel" "proof" "[I" ∈ th_G := th_G3 (List.mem_of_getElem? (i := 161) rfl) rfl
theorem tw_3_163 : Cond.fieldLink RX6 29 "TreeheadGalleryModel" "beside" "[I" ∈ th_G := th_G3 (List.mem_of_getElem? (i := 163) rfl) rfl
theorem tw_3_164 : Cond.fieldLink RX6 32 "TreeheadGalleryModel" "isRight" "[Z" ∈ th_G := th_G3 (List.mem_of_getElem? (i := 164) rfl) rfl
theorem tw_3_169 : Cond.fieldLink RX6 36 "TreeheadGalleryModel" "keys" "[I" ∈ th_G := th_G3 (List.mem_of_getElem? (i := 169) rfl) rfl
theorem tw_3_170 : Cond.fieldLink RX6 39 "TreeheadGalleryModel" "level" "[I" ∈ th_G := th_G3 (List.mem_of_getElem? (i := 170) rfl) rfl
theorem tw_3_171 : Cond.fieldLink RX6 42 "TreeheadGalleryModel" "keptViews" "[I" ∈ th_G := th_G3 (List.mem_of_getElem? (i := 171) rfl) rfl
theorem tw_3_172 : Cond.fieldLink RX6 45 "TreeheadGalleryModel" "keptSizes" "[I" ∈ th_G := th_G3 (List.mem_of_getElem? (i := 172) rfl) rfl
theorem tw_3_173 : Cond.fieldLink RX6 48 "TreeheadGalleryModel" "keptRoots" "[I" ∈ th_G := th_G3 (List.mem_of_getElem? (i := 173) rfl) rfl
theorem tw_3_174 : Cond.fieldLink RX6 51 "TreeheadGalleryModel" "isAlarmed" "[Z" ∈ th_G := th_G3 (List.mem_of_getElem? (i := 174) rfl) rfl
theorem tw_3_175 : Cond.fieldLink RX6 54 "TreeheadGalleryModel" "followed" "[I" ∈ th_G := th_G3 (List.mem_of_getElem? (i := 175) rfl) rfl
theorem tw_3_176 : Cond.fieldLink RX6 57 "TreeheadGalleryModel" "counts" "[I" ∈ th_G := th_G3 (List.mem_of_getElem? (i := 176) rfl) rfl
theorem tw_1_165 : Cond.methodLink RL 105 yL_append ∈ th_G := th_G1 (List.mem_of_getElem? (i := 165) rfl) rfl
theorem tw_1_166 : Cond.static yL_append ∈ th_G := th_G1 (List.mem_of_getElem? (i := 166) rfl) rfl
theorem tw_1_0 : Cond.initialized RL ∈ th_G := th_G1 (List.mem_of_getElem? (i := 0) rfl) rfl
theorem tw_1_167 : Cond.codeWith yL_append cL_append 5 (some .int) [(0, 10, 13, 13), (0, 10, 17, 15), (0, 10, 21, 17)] ∈ th_G := th_G1 (List.mem_of_getElem? (i := 167) rfl) rfl
theorem tw_1_168 : Cond.classLink RL 13 "java/lang/IndexOutOfBoundsException" ∈ th_G := th_G1 (List.mem_of_getElem? (i := 168) rfl) rfl
theorem tw_1_169 : Cond.classLink RL 15 "java/lang/IllegalArgumentException" ∈ th_G := th_G1 (List.mem_of_getElem? (i := 169) rfl) rfl
theorem tw_1_170 : Cond.classLink RL 17 "java/lang/IllegalStateException" ∈ th_G := th_G1 (List.mem_of_getElem? (i := 170) rfl) rfl
theorem tw_1_171 : Cond.methodLink RL 7 yX5_append ∈ th_G := th_G1 (List.mem_of_getElem? (i := 171) rfl) rfl
theorem tw_1_172 : Cond.instanceMethod yX5_append ∈ th_G := th_G1 (List.mem_of_getElem? (i := 172) rfl) rfl
theorem tw_1_173 : Cond.selects RX5 yX5_append yX5_append ∈ th_G := th_G1 (List.mem_of_getElem? (i := 173) rfl) rfl
theorem tw_1_174 : Cond.code yX5_append cX5_append 4 (some .int) ∈ th_G := th_G1 (List.mem_of_getElem? (i := 174) rfl) rfl
theorem tw_2_7 : Cond.constant RX5 45 (65535) ∈ th_G := th_G2 (List.mem_of_getElem? (i := 7) rfl) rfl
theorem tw_1_175 : Cond.methodLink RX5 41 yX5_viewNumbered ∈ th_G := th_G1 (List.mem_of_getElem? (i := 175) rfl) rfl
theorem tw_1_177 : Cond.instanceMethod yX5_viewNumbered ∈ th_G := th_G1 (List.mem_of_getElem? (i := 177) rfl) rfl
theorem tw_0_0 : Cond.selects RX5 yX5_viewNumbered yX5_viewNumbered ∈ th_G := th_G0 (List.mem_of_getElem? (i := 0) rfl) rfl
theorem tw_1_178 : Cond.code yX5_viewNumbered cX5_viewNumbered 3 (some (.object "TreeheadGallery$View")) ∈ th_G := th_G1 (List.mem_of_getElem? (i := 178) rfl) rfl
theorem tw_1_179 : Cond.classLink RX5 72 "java/lang/IndexOutOfBoundsException" ∈ th_G := th_G1 (List.mem_of_getElem? (i := 179) rfl) rfl
theorem tw_1_11 : Cond.initialized "java/lang/IndexOutOfBoundsException" ∈ th_G := th_G1 (List.mem_of_getElem? (i := 11) rfl) rfl
theorem tw_2_8 : Cond.methodLink RX5 46 yX5_requireRange ∈ th_G := th_G2 (List.mem_of_getElem? (i := 8) rfl) rfl
theorem tw_2_9 : Cond.static yX5_requireRange ∈ th_G := th_G2 (List.mem_of_getElem? (i := 9) rfl) rfl
theorem tw_2_10 : Cond.code yX5_requireRange cX5_requireRange 3 none ∈ th_G := th_G2 (List.mem_of_getElem? (i := 10) rfl) rfl
theorem tw_2_11 : Cond.classLink RX5 168 "java/lang/IllegalArgumentException" ∈ th_G := th_G2 (List.mem_of_getElem? (i := 11) rfl) rfl
theorem tw_1_12 : Cond.initialized "java/lang/IllegalArgumentException" ∈ th_G := th_G1 (List.mem_of_getElem? (i := 12) rfl) rfl
theorem tw_2_27 : Cond.methodLink RX5 50 yX5_requireRoom ∈ th_G := th_G2 (List.mem_of_getElem? (i := 27) rfl) rfl
theorem tw_2_28 : Cond.static yX5_requireRoom ∈ th_G := th_G2 (List.mem_of_getElem? (i := 28) rfl) rfl
theorem tw_2_29 : Cond.code yX5_requireRoom cX5_requireRoom 2 none ∈ th_G := th_G2 (List.mem_of_getElem? (i := 29) rfl) rfl
theorem tw_2_30 : Cond.classLink RX5 61 "java/lang/IllegalStateException" ∈ th_G := th_G2 (List.mem_of_getElem? (i := 30) rfl) rfl
theorem tw_1_13 : Cond.initialized "java/lang/IllegalStateException" ∈ th_G := th_G1 (List.mem_of_getElem? (i := 13) rfl) rfl
theorem tw_2_46 : Cond.methodLink RX5 54 yX2_add ∈ th_G := th_G2 (List.mem_of_getElem? (i := 46) rfl) rfl
theorem tw_2_47 : Cond.instanceMethod yX2_add ∈ th_G := th_G2 (List.mem_of_getElem? (i := 47) rfl) rfl
theorem tw_2_48 : Cond.selects RX2 yX2_add yX2_add ∈ th_G := th_G2 (List.mem_of_getElem? (i := 48) rfl) rfl
theorem tw_2_49 : Cond.code yX2_add cX2_add 4 none ∈ th_G := th_G2 (List.mem_of_getElem? (i := 49) rfl) rfl
theorem tw_1_92 : Cond.fieldLink RX2 18 "TreeheadGallery$View" "leaves" "I" ∈ th_G := th_G1 (List.mem_of_getElem? (i := 92) rfl) rfl
theorem tw_2_51 : Cond.static yX5_leafSum ∈ th_G := th_G2 (List.mem_of_getElem? (i := 51) rfl) rfl
theorem tw_2_52 : Cond.code yX5_leafSum cX5_leafSum 1 (some .int) ∈ th_G := th_G2 (List.mem_of_getElem? (i := 52) rfl) rfl
theorem tw_2_53 : Cond.constantLong RX5 175 (40503) ∈ th_G := th_G2 (List.mem_of_getElem? (i := 53) rfl) rfl
theorem tw_2_54 : Cond.constantLong RX5 177 (12345) ∈ th_G := th_G2 (List.mem_of_getElem? (i := 54) rfl) rfl
theorem tw_2_55 : Cond.constantLong RX5 179 (1000003) ∈ th_G := th_G2 (List.mem_of_getElem? (i := 55) rfl) rfl
theorem tw_2_57 : Cond.static yX5_mix ∈ th_G := th_G2 (List.mem_of_getElem? (i := 57) rfl) rfl
theorem tw_2_58 : Cond.code yX5_mix cX5_mix 2 (some .int) ∈ th_G := th_G2 (List.mem_of_getElem? (i := 58) rfl) rfl
theorem tw_2_59 : Cond.constantLong RX5 181 (7919) ∈ th_G := th_G2 (List.mem_of_getElem? (i := 59) rfl) rfl
theorem tw_2_60 : Cond.constantLong RX5 183 (31337) ∈ th_G := th_G2 (List.mem_of_getElem? (i := 60) rfl) rfl
theorem tw_2_61 : Cond.constantLong RX5 185 (11) ∈ th_G := th_G2 (List.mem_of_getElem? (i := 61) rfl) rfl
theorem tw_3_226 : Cond.methodLink RL 110 yX6_append ∈ th_G := th_G3 (List.mem_of_getElem? (i := 226) rfl) rfl
theorem tw_3_227 : Cond.instanceMethod yX6_append ∈ th_G := th_G3 (List.mem_of_getElem? (i := 227) rfl) rfl
theorem tw_3_228 : Cond.selects RX6 yX6_append yX6_append ∈ th_G := th_G3 (List.mem_of_getElem? (i := 228) rfl) rfl
theorem tw_3_229 : Cond.code yX6_append cX6_append 3 (some .int) ∈ th_G := th_G3 (List.mem_of_getElem? (i := 229) rfl) rfl
theorem tw_3_230 : Cond.methodLink RX6 80 yX6_isView ∈ th_G := th_G3 (List.mem_of_getElem? (i := 230) rfl) rfl
theorem tw_3_232 : Cond.instanceMethod yX6_isView ∈ th_G := th_G3 (List.mem_of_getElem? (i := 232) rfl) rfl
theorem tw_0_9 : Cond.selects RX6 yX6_isView yX6_isView ∈ th_G := th_G0 (List.mem_of_getElem? (i := 9) rfl) rfl
theorem tw_3_233 : Cond.code yX6_isView cX6_isView 2 (some .boolean) ∈ th_G := th_G3 (List.mem_of_getElem? (i := 233) rfl) rfl
theorem tw_3_234 : Cond.methodLink RX6 64 yX6_in ∈ th_G := th_G3 (List.mem_of_getElem? (i := 234) rfl) rfl
theorem tw_3_235 : Cond.static yX6_in ∈ th_G := th_G3 (List.mem_of_getElem? (i := 235) rfl) rfl
theorem tw_3_236 : Cond.code yX6_in cX6_in 3 (some .boolean) ∈ th_G := th_G3 (List.mem_of_getElem? (i := 236) rfl) rfl
theorem tw_3_237 : Cond.methodLink RX6 84 yX6_isValue ∈ th_G := th_G3 (List.mem_of_getElem? (i := 237) rfl) rfl
theorem tw_3_238 : Cond.static yX6_isValue ∈ th_G := th_G3 (List.mem_of_getElem? (i := 238) rfl) rfl
theorem tw_3_239 : Cond.code yX6_isValue cX6_isValue 1 (some .boolean) ∈ th_G := th_G3 (List.mem_of_getElem? (i := 239) rfl) rfl
theorem tw_4_0 : Cond.constant RX6 63 (65535) ∈ th_G := th_G4 (List.mem_of_getElem? (i := 0) rfl) rfl
theorem tw_4_1 : Cond.methodLink RX6 87 yX6_goesWell ∈ th_G := th_G4 (List.mem_of_getElem? (i := 1) rfl) rfl
theorem tw_4_3 : Cond.instanceMethod yX6_goesWell ∈ th_G := th_G4 (List.mem_of_getElem? (i := 3) rfl) rfl
theorem tw_0_10 : Cond.selects RX6 yX6_goesWell yX6_goesWell ∈ th_G := th_G0 (List.mem_of_getElem? (i := 10) rfl) rfl
theorem tw_4_4 : Cond.code yX6_goesWell cX6_goesWell 2 (some .boolean) ∈ th_G := th_G4 (List.mem_of_getElem? (i := 4) rfl) rfl
theorem tw_3_155 : Cond.fieldLink RX6 60 "TreeheadGalleryModel" "thrown" "I" ∈ th_G := th_G3 (List.mem_of_getElem? (i := 155) rfl) rfl
theorem tw_3_222 : Cond.methodLink RL 111 yX6_thrown ∈ th_G := th_G3 (List.mem_of_getElem? (i := 222) rfl) rfl
theorem tw_3_223 : Cond.instanceMethod yX6_thrown ∈ th_G := th_G3 (List.mem_of_getElem? (i := 223) rfl) rfl
theorem tw_3_224 : Cond.selects RX6 yX6_thrown yX6_thrown ∈ th_G := th_G3 (List.mem_of_getElem? (i := 224) rfl) rfl
theorem tw_3_225 : Cond.code yX6_thrown cX6_thrown 1 (some .int) ∈ th_G := th_G3 (List.mem_of_getElem? (i := 225) rfl) rfl
theorem tw_2_62 : Cond.methodLink RL 114 yL_appendRow ∈ th_G := th_G2 (List.mem_of_getElem? (i := 62) rfl) rfl
theorem tw_2_63 : Cond.static yL_appendRow ∈ th_G := th_G2 (List.mem_of_getElem? (i := 63) rfl) rfl
theorem tw_2_64 : Cond.codeWith yL_appendRow cL_appendRow 6 (some .int) [(0, 12, 15, 13), (0, 12, 19, 15), (0, 12, 23, 17)] ∈ th_G := th_G2 (List.mem_of_getElem? (i := 64) rfl) rfl
theorem tw_2_65 : Cond.methodLink RL 19 yX5_appendRow ∈ th_G := th_G2 (List.mem_of_getElem? (i := 65) rfl) rfl
theorem tw_2_66 : Cond.instanceMethod yX5_appendRow ∈ th_G := th_G2 (List.mem_of_getElem? (i := 66) rfl) rfl
theorem tw_2_67 : Cond.selects RX5 yX5_appendRow yX5_appendRow ∈ th_G := th_G2 (List.mem_of_getElem? (i := 67) rfl) rfl
theorem tw_2_68 : Cond.code yX5_appendRow cX5_appendRow 6 (some .int) ∈ th_G := th_G2 (List.mem_of_getElem? (i := 68) rfl) rfl
theorem tw_4_5 : Cond.methodLink RL 117 yX6_appendRow ∈ th_G := th_G4 (List.mem_of_getElem? (i := 5) rfl) rfl
theorem tw_4_6 : Cond.instanceMethod yX6_appendRow ∈ th_G := th_G4 (List.mem_of_getElem? (i := 6) rfl) rfl
theorem tw_4_7 : Cond.selects RX6 yX6_appendRow yX6_appendRow ∈ th_G := th_G4 (List.mem_of_getElem? (i := 7) rfl) rfl
theorem tw_4_8 : Cond.code yX6_appendRow cX6_appendRow 6 (some .int) ∈ th_G := th_G4 (List.mem_of_getElem? (i := 8) rfl) rfl
theorem tw_2_69 : Cond.methodLink RL 118 yL_fork ∈ th_G := th_G2 (List.mem_of_getElem? (i := 69) rfl) rfl
theorem tw_2_70 : Cond.static yL_fork ∈ th_G := th_G2 (List.mem_of_getElem? (i := 70) rfl) rfl
theorem tw_2_71 : Cond.codeWith yL_fork cL_fork 5 (some .int) [(0, 10, 13, 13), (0, 10, 17, 15), (0, 10, 21, 17)] ∈ th_G := th_G2 (List.mem_of_getElem? (i := 71) rfl) rfl
theorem tw_2_72 : Cond.methodLink RL 23 yX5_fork ∈ th_G := th_G2 (List.mem_of_getElem? (i := 72) rfl) rfl
theorem tw_2_73 : Cond.instanceMethod yX5_fork ∈ th_G := th_G2 (List.mem_of_getElem? (i := 73) rfl) rfl
theorem tw_2_74 : Cond.selects RX5 yX5_fork yX5_fork ∈ th_G := th_G2 (List.mem_of_getElem? (i := 74) rfl) rfl
theorem tw_2_75 : Cond.code yX5_fork cX5_fork 6 (some .int) ∈ th_G := th_G2 (List.mem_of_getElem? (i := 75) rfl) rfl
theorem tw_2_77 : Cond.methodLink RX5 68 yX2_valueAt ∈ th_G := th_G2 (List.mem_of_getElem? (i := 77) rfl) rfl
theorem tw_2_78 : Cond.instanceMethod yX2_valueAt ∈ th_G := th_G2 (List.mem_of_getElem? (i := 78) rfl) rfl
theorem tw_2_79 : Cond.selects RX2 yX2_valueAt yX2_valueAt ∈ th_G := th_G2 (List.mem_of_getElem? (i := 79) rfl) rfl
theorem tw_2_80 : Cond.code yX2_valueAt cX2_valueAt 2 (some .int) ∈ th_G := th_G2 (List.mem_of_getElem? (i := 80) rfl) rfl
theorem tw_4_9 : Cond.methodLink RL 120 yX6_fork ∈ th_G := th_G4 (List.mem_of_getElem? (i := 9) rfl) rfl
theorem tw_4_10 : Cond.instanceMethod yX6_fork ∈ th_G := th_G4 (List.mem_of_getElem? (i := 10) rfl) rfl
theorem tw_4_11 : Cond.selects RX6 yX6_fork yX6_fork ∈ th_G := th_G4 (List.mem_of_getElem? (i := 11) rfl) rfl
theorem tw_4_12 : Cond.code yX6_fork cX6_fork 4 (some .int) ∈ th_G := th_G4 (List.mem_of_getElem? (i := 12) rfl) rfl
theorem tw_1_149 : Cond.methodLink RL 121 yX5_views ∈ th_G := th_G1 (List.mem_of_getElem? (i := 149) rfl) rfl
theorem tw_1_150 : Cond.instanceMethod yX5_views ∈ th_G := th_G1 (List.mem_of_getElem? (i := 150) rfl) rfl
theorem tw_1_151 : Cond.selects RX5 yX5_views yX5_views ∈ th_G := th_G1 (List.mem_of_getElem? (i := 151) rfl) rfl
theorem tw_1_152 : Cond.code yX5_views cX5_views 1 (some .int) ∈ th_G := th_G1 (List.mem_of_getElem? (i := 152) rfl) rfl
theorem tw_4_13 : Cond.methodLink RL 124 yX6_views ∈ th_G := th_G4 (List.mem_of_getElem? (i := 13) rfl) rfl
theorem tw_4_14 : Cond.instanceMethod yX6_views ∈ th_G := th_G4 (List.mem_of_getElem? (i := 14) rfl) rfl
theorem tw_4_15 : Cond.selects RX6 yX6_views yX6_views ∈ th_G := th_G4 (List.mem_of_getElem? (i := 15) rfl) rfl
theorem tw_4_16 : Cond.code yX6_views cX6_views 1 (some .int) ∈ th_G := th_G4 (List.mem_of_getElem? (i := 16) rfl) rfl
theorem tw_2_81 : Cond.methodLink RL 125 yL_size ∈ th_G := th_G2 (List.mem_of_getElem? (i := 81) rfl) rfl
theorem tw_2_82 : Cond.static yL_size ∈ th_G := th_G2 (List.mem_of_getElem? (i := 82) rfl) rfl
theorem tw_2_83 : Cond.codeWith yL_size cL_size 4 (some .int) [(0, 9, 12, 13)] ∈ th_G := th_G2 (List.mem_of_getElem? (i := 83) rfl) rfl
theorem tw_2_84 : Cond.methodLink RL 26 yX5_size ∈ th_G := th_G2 (List.mem_of_getElem? (i := 84) rfl) rfl
theorem tw_2_85 : Cond.instanceMethod yX5_size ∈ th_G := th_G2 (List.mem_of_getElem? (i := 85) rfl) rfl
theorem tw_2_86 : Cond.selects RX5 yX5_size yX5_size ∈ th_G := th_G2 (List.mem_of_getElem? (i := 86) rfl) rfl
theorem tw_2_87 : Cond.code yX5_size cX5_size 2 (some .int) ∈ th_G := th_G2 (List.mem_of_getElem? (i := 87) rfl) rfl
theorem tw_4_17 : Cond.methodLink RL 128 yX6_size ∈ th_G := th_G4 (List.mem_of_getElem? (i := 17) rfl) rfl
theorem tw_4_18 : Cond.instanceMethod yX6_size ∈ th_G := th_G4 (List.mem_of_getElem? (i := 18) rfl) rfl
theorem tw_4_19 : Cond.selects RX6 yX6_size yX6_size ∈ th_G := th_G4 (List.mem_of_getElem? (i := 19) rfl) rfl
theorem tw_4_20 : Cond.code yX6_size cX6_size 2 (some .int) ∈ th_G := th_G4 (List.mem_of_getElem? (i := 20) rfl) rfl
theorem tw_2_88 : Cond.methodLink RL 129 yL_leaf ∈ th_G := th_G2 (List.mem_of_getElem? (i := 88) rfl) rfl
theorem tw_2_89 : Cond.static yL_leaf ∈ th_G := th_G2 (List.mem_of_getElem? (i := 89) rfl) rfl
theorem tw_2_90 : Cond.codeWith yL_leaf cL_leaf 5 (some .int) [(0, 10, 13, 13)] ∈ th_G := th_G2 (List.mem_of_getElem? (i := 90) rfl) rfl
theorem tw_2_91 : Cond.methodLink RL 30 yX5_leaf ∈ th_G := th_G2 (List.mem_of_getElem? (i := 91) rfl) rfl
theorem tw_2_92 : Cond.instanceMethod yX5_leaf ∈ th_G := th_G2 (List.mem_of_getElem? (i := 92) rfl) rfl
theorem tw_2_93 : Cond.selects RX5 yX5_leaf yX5_leaf ∈ th_G := th_G2 (List.mem_of_getElem? (i := 93) rfl) rfl
theorem tw_2_94 : Cond.code yX5_leaf cX5_leaf 4 (some .int) ∈ th_G := th_G2 (List.mem_of_getElem? (i := 94) rfl) rfl
theorem tw_4_21 : Cond.methodLink RL 131 yX6_leaf ∈ th_G := th_G4 (List.mem_of_getElem? (i := 21) rfl) rfl
theorem tw_4_22 : Cond.instanceMethod yX6_leaf ∈ th_G := th_G4 (List.mem_of_getElem? (i := 22) rfl) rfl
theorem tw_4_23 : Cond.selects RX6 yX6_leaf yX6_leaf ∈ th_G := th_G4 (List.mem_of_getElem? (i := 23) rfl) rfl
theorem tw_4_24 : Cond.code yX6_leaf cX6_leaf 4 (some .int) ∈ th_G := th_G4 (List.mem_of_getElem? (i := 24) rfl) rfl
theorem tw_2_96 : Cond.methodLink RL 132 yL_root ∈ th_G := th_G2 (List.mem_of_getElem? (i := 96) rfl) rfl
theorem tw_2_97 : Cond.static yL_root ∈ th_G := th_G2 (List.mem_of_getElem? (i := 97) rfl) rfl
theorem tw_2_98 : Cond.codeWith yL_root cL_root 5 (some .int) [(0, 10, 13, 13), (0, 10, 17, 15)] ∈ th_G := th_G2 (List.mem_of_getElem? (i := 98) rfl) rfl
theorem tw_2_99 : Cond.methodLink RL 33 yX5_root ∈ th_G := th_G2 (List.mem_of_getElem? (i := 99) rfl) rfl
theorem tw_2_100 : Cond.instanceMethod yX5_root ∈ th_G := th_G2 (List.mem_of_getElem? (i := 100) rfl) rfl
theorem tw_2_101 : Cond.selects RX5 yX5_root yX5_root ∈ th_G := th_G2 (List.mem_of_getElem? (i := 101) rfl) rfl
theorem tw_2_102 : Cond.code yX5_root cX5_root 4 (some .int) ∈ th_G := th_G2 (List.mem_of_getElem? (i := 102) rfl) rfl
theorem tw_2_103 : Cond.methodLink RX5 77 yX2_rootAt ∈ th_G := th_G2 (List.mem_of_getElem? (i := 103) rfl) rfl
theorem tw_2_104 : Cond.instanceMethod yX2_rootAt ∈ th_G := th_G2 (List.mem_of_getElem? (i := 104) rfl) rfl
theorem tw_2_105 : Cond.selects RX2 yX2_rootAt yX2_rootAt ∈ th_G := th_G2 (List.mem_of_getElem? (i := 105) rfl) rfl
theorem tw_2_106 : Cond.code yX2_rootAt cX2_rootAt 2 (some .int) ∈ th_G := th_G2 (List.mem_of_getElem? (i := 106) rfl) rfl
theorem tw_2_107 : Cond.methodLink RX2 30 yX2_rootOfRow ∈ th_G := th_G2 (List.mem_of_getElem? (i := 107) rfl) rfl
theorem tw_2_108 : Cond.instanceMethod yX2_rootOfRow ∈ th_G := th_G2 (List.mem_of_getElem? (i := 108) rfl) rfl
theorem tw_2_109 : Cond.selects RX2 yX2_rootOfRow yX2_rootOfRow ∈ th_G := th_G2 (List.mem_of_getElem? (i := 109) rfl) rfl
theorem tw_2_110 : Cond.code yX2_rootOfRow cX2_rootOfRow 8 (some .int) ∈ th_G := th_G2 (List.mem_of_getElem? (i := 110) rfl) rfl
theorem tw_2_111 : Cond.methodLink RX2 33 yX2_blockAt ∈ th_G := th_G2 (List.mem_of_getElem? (i := 111) rfl) rfl
theorem tw_2_113 : Cond.instanceMethod yX2_blockAt ∈ th_G := th_G2 (List.mem_of_getElem? (i := 113) rfl) rfl
theorem tw_0_2 : Cond.selects RX2 yX2_blockAt yX2_blockAt ∈ th_G := th_G0 (List.mem_of_getElem? (i := 2) rfl) rfl
theorem tw_2_114 : Cond.code yX2_blockAt cX2_blockAt 2 (some .int) ∈ th_G := th_G2 (List.mem_of_getElem? (i := 114) rfl) rfl
theorem tw_4_25 : Cond.methodLink RL 134 yX6_root ∈ th_G := th_G4 (List.mem_of_getElem? (i := 25) rfl) rfl
theorem tw_4_26 : Cond.instanceMethod yX6_root ∈ th_G := th_G4 (List.mem_of_getElem? (i := 26) rfl) rfl
theorem tw_4_27 : Cond.selects RX6 yX6_root yX6_root ∈ th_G := th_G4 (List.mem_of_getElem? (i := 27) rfl) rfl
theorem tw_4_28 : Cond.code yX6_root cX6_root 3 (some .int) ∈ th_G := th_G4 (List.mem_of_getElem? (i := 28) rfl) rfl
theorem tw_4_29 : Cond.methodLink RX6 98 yX6_rootAnew ∈ th_G := th_G4 (List.mem_of_getElem? (i := 29) rfl) rfl
theorem tw_4_30 : Cond.instanceMethod yX6_rootAnew ∈ th_G := th_G4 (List.mem_of_getElem? (i := 30) rfl) rfl
theorem tw_4_31 : Cond.selects RX6 yX6_rootAnew yX6_rootAnew ∈ th_G := th_G4 (List.mem_of_getElem? (i := 31) rfl) rfl
theorem tw_4_32 : Cond.code yX6_rootAnew cX6_rootAnew 4 (some .int) ∈ th_G := th_G4 (List.mem_of_getElem? (i := 32) rfl) rfl
theorem tw_4_33 : Cond.methodLink RX6 101 yX6_rootOf ∈ th_G := th_G4 (List.mem_of_getElem? (i := 33) rfl) rfl
theorem tw_4_35 : Cond.instanceMethod yX6_rootOf ∈ th_G := th_G4 (List.mem_of_getElem? (i := 35) rfl) rfl
theorem tw_0_11 : Cond.selects RX6 yX6_rootOf yX6_rootOf ∈ th_G := th_G0 (List.mem_of_getElem? (i := 11) rfl) rfl
theorem tw_4_36 : Cond.code yX6_rootOf cX6_rootOf 7 (some .int) ∈ th_G := th_G4 (List.mem_of_getElem? (i := 36) rfl) rfl
theorem tw_4_37 : Cond.methodLink RX6 90 yX6_leafSum ∈ th_G := th_G4 (List.mem_of_getElem? (i := 37) rfl) rfl
theorem tw_4_38 : Cond.static yX6_leafSum ∈ th_G := th_G4 (List.mem_of_getElem? (i := 38) rfl) rfl
theorem tw_4_39 : Cond.code yX6_leafSum cX6_leafSum 1 (some .int) ∈ th_G := th_G4 (List.mem_of_getElem? (i := 39) rfl) rfl
theorem tw_4_40 : Cond.constantLong RX6 68 (40503) ∈ th_G := th_G4 (List.mem_of_getElem? (i := 40) rfl) rfl
theorem tw_4_41 : Cond.constantLong RX6 70 (12345) ∈ th_G := th_G4 (List.mem_of_getElem? (i := 41) rfl) rfl
theorem tw_4_42 : Cond.constantLong RX6 72 (1000003) ∈ th_G := th_G4 (List.mem_of_getElem? (i := 42) rfl) rfl
theorem tw_4_43 : Cond.methodLink RX6 94 yX6_mix ∈ th_G := th_G4 (List.mem_of_getElem? (i := 43) rfl) rfl
theorem tw_4_44 : Cond.static yX6_mix ∈ th_G := th_G4 (List.mem_of_getElem? (i := 44) rfl) rfl
theorem tw_4_45 : Cond.code yX6_mix cX6_mix 2 (some .int) ∈ th_G := th_G4 (List.mem_of_getElem? (i := 45) rfl) rfl
theorem tw_4_46 : Cond.constantLong RX6 74 (7919) ∈ th_G := th_G4 (List.mem_of_getElem? (i := 46) rfl) rfl
theorem tw_4_47 : Cond.constantLong RX6 76 (31337) ∈ th_G := th_G4 (List.mem_of_getElem? (i := 47) rfl) rfl
theorem tw_4_48 : Cond.constantLong RX6 78 (11) ∈ th_G := th_G4 (List.mem_of_getElem? (i := 48) rfl) rfl
theorem tw_2_115 : Cond.methodLink RL 135 yL_rootAnew ∈ th_G := th_G2 (List.mem_of_getElem? (i := 115) rfl) rfl
theorem tw_2_116 : Cond.static yL_rootAnew ∈ th_G := th_G2 (List.mem_of_getElem? (i := 116) rfl) rfl
theorem tw_2_117 : Cond.codeWith yL_rootAnew cL_rootAnew 5 (some .int) [(0, 10, 13, 13), (0, 10, 17, 15)] ∈ th_G := th_G2 (List.mem_of_getElem? (i := 117) rfl) rfl
theorem tw_2_118 : Cond.methodLink RL 36 yX5_rootAnew ∈ th_G := th_G2 (List.mem_of_getElem? (i := 118) rfl) rfl
theorem tw_2_119 : Cond.instanceMethod yX5_rootAnew ∈ th_G := th_G2 (List.mem_of_getElem? (i := 119) rfl) rfl
theorem tw_2_120 : Cond.selects RX5 yX5_rootAnew yX5_rootAnew ∈ th_G := th_G2 (List.mem_of_getElem? (i := 120) rfl) rfl
theorem tw_2_121 : Cond.code yX5_rootAnew cX5_rootAnew 4 (some .int) ∈ th_G := th_G2 (List.mem_of_getElem? (i := 121) rfl) rfl
theorem tw_2_122 : Cond.methodLink RX5 80 yX2_rootFromValues ∈ th_G := th_G2 (List.mem_of_getElem? (i := 122) rfl) rfl
theorem tw_2_123 : Cond.instanceMethod yX2_rootFromValues ∈ th_G := th_G2 (List.mem_of_getElem? (i := 123) rfl) rfl
theorem tw_2_124 : Cond.selects RX2 yX2_rootFromValues yX2_rootFromValues ∈ th_G := th_G2 (List.mem_of_getElem? (i := 124) rfl) rfl
theorem tw_2_125 : Cond.code yX2_rootFromValues cX2_rootFromValues 2 (some .int) ∈ th_G := th_G2 (List.mem_of_getElem? (i := 125) rfl) rfl
theorem tw_2_126 : Cond.methodLink RX2 36 yX2_rootAnewOf ∈ th_G := th_G2 (List.mem_of_getElem? (i := 126) rfl) rfl
theorem tw_2_127 : Cond.static yX2_rootAnewOf ∈ th_G := th_G2 (List.mem_of_getElem? (i := 127) rfl) rfl
theorem tw_2_128 : Cond.code yX2_rootAnewOf cX2_rootAnewOf 5 (some .int) ∈ th_G := th_G2 (List.mem_of_getElem? (i := 128) rfl) rfl
theorem tw_2_129 : Cond.methodLink RX2 40 yX2_greatestPowerBelow ∈ th_G := th_G2 (List.mem_of_getElem? (i := 129) rfl) rfl
theorem tw_2_130 : Cond.static yX2_greatestPowerBelow ∈ th_G := th_G2 (List.mem_of_getElem? (i := 130) rfl) rfl
theorem tw_2_131 : Cond.code yX2_greatestPowerBelow cX2_greatestPowerBelow 3 (some .int) ∈ th_G := th_G2 (List.mem_of_getElem? (i := 131) rfl) rfl
theorem tw_4_49 : Cond.methodLink RL 137 yX6_rootAnew ∈ th_G := th_G4 (List.mem_of_getElem? (i := 49) rfl) rfl
theorem tw_2_132 : Cond.methodLink RL 138 yL_loadLeaf ∈ th_G := th_G2 (List.mem_of_getElem? (i := 132) rfl) rfl
theorem tw_2_133 : Cond.static yL_loadLeaf ∈ th_G := th_G2 (List.mem_of_getElem? (i := 133) rfl) rfl
theorem tw_2_134 : Cond.codeWith yL_loadLeaf cL_loadLeaf 6 (some .int) [(0, 12, 15, 13), (0, 12, 19, 15)] ∈ th_G := th_G2 (List.mem_of_getElem? (i := 134) rfl) rfl
theorem tw_2_135 : Cond.methodLink RL 39 yX5_loadLeaf ∈ th_G := th_G2 (List.mem_of_getElem? (i := 135) rfl) rfl
theorem tw_2_136 : Cond.instanceMethod yX5_loadLeaf ∈ th_G := th_G2 (List.mem_of_getElem? (i := 136) rfl) rfl
theorem tw_2_137 : Cond.selects RX5 yX5_loadLeaf yX5_loadLeaf ∈ th_G := th_G2 (List.mem_of_getElem? (i := 137) rfl) rfl
theorem tw_2_138 : Cond.code yX5_loadLeaf cX5_loadLeaf 5 (some .int) ∈ th_G := th_G2 (List.mem_of_getElem? (i := 138) rfl) rfl
theorem tw_2_139 : Cond.methodLink RX5 83 yX0_takeLeafProof ∈ th_G := th_G2 (List.mem_of_getElem? (i := 139) rfl) rfl
theorem tw_2_140 : Cond.instanceMethod yX0_takeLeafProof ∈ th_G := th_G2 (List.mem_of_getElem? (i := 140) rfl) rfl
theorem tw_2_141 : Cond.selects RX0 yX0_takeLeafProof yX0_takeLeafProof ∈ th_G := th_G2 (List.mem_of_getElem? (i := 141) rfl) rfl
theorem tw_2_142 : Cond.code yX0_takeLeafProof cX0_takeLeafProof 4 none ∈ th_G := th_G2 (List.mem_of_getElem? (i := 142) rfl) rfl
theorem tw_2_143 : Cond.methodLink RX0 22 yX4_leadToLeaf ∈ th_G := th_G2 (List.mem_of_getElem? (i := 143) rfl) rfl
theorem tw_2_144 : Cond.instanceMethod yX4_leadToLeaf ∈ th_G := th_G2 (List.mem_of_getElem? (i := 144) rfl) rfl
theorem tw_2_145 : Cond.selects RX4 yX4_leadToLeaf yX4_leadToLeaf ∈ th_G := th_G2 (List.mem_of_getElem? (i := 145) rfl) rfl
theorem tw_2_146 : Cond.code yX4_leadToLeaf cX4_leadToLeaf 4 none ∈ th_G := th_G2 (List.mem_of_getElem? (i := 146) rfl) rfl
theorem tw_1_44 : Cond.fieldLink RX4 26 "TreeheadGallery$Way" "length" "I" ∈ th_G := th_G1 (List.mem_of_getElem? (i := 44) rfl) rfl
theorem tw_2_147 : Cond.methodLink RX4 22 yX4_begin ∈ th_G := th_G2 (List.mem_of_getElem? (i := 147) rfl) rfl
theorem tw_2_149 : Cond.instanceMethod yX4_begin ∈ th_G := th_G2 (List.mem_of_getElem? (i := 149) rfl) rfl
theorem tw_0_3 : Cond.selects RX4 yX4_begin yX4_begin ∈ th_G := th_G0 (List.mem_of_getElem? (i := 3) rfl) rfl
theorem tw_2_150 : Cond.code yX4_begin cX4_begin 3 none ∈ th_G := th_G2 (List.mem_of_getElem? (i := 150) rfl) rfl
theorem tw_1_39 : Cond.fieldLink RX4 47 "TreeheadGallery$Way" "rows" "I" ∈ th_G := th_G1 (List.mem_of_getElem? (i := 39) rfl) rfl
theorem tw_1_43 : Cond.fieldLink RX4 40 "TreeheadGallery$Way" "from" "I" ∈ th_G := th_G1 (List.mem_of_getElem? (i := 43) rfl) rfl
theorem tw_1_45 : Cond.fieldLink RX4 33 "TreeheadGallery$Way" "leaf" "I" ∈ th_G := th_G1 (List.mem_of_getElem? (i := 45) rfl) rfl
theorem tw_2_151 : Cond.methodLink RX4 30 yX4_goDown ∈ th_G := th_G2 (List.mem_of_getElem? (i := 151) rfl) rfl
theorem tw_2_153 : Cond.instanceMethod yX4_goDown ∈ th_G := th_G2 (List.mem_of_getElem? (i := 153) rfl) rfl
theorem tw_0_4 : Cond.selects RX4 yX4_goDown yX4_goDown ∈ th_G := th_G0 (List.mem_of_getElem? (i := 4) rfl) rfl
theorem tw_2_154 : Cond.code yX4_goDown cX4_goDown 2 none ∈ th_G := th_G2 (List.mem_of_getElem? (i := 154) rfl) rfl
theorem tw_2_155 : Cond.methodLink RX4 50 yX2_greatestPowerBelow ∈ th_G := th_G2 (List.mem_of_getElem? (i := 155) rfl) rfl
theorem tw_2_156 : Cond.methodLink RX4 43 yX4_leaveBeside ∈ th_G := th_G2 (List.mem_of_getElem? (i := 156) rfl) rfl
theorem tw_2_158 : Cond.instanceMethod yX4_leaveBeside ∈ th_G := th_G2 (List.mem_of_getElem? (i := 158) rfl) rfl
theorem tw_0_5 : Cond.selects RX4 yX4_leaveBeside yX4_leaveBeside ∈ th_G := th_G0 (List.mem_of_getElem? (i := 5) rfl) rfl
theorem tw_2_159 : Cond.code yX4_leaveBeside cX4_leaveBeside 4 none ∈ th_G := th_G2 (List.mem_of_getElem? (i := 159) rfl) rfl
theorem tw_2_160 : Cond.methodLink RX0 26 yX0_takeRoots ∈ th_G := th_G2 (List.mem_of_getElem? (i := 160) rfl) rfl
theorem tw_2_162 : Cond.instanceMethod yX0_takeRoots ∈ th_G := th_G2 (List.mem_of_getElem? (i := 162) rfl) rfl
theorem tw_0_6 : Cond.selects RX0 yX0_takeRoots yX0_takeRoots ∈ th_G := th_G0 (List.mem_of_getElem? (i := 6) rfl) rfl
theorem tw_2_163 : Cond.code yX0_takeRoots cX0_takeRoots 3 none ∈ th_G := th_G2 (List.mem_of_getElem? (i := 163) rfl) rfl
theorem tw_1_63 : Cond.fieldLink RX0 37 "TreeheadGallery$Desk" "count" "I" ∈ th_G := th_G1 (List.mem_of_getElem? (i := 63) rfl) rfl
theorem tw_2_164 : Cond.methodLink RX0 40 yX4_rootOfPlace ∈ th_G := th_G2 (List.mem_of_getElem? (i := 164) rfl) rfl
theorem tw_2_165 : Cond.instanceMethod yX4_rootOfPlace ∈ th_G := th_G2 (List.mem_of_getElem? (i := 165) rfl) rfl
theorem tw_2_166 : Cond.selects RX4 yX4_rootOfPlace yX4_rootOfPlace ∈ th_G := th_G2 (List.mem_of_getElem? (i := 166) rfl) rfl
theorem tw_2_167 : Cond.code yX4_rootOfPlace cX4_rootOfPlace 4 (some .int) ∈ th_G := th_G2 (List.mem_of_getElem? (i := 167) rfl) rfl
theorem tw_2_168 : Cond.methodLink RX4 56 yX2_rootOfRow ∈ th_G := th_G2 (List.mem_of_getElem? (i := 168) rfl) rfl
theorem tw_4_50 : Cond.methodLink RL 140 yX6_loadLeaf ∈ th_G := th_G4 (List.mem_of_getElem? (i := 50) rfl) rfl
theorem tw_4_51 : Cond.instanceMethod yX6_loadLeaf ∈ th_G := th_G4 (List.mem_of_getElem? (i := 51) rfl) rfl
theorem tw_4_52 : Cond.selects RX6 yX6_loadLeaf yX6_loadLeaf ∈ th_G := th_G4 (List.mem_of_getElem? (i := 52) rfl) rfl
theorem tw_4_53 : Cond.code yX6_loadLeaf cX6_loadLeaf 5 (some .int) ∈ th_G := th_G4 (List.mem_of_getElem? (i := 53) rfl) rfl
theorem tw_3_162 : Cond.fieldLink RX6 125 "TreeheadGalleryModel" "sums" "I" ∈ th_G := th_G3 (List.mem_of_getElem? (i := 162) rfl) rfl
theorem tw_4_54 : Cond.methodLink RX6 128 yX6_isSize ∈ th_G := th_G4 (List.mem_of_getElem? (i := 54) rfl) rfl
theorem tw_4_56 : Cond.instanceMethod yX6_isSize ∈ th_G := th_G4 (List.mem_of_getElem? (i := 56) rfl) rfl
theorem tw_0_12 : Cond.selects RX6 yX6_isSize yX6_isSize ∈ th_G := th_G0 (List.mem_of_getElem? (i := 12) rfl) rfl
theorem tw_4_57 : Cond.code yX6_isSize cX6_isSize 3 (some .boolean) ∈ th_G := th_G4 (List.mem_of_getElem? (i := 57) rfl) rfl
theorem tw_4_58 : Cond.methodLink RX6 132 yX6_goToLeaf ∈ th_G := th_G4 (List.mem_of_getElem? (i := 58) rfl) rfl
theorem tw_4_60 : Cond.instanceMethod yX6_goToLeaf ∈ th_G := th_G4 (List.mem_of_getElem? (i := 60) rfl) rfl
theorem tw_0_13 : Cond.selects RX6 yX6_goToLeaf yX6_goToLeaf ∈ th_G := th_G0 (List.mem_of_getElem? (i := 13) rfl) rfl
theorem tw_4_61 : Cond.code yX6_goToLeaf cX6_goToLeaf 8 none ∈ th_G := th_G4 (List.mem_of_getElem? (i := 61) rfl) rfl
theorem tw_3_165 : Cond.fieldLink RX6 108 "TreeheadGalleryModel" "steps" "I" ∈ th_G := th_G3 (List.mem_of_getElem? (i := 165) rfl) rfl
theorem tw_4_62 : Cond.methodLink RX6 105 yX6_split ∈ th_G := th_G4 (List.mem_of_getElem? (i := 62) rfl) rfl
theorem tw_4_63 : Cond.static yX6_split ∈ th_G := th_G4 (List.mem_of_getElem? (i := 63) rfl) rfl
theorem tw_4_64 : Cond.code yX6_split cX6_split 2 (some .int) ∈ th_G := th_G4 (List.mem_of_getElem? (i := 64) rfl) rfl
theorem tw_4_65 : Cond.methodLink RX6 111 yX6_step ∈ th_G := th_G4 (List.mem_of_getElem? (i := 65) rfl) rfl
theorem tw_4_67 : Cond.instanceMethod yX6_step ∈ th_G := th_G4 (List.mem_of_getElem? (i := 67) rfl) rfl
theorem tw_0_14 : Cond.selects RX6 yX6_step yX6_step ∈ th_G := th_G0 (List.mem_of_getElem? (i := 14) rfl) rfl
theorem tw_4_68 : Cond.code yX6_step cX6_step 6 none ∈ th_G := th_G4 (List.mem_of_getElem? (i := 68) rfl) rfl
theorem tw_4_69 : Cond.methodLink RX6 136 yX6_load ∈ th_G := th_G4 (List.mem_of_getElem? (i := 69) rfl) rfl
theorem tw_4_71 : Cond.instanceMethod yX6_load ∈ th_G := th_G4 (List.mem_of_getElem? (i := 71) rfl) rfl
theorem tw_0_15 : Cond.selects RX6 yX6_load yX6_load ∈ th_G := th_G0 (List.mem_of_getElem? (i := 15) rfl) rfl
theorem tw_4_72 : Cond.code yX6_load cX6_load 2 (some .int) ∈ th_G := th_G4 (List.mem_of_getElem? (i := 72) rfl) rfl
theorem tw_2_169 : Cond.methodLink RL 141 yL_loadGrowth ∈ th_G := th_G2 (List.mem_of_getElem? (i := 169) rfl) rfl
theorem tw_2_170 : Cond.static yL_loadGrowth ∈ th_G := th_G2 (List.mem_of_getElem? (i := 170) rfl) rfl
theorem tw_2_171 : Cond.codeWith yL_loadGrowth cL_loadGrowth 6 (some .int) [(0, 12, 15, 13), (0, 12, 19, 15)] ∈ th_G := th_G2 (List.mem_of_getElem? (i := 171) rfl) rfl
theorem tw_2_172 : Cond.methodLink RL 42 yX5_loadGrowth ∈ th_G := th_G2 (List.mem_of_getElem? (i := 172) rfl) rfl
theorem tw_2_173 : Cond.instanceMethod yX5_loadGrowth ∈ th_G := th_G2 (List.mem_of_getElem? (i := 173) rfl) rfl
theorem tw_2_174 : Cond.selects RX5 yX5_loadGrowth yX5_loadGrowth ∈ th_G := th_G2 (List.mem_of_getElem? (i := 174) rfl) rfl
theorem tw_2_175 : Cond.code yX5_loadGrowth cX5_loadGrowth 5 (some .int) ∈ th_G := th_G2 (List.mem_of_getElem? (i := 175) rfl) rfl
theorem tw_2_176 : Cond.methodLink RX5 90 yX0_takeGrowthProof ∈ th_G := th_G2 (List.mem_of_getElem? (i := 176) rfl) rfl
theorem tw_2_177 : Cond.instanceMethod yX0_takeGrowthProof ∈ th_G := th_G2 (List.mem_of_getElem? (i := 177) rfl) rfl
theorem tw_2_178 : Cond.selects RX0 yX0_takeGrowthProof yX0_takeGrowthProof ∈ th_G := th_G2 (List.mem_of_getElem? (i := 178) rfl) rfl
theorem tw_2_179 : Cond.code yX0_takeGrowthProof cX0_takeGrowthProof 4 none ∈ th_G := th_G2 (List.mem_of_getElem? (i := 179) rfl) rfl
theorem tw_2_180 : Cond.methodLink RX0 30 yX4_leadToGrowth ∈ th_G := th_G2 (List.mem_of_getElem? (i := 180) rfl) rfl
theorem tw_2_181 : Cond.instanceMethod yX4_leadToGrowth ∈ th_G := th_G2 (List.mem_of_getElem? (i := 181) rfl) rfl
theorem tw_2_182 : Cond.selects RX4 yX4_leadToGrowth yX4_leadToGrowth ∈ th_G := th_G2 (List.mem_of_getElem? (i := 182) rfl) rfl
theorem tw_2_183 : Cond.code yX4_leadToGrowth cX4_leadToGrowth 4 none ∈ th_G := th_G2 (List.mem_of_getElem? (i := 183) rfl) rfl
theorem tw_2_184 : Cond.methodLink RX4 36 yX4_endsInTrust ∈ th_G := th_G2 (List.mem_of_getElem? (i := 184) rfl) rfl
theorem tw_2_185 : Cond.instanceMethod yX4_endsInTrust ∈ th_G := th_G2 (List.mem_of_getElem? (i := 185) rfl) rfl
theorem tw_2_186 : Cond.selects RX4 yX4_endsInTrust yX4_endsInTrust ∈ th_G := th_G2 (List.mem_of_getElem? (i := 186) rfl) rfl
theorem tw_2_187 : Cond.code yX4_endsInTrust cX4_endsInTrust 1 (some .boolean) ∈ th_G := th_G2 (List.mem_of_getElem? (i := 187) rfl) rfl
theorem tw_4_73 : Cond.methodLink RL 143 yX6_loadGrowth ∈ th_G := th_G4 (List.mem_of_getElem? (i := 73) rfl) rfl
theorem tw_4_74 : Cond.instanceMethod yX6_loadGrowth ∈ th_G := th_G4 (List.mem_of_getElem? (i := 74) rfl) rfl
theorem tw_4_75 : Cond.selects RX6 yX6_loadGrowth yX6_loadGrowth ∈ th_G := th_G4 (List.mem_of_getElem? (i := 75) rfl) rfl
theorem tw_4_76 : Cond.code yX6_loadGrowth cX6_loadGrowth 5 (some .int) ∈ th_G := th_G4 (List.mem_of_getElem? (i := 76) rfl) rfl
theorem tw_3_168 : Cond.fieldLink RX6 121 "TreeheadGalleryModel" "endTrust" "Z" ∈ th_G := th_G3 (List.mem_of_getElem? (i := 168) rfl) rfl
theorem tw_3_166 : Cond.fieldLink RX6 115 "TreeheadGalleryModel" "endFrom" "I" ∈ th_G := th_G3 (List.mem_of_getElem? (i := 166) rfl) rfl
theorem tw_3_167 : Cond.fieldLink RX6 118 "TreeheadGalleryModel" "endSize" "I" ∈ th_G := th_G3 (List.mem_of_getElem? (i := 167) rfl) rfl
theorem tw_4_77 : Cond.methodLink RX6 140 yX6_goToPart ∈ th_G := th_G4 (List.mem_of_getElem? (i := 77) rfl) rfl
theorem tw_4_79 : Cond.instanceMethod yX6_goToPart ∈ th_G := th_G4 (List.mem_of_getElem? (i := 79) rfl) rfl
theorem tw_0_16 : Cond.selects RX6 yX6_goToPart yX6_goToPart ∈ th_G := th_G0 (List.mem_of_getElem? (i := 16) rfl) rfl
theorem tw_4_80 : Cond.code yX6_goToPart cX6_goToPart 6 none ∈ th_G := th_G4 (List.mem_of_getElem? (i := 80) rfl) rfl
theorem tw_2_188 : Cond.methodLink RL 144 yL_loadKey ∈ th_G := th_G2 (List.mem_of_getElem? (i := 188) rfl) rfl
theorem tw_2_189 : Cond.static yL_loadKey ∈ th_G := th_G2 (List.mem_of_getElem? (i := 189) rfl) rfl
theorem tw_2_190 : Cond.codeWith yL_loadKey cL_loadKey 4 (some .int) [(0, 9, 12, 15)] ∈ th_G := th_G2 (List.mem_of_getElem? (i := 190) rfl) rfl
theorem tw_2_191 : Cond.methodLink RL 45 yX5_loadKey ∈ th_G := th_G2 (List.mem_of_getElem? (i := 191) rfl) rfl
theorem tw_2_192 : Cond.instanceMethod yX5_loadKey ∈ th_G := th_G2 (List.mem_of_getElem? (i := 192) rfl) rfl
theorem tw_2_193 : Cond.selects RX5 yX5_loadKey yX5_loadKey ∈ th_G := th_G2 (List.mem_of_getElem? (i := 193) rfl) rfl
theorem tw_2_194 : Cond.code yX5_loadKey cX5_loadKey 2 (some .int) ∈ th_G := th_G2 (List.mem_of_getElem? (i := 194) rfl) rfl
theorem tw_2_195 : Cond.methodLink RX5 93 yX0_takeKeyProof ∈ th_G := th_G2 (List.mem_of_getElem? (i := 195) rfl) rfl
theorem tw_2_196 : Cond.instanceMethod yX0_takeKeyProof ∈ th_G := th_G2 (List.mem_of_getElem? (i := 196) rfl) rfl
theorem tw_2_197 : Cond.selects RX0 yX0_takeKeyProof yX0_takeKeyProof ∈ th_G := th_G2 (List.mem_of_getElem? (i := 197) rfl) rfl
theorem tw_2_198 : Cond.code yX0_takeKeyProof cX0_takeKeyProof 4 none ∈ th_G := th_G2 (List.mem_of_getElem? (i := 198) rfl) rfl
theorem tw_2_199 : Cond.methodLink RX0 44 yX1_sumBeside ∈ th_G := th_G2 (List.mem_of_getElem? (i := 199) rfl) rfl
theorem tw_2_200 : Cond.instanceMethod yX1_sumBeside ∈ th_G := th_G2 (List.mem_of_getElem? (i := 200) rfl) rfl
theorem tw_2_201 : Cond.selects RX1 yX1_sumBeside yX1_sumBeside ∈ th_G := th_G2 (List.mem_of_getElem? (i := 201) rfl) rfl
theorem tw_2_202 : Cond.code yX1_sumBeside cX1_sumBeside 3 (some .int) ∈ th_G := th_G2 (List.mem_of_getElem? (i := 202) rfl) rfl
theorem tw_4_81 : Cond.methodLink RL 146 yX6_loadKey ∈ th_G := th_G4 (List.mem_of_getElem? (i := 81) rfl) rfl
theorem tw_4_82 : Cond.instanceMethod yX6_loadKey ∈ th_G := th_G4 (List.mem_of_getElem? (i := 82) rfl) rfl
theorem tw_4_83 : Cond.selects RX6 yX6_loadKey yX6_loadKey ∈ th_G := th_G4 (List.mem_of_getElem? (i := 83) rfl) rfl
theorem tw_4_84 : Cond.code yX6_loadKey cX6_loadKey 3 (some .int) ∈ th_G := th_G4 (List.mem_of_getElem? (i := 84) rfl) rfl
theorem tw_4_85 : Cond.methodLink RX6 149 yX6_isKey ∈ th_G := th_G4 (List.mem_of_getElem? (i := 85) rfl) rfl
theorem tw_4_86 : Cond.static yX6_isKey ∈ th_G := th_G4 (List.mem_of_getElem? (i := 86) rfl) rfl
theorem tw_4_87 : Cond.code yX6_isKey cX6_isKey 1 (some .boolean) ∈ th_G := th_G4 (List.mem_of_getElem? (i := 87) rfl) rfl
theorem tw_4_88 : Cond.methodLink RX6 152 yX6_climb ∈ th_G := th_G4 (List.mem_of_getElem? (i := 88) rfl) rfl
theorem tw_4_90 : Cond.instanceMethod yX6_climb ∈ th_G := th_G4 (List.mem_of_getElem? (i := 90) rfl) rfl
theorem tw_0_17 : Cond.selects RX6 yX6_climb yX6_climb ∈ th_G := th_G0 (List.mem_of_getElem? (i := 17) rfl) rfl
theorem tw_4_91 : Cond.code yX6_climb cX6_climb 5 (some .int) ∈ th_G := th_G4 (List.mem_of_getElem? (i := 91) rfl) rfl
theorem tw_4_92 : Cond.methodLink RX6 143 yX6_keySum ∈ th_G := th_G4 (List.mem_of_getElem? (i := 92) rfl) rfl
theorem tw_4_93 : Cond.static yX6_keySum ∈ th_G := th_G4 (List.mem_of_getElem? (i := 93) rfl) rfl
theorem tw_4_94 : Cond.code yX6_keySum cX6_keySum 1 (some .int) ∈ th_G := th_G4 (List.mem_of_getElem? (i := 94) rfl) rfl
theorem tw_4_95 : Cond.methodLink RX6 146 yX6_join ∈ th_G := th_G4 (List.mem_of_getElem? (i := 95) rfl) rfl
theorem tw_4_96 : Cond.static yX6_join ∈ th_G := th_G4 (List.mem_of_getElem? (i := 96) rfl) rfl
theorem tw_4_97 : Cond.code yX6_join cX6_join 2 (some .int) ∈ th_G := th_G4 (List.mem_of_getElem? (i := 97) rfl) rfl
theorem tw_2_203 : Cond.methodLink RL 147 yL_change ∈ th_G := th_G2 (List.mem_of_getElem? (i := 203) rfl) rfl
theorem tw_2_204 : Cond.static yL_change ∈ th_G := th_G2 (List.mem_of_getElem? (i := 204) rfl) rfl
theorem tw_2_205 : Cond.codeWith yL_change cL_change 5 (some .int) [(0, 10, 13, 13), (0, 10, 17, 15), (0, 10, 21, 17)] ∈ th_G := th_G2 (List.mem_of_getElem? (i := 205) rfl) rfl
theorem tw_2_206 : Cond.methodLink RL 48 yX5_change ∈ th_G := th_G2 (List.mem_of_getElem? (i := 206) rfl) rfl
theorem tw_2_207 : Cond.instanceMethod yX5_change ∈ th_G := th_G2 (List.mem_of_getElem? (i := 207) rfl) rfl
theorem tw_2_208 : Cond.selects RX5 yX5_change yX5_change ∈ th_G := th_G2 (List.mem_of_getElem? (i := 208) rfl) rfl
theorem tw_2_209 : Cond.code yX5_change cX5_change 3 (some .int) ∈ th_G := th_G2 (List.mem_of_getElem? (i := 209) rfl) rfl
theorem tw_2_211 : Cond.constant RX5 99 (1000002) ∈ th_G := th_G2 (List.mem_of_getElem? (i := 211) rfl) rfl
theorem tw_2_213 : Cond.methodLink RX5 102 yX0_write ∈ th_G := th_G2 (List.mem_of_getElem? (i := 213) rfl) rfl
theorem tw_2_214 : Cond.instanceMethod yX0_write ∈ th_G := th_G2 (List.mem_of_getElem? (i := 214) rfl) rfl
theorem tw_2_215 : Cond.selects RX0 yX0_write yX0_write ∈ th_G := th_G2 (List.mem_of_getElem? (i := 215) rfl) rfl
theorem tw_2_216 : Cond.code yX0_write cX0_write 3 none ∈ th_G := th_G2 (List.mem_of_getElem? (i := 216) rfl) rfl
theorem tw_4_98 : Cond.methodLink RL 149 yX6_change ∈ th_G := th_G4 (List.mem_of_getElem? (i := 98) rfl) rfl
theorem tw_4_99 : Cond.instanceMethod yX6_change ∈ th_G := th_G4 (List.mem_of_getElem? (i := 99) rfl) rfl
theorem tw_4_100 : Cond.selects RX6 yX6_change yX6_change ∈ th_G := th_G4 (List.mem_of_getElem? (i := 100) rfl) rfl
theorem tw_4_101 : Cond.code yX6_change cX6_change 3 (some .int) ∈ th_G := th_G4 (List.mem_of_getElem? (i := 101) rfl) rfl
theorem tw_4_102 : Cond.constant RX6 155 (1000002) ∈ th_G := th_G4 (List.mem_of_getElem? (i := 102) rfl) rfl
theorem tw_2_217 : Cond.methodLink RL 150 yL_shorten ∈ th_G := th_G2 (List.mem_of_getElem? (i := 217) rfl) rfl
theorem tw_2_218 : Cond.static yL_shorten ∈ th_G := th_G2 (List.mem_of_getElem? (i := 218) rfl) rfl
theorem tw_2_219 : Cond.codeWith yL_shorten cL_shorten 3 (some .int) [(0, 8, 11, 17)] ∈ th_G := th_G2 (List.mem_of_getElem? (i := 219) rfl) rfl
theorem tw_2_220 : Cond.methodLink RL 51 yX5_shorten ∈ th_G := th_G2 (List.mem_of_getElem? (i := 220) rfl) rfl
theorem tw_2_221 : Cond.instanceMethod yX5_shorten ∈ th_G := th_G2 (List.mem_of_getElem? (i := 221) rfl) rfl
theorem tw_2_222 : Cond.selects RX5 yX5_shorten yX5_shorten ∈ th_G := th_G2 (List.mem_of_getElem? (i := 222) rfl) rfl
theorem tw_2_223 : Cond.code yX5_shorten cX5_shorten 1 (some .int) ∈ th_G := th_G2 (List.mem_of_getElem? (i := 223) rfl) rfl
theorem tw_2_225 : Cond.methodLink RX5 108 yX0_dropLast ∈ th_G := th_G2 (List.mem_of_getElem? (i := 225) rfl) rfl
theorem tw_2_226 : Cond.instanceMethod yX0_dropLast ∈ th_G := th_G2 (List.mem_of_getElem? (i := 226) rfl) rfl
theorem tw_2_227 : Cond.selects RX0 yX0_dropLast yX0_dropLast ∈ th_G := th_G2 (List.mem_of_getElem? (i := 227) rfl) rfl
theorem tw_2_228 : Cond.code yX0_dropLast cX0_dropLast 2 (some .int) ∈ th_G := th_G2 (List.mem_of_getElem? (i := 228) rfl) rfl
theorem tw_2_229 : Cond.methodLink RX0 50 yX0_read ∈ th_G := th_G2 (List.mem_of_getElem? (i := 229) rfl) rfl
theorem tw_2_230 : Cond.instanceMethod yX0_read ∈ th_G := th_G2 (List.mem_of_getElem? (i := 230) rfl) rfl
theorem tw_2_231 : Cond.selects RX0 yX0_read yX0_read ∈ th_G := th_G2 (List.mem_of_getElem? (i := 231) rfl) rfl
theorem tw_2_232 : Cond.code yX0_read cX0_read 2 (some .int) ∈ th_G := th_G2 (List.mem_of_getElem? (i := 232) rfl) rfl
theorem tw_4_103 : Cond.methodLink RL 153 yX6_shorten ∈ th_G := th_G4 (List.mem_of_getElem? (i := 103) rfl) rfl
theorem tw_4_104 : Cond.instanceMethod yX6_shorten ∈ th_G := th_G4 (List.mem_of_getElem? (i := 104) rfl) rfl
theorem tw_4_105 : Cond.selects RX6 yX6_shorten yX6_shorten ∈ th_G := th_G4 (List.mem_of_getElem? (i := 105) rfl) rfl
theorem tw_4_106 : Cond.code yX6_shorten cX6_shorten 1 (some .int) ∈ th_G := th_G4 (List.mem_of_getElem? (i := 106) rfl) rfl
theorem tw_1_153 : Cond.methodLink RL 154 yX5_sums ∈ th_G := th_G1 (List.mem_of_getElem? (i := 153) rfl) rfl
theorem tw_1_154 : Cond.instanceMethod yX5_sums ∈ th_G := th_G1 (List.mem_of_getElem? (i := 154) rfl) rfl
theorem tw_1_155 : Cond.selects RX5 yX5_sums yX5_sums ∈ th_G := th_G1 (List.mem_of_getElem? (i := 155) rfl) rfl
theorem tw_1_156 : Cond.code yX5_sums cX5_sums 1 (some .int) ∈ th_G := th_G1 (List.mem_of_getElem? (i := 156) rfl) rfl
theorem tw_4_107 : Cond.methodLink RL 157 yX6_sums ∈ th_G := th_G4 (List.mem_of_getElem? (i := 107) rfl) rfl
theorem tw_4_108 : Cond.instanceMethod yX6_sums ∈ th_G := th_G4 (List.mem_of_getElem? (i := 108) rfl) rfl
theorem tw_4_109 : Cond.selects RX6 yX6_sums yX6_sums ∈ th_G := th_G4 (List.mem_of_getElem? (i := 109) rfl) rfl
theorem tw_4_110 : Cond.code yX6_sums cX6_sums 1 (some .int) ∈ th_G := th_G4 (List.mem_of_getElem? (i := 110) rfl) rfl
theorem tw_2_233 : Cond.methodLink RL 158 yL_sumAt ∈ th_G := th_G2 (List.mem_of_getElem? (i := 233) rfl) rfl
theorem tw_2_234 : Cond.static yL_sumAt ∈ th_G := th_G2 (List.mem_of_getElem? (i := 234) rfl) rfl
theorem tw_2_235 : Cond.codeWith yL_sumAt cL_sumAt 4 (some .int) [(0, 9, 12, 13)] ∈ th_G := th_G2 (List.mem_of_getElem? (i := 235) rfl) rfl
theorem tw_2_236 : Cond.methodLink RL 55 yX5_sumAt ∈ th_G := th_G2 (List.mem_of_getElem? (i := 236) rfl) rfl
theorem tw_2_237 : Cond.instanceMethod yX5_sumAt ∈ th_G := th_G2 (List.mem_of_getElem? (i := 237) rfl) rfl
theorem tw_2_238 : Cond.selects RX5 yX5_sumAt yX5_sumAt ∈ th_G := th_G2 (List.mem_of_getElem? (i := 238) rfl) rfl
theorem tw_2_239 : Cond.code yX5_sumAt cX5_sumAt 2 (some .int) ∈ th_G := th_G2 (List.mem_of_getElem? (i := 239) rfl) rfl
theorem tw_3_1 : Cond.methodLink RX5 114 yX0_read ∈ th_G := th_G3 (List.mem_of_getElem? (i := 1) rfl) rfl
theorem tw_4_111 : Cond.methodLink RL 160 yX6_sumAt ∈ th_G := th_G4 (List.mem_of_getElem? (i := 111) rfl) rfl
theorem tw_4_112 : Cond.instanceMethod yX6_sumAt ∈ th_G := th_G4 (List.mem_of_getElem? (i := 112) rfl) rfl
theorem tw_4_113 : Cond.selects RX6 yX6_sumAt yX6_sumAt ∈ th_G := th_G4 (List.mem_of_getElem? (i := 113) rfl) rfl
theorem tw_4_114 : Cond.code yX6_sumAt cX6_sumAt 2 (some .int) ∈ th_G := th_G4 (List.mem_of_getElem? (i := 114) rfl) rfl
theorem tw_3_2 : Cond.methodLink RL 161 yL_testLeaf ∈ th_G := th_G3 (List.mem_of_getElem? (i := 2) rfl) rfl
theorem tw_3_3 : Cond.static yL_testLeaf ∈ th_G := th_G3 (List.mem_of_getElem? (i := 3) rfl) rfl
theorem tw_3_4 : Cond.codeWith yL_testLeaf cL_testLeaf 7 (some .int) [(0, 21, 24, 13), (0, 21, 28, 15)] ∈ th_G := th_G3 (List.mem_of_getElem? (i := 4) rfl) rfl
theorem tw_3_5 : Cond.methodLink RL 58 yX5_testLeaf ∈ th_G := th_G3 (List.mem_of_getElem? (i := 5) rfl) rfl
theorem tw_3_6 : Cond.instanceMethod yX5_testLeaf ∈ th_G := th_G3 (List.mem_of_getElem? (i := 6) rfl) rfl
theorem tw_3_7 : Cond.selects RX5 yX5_testLeaf yX5_testLeaf ∈ th_G := th_G3 (List.mem_of_getElem? (i := 7) rfl) rfl
theorem tw_3_8 : Cond.code yX5_testLeaf cX5_testLeaf 6 (some .boolean) ∈ th_G := th_G3 (List.mem_of_getElem? (i := 8) rfl) rfl
theorem tw_3_9 : Cond.methodLink RX5 117 yX0_provesLeaf ∈ th_G := th_G3 (List.mem_of_getElem? (i := 9) rfl) rfl
theorem tw_3_10 : Cond.instanceMethod yX0_provesLeaf ∈ th_G := th_G3 (List.mem_of_getElem? (i := 10) rfl) rfl
theorem tw_3_11 : Cond.selects RX0 yX0_provesLeaf yX0_provesLeaf ∈ th_G := th_G3 (List.mem_of_getElem? (i := 11) rfl) rfl
theorem tw_3_12 : Cond.code yX0_provesLeaf cX0_provesLeaf 8 (some .boolean) ∈ th_G := th_G3 (List.mem_of_getElem? (i := 12) rfl) rfl
theorem tw_3_14 : Cond.methodLink RX0 57 yX4_isFirstAt ∈ th_G := th_G3 (List.mem_of_getElem? (i := 14) rfl) rfl
theorem tw_3_15 : Cond.instanceMethod yX4_isFirstAt ∈ th_G := th_G3 (List.mem_of_getElem? (i := 15) rfl) rfl
theorem tw_3_16 : Cond.selects RX4 yX4_isFirstAt yX4_isFirstAt ∈ th_G := th_G3 (List.mem_of_getElem? (i := 16) rfl) rfl
theorem tw_3_17 : Cond.code yX4_isFirstAt cX4_isFirstAt 3 (some .boolean) ∈ th_G := th_G3 (List.mem_of_getElem? (i := 17) rfl) rfl
theorem tw_4_115 : Cond.methodLink RL 164 yX6_testLeaf ∈ th_G := th_G4 (List.mem_of_getElem? (i := 115) rfl) rfl
theorem tw_4_116 : Cond.instanceMethod yX6_testLeaf ∈ th_G := th_G4 (List.mem_of_getElem? (i := 116) rfl) rfl
theorem tw_4_117 : Cond.selects RX6 yX6_testLeaf yX6_testLeaf ∈ th_G := th_G4 (List.mem_of_getElem? (i := 117) rfl) rfl
theorem tw_4_118 : Cond.code yX6_testLeaf cX6_testLeaf 8 (some .boolean) ∈ th_G := th_G4 (List.mem_of_getElem? (i := 118) rfl) rfl
theorem tw_3_19 : Cond.methodLink RL 165 yL_testGrowth ∈ th_G := th_G3 (List.mem_of_getElem? (i := 19) rfl) rfl
theorem tw_3_20 : Cond.static yL_testGrowth ∈ th_G := th_G3 (List.mem_of_getElem? (i := 20) rfl) rfl
theorem tw_3_21 : Cond.codeWith yL_testGrowth cL_testGrowth 7 (some .int) [(0, 21, 24, 13), (0, 21, 28, 15)] ∈ th_G := th_G3 (List.mem_of_getElem? (i := 21) rfl) rfl
theorem tw_3_22 : Cond.methodLink RL 62 yX5_testGrowth ∈ th_G := th_G3 (List.mem_of_getElem? (i := 22) rfl) rfl
theorem tw_3_23 : Cond.instanceMethod yX5_testGrowth ∈ th_G := th_G3 (List.mem_of_getElem? (i := 23) rfl) rfl
theorem tw_3_24 : Cond.selects RX5 yX5_testGrowth yX5_testGrowth ∈ th_G := th_G3 (List.mem_of_getElem? (i := 24) rfl) rfl
theorem tw_3_25 : Cond.code yX5_testGrowth cX5_testGrowth 7 (some .boolean) ∈ th_G := th_G3 (List.mem_of_getElem? (i := 25) rfl) rfl
theorem tw_3_26 : Cond.methodLink RX5 121 yX0_provesGrowth ∈ th_G := th_G3 (List.mem_of_getElem? (i := 26) rfl) rfl
theorem tw_3_27 : Cond.instanceMethod yX0_provesGrowth ∈ th_G := th_G3 (List.mem_of_getElem? (i := 27) rfl) rfl
theorem tw_3_28 : Cond.selects RX0 yX0_provesGrowth yX0_provesGrowth ∈ th_G := th_G3 (List.mem_of_getElem? (i := 28) rfl) rfl
theorem tw_3_29 : Cond.code yX0_provesGrowth cX0_provesGrowth 11 (some .boolean) ∈ th_G := th_G3 (List.mem_of_getElem? (i := 29) rfl) rfl
theorem tw_3_30 : Cond.methodLink RX0 64 yX4_endsInTrust ∈ th_G := th_G3 (List.mem_of_getElem? (i := 30) rfl) rfl
theorem tw_4_119 : Cond.methodLink RL 167 yX6_testGrowth ∈ th_G := th_G4 (List.mem_of_getElem? (i := 119) rfl) rfl
theorem tw_4_120 : Cond.instanceMethod yX6_testGrowth ∈ th_G := th_G4 (List.mem_of_getElem? (i := 120) rfl) rfl
theorem tw_4_121 : Cond.selects RX6 yX6_testGrowth yX6_testGrowth ∈ th_G := th_G4 (List.mem_of_getElem? (i := 121) rfl) rfl
theorem tw_4_122 : Cond.code yX6_testGrowth cX6_testGrowth 13 (some .boolean) ∈ th_G := th_G4 (List.mem_of_getElem? (i := 122) rfl) rfl
theorem tw_3_31 : Cond.methodLink RL 168 yL_testKey ∈ th_G := th_G3 (List.mem_of_getElem? (i := 31) rfl) rfl
theorem tw_3_32 : Cond.static yL_testKey ∈ th_G := th_G3 (List.mem_of_getElem? (i := 32) rfl) rfl
theorem tw_3_33 : Cond.codeWith yL_testKey cL_testKey 5 (some .int) [(0, 17, 20, 15)] ∈ th_G := th_G3 (List.mem_of_getElem? (i := 33) rfl) rfl
theorem tw_3_34 : Cond.methodLink RL 65 yX5_testKey ∈ th_G := th_G3 (List.mem_of_getElem? (i := 34) rfl) rfl
theorem tw_3_35 : Cond.instanceMethod yX5_testKey ∈ th_G := th_G3 (List.mem_of_getElem? (i := 35) rfl) rfl
theorem tw_3_36 : Cond.selects RX5 yX5_testKey yX5_testKey ∈ th_G := th_G3 (List.mem_of_getElem? (i := 36) rfl) rfl
theorem tw_3_37 : Cond.code yX5_testKey cX5_testKey 3 (some .boolean) ∈ th_G := th_G3 (List.mem_of_getElem? (i := 37) rfl) rfl
theorem tw_1_161 : Cond.methodLink RX5 124 yX1_rootSum ∈ th_G := th_G1 (List.mem_of_getElem? (i := 161) rfl) rfl
theorem tw_1_162 : Cond.instanceMethod yX1_rootSum ∈ th_G := th_G1 (List.mem_of_getElem? (i := 162) rfl) rfl
theorem tw_1_163 : Cond.selects RX1 yX1_rootSum yX1_rootSum ∈ th_G := th_G1 (List.mem_of_getElem? (i := 163) rfl) rfl
theorem tw_1_164 : Cond.code yX1_rootSum cX1_rootSum 1 (some .int) ∈ th_G := th_G1 (List.mem_of_getElem? (i := 164) rfl) rfl
theorem tw_3_38 : Cond.methodLink RX5 127 yX0_provesKey ∈ th_G := th_G3 (List.mem_of_getElem? (i := 38) rfl) rfl
theorem tw_3_39 : Cond.instanceMethod yX0_provesKey ∈ th_G := th_G3 (List.mem_of_getElem? (i := 39) rfl) rfl
theorem tw_3_40 : Cond.selects RX0 yX0_provesKey yX0_provesKey ∈ th_G := th_G3 (List.mem_of_getElem? (i := 40) rfl) rfl
theorem tw_3_41 : Cond.code yX0_provesKey cX0_provesKey 8 (some .boolean) ∈ th_G := th_G3 (List.mem_of_getElem? (i := 41) rfl) rfl
theorem tw_3_43 : Cond.static yX5_keySum ∈ th_G := th_G3 (List.mem_of_getElem? (i := 43) rfl) rfl
theorem tw_3_44 : Cond.code yX5_keySum cX5_keySum 1 (some .int) ∈ th_G := th_G3 (List.mem_of_getElem? (i := 44) rfl) rfl
theorem tw_3_45 : Cond.methodLink RX5 187 yX5_leafSum ∈ th_G := th_G3 (List.mem_of_getElem? (i := 45) rfl) rfl
theorem tw_3_47 : Cond.static yX5_mapMix ∈ th_G := th_G3 (List.mem_of_getElem? (i := 47) rfl) rfl
theorem tw_3_48 : Cond.code yX5_mapMix cX5_mapMix 2 (some .int) ∈ th_G := th_G3 (List.mem_of_getElem? (i := 48) rfl) rfl
theorem tw_3_49 : Cond.methodLink RX5 190 yX5_mix ∈ th_G := th_G3 (List.mem_of_getElem? (i := 49) rfl) rfl
theorem tw_4_123 : Cond.methodLink RL 170 yX6_testKey ∈ th_G := th_G4 (List.mem_of_getElem? (i := 123) rfl) rfl
theorem tw_4_124 : Cond.instanceMethod yX6_testKey ∈ th_G := th_G4 (List.mem_of_getElem? (i := 124) rfl) rfl
theorem tw_4_125 : Cond.selects RX6 yX6_testKey yX6_testKey ∈ th_G := th_G4 (List.mem_of_getElem? (i := 125) rfl) rfl
theorem tw_4_126 : Cond.code yX6_testKey cX6_testKey 5 (some .boolean) ∈ th_G := th_G4 (List.mem_of_getElem? (i := 126) rfl) rfl
theorem tw_3_50 : Cond.methodLink RL 171 yL_put ∈ th_G := th_G3 (List.mem_of_getElem? (i := 50) rfl) rfl
theorem tw_3_51 : Cond.static yL_put ∈ th_G := th_G3 (List.mem_of_getElem? (i := 51) rfl) rfl
theorem tw_3_52 : Cond.codeWith yL_put cL_put 5 (some .int) [(0, 10, 13, 15)] ∈ th_G := th_G3 (List.mem_of_getElem? (i := 52) rfl) rfl
theorem tw_3_53 : Cond.methodLink RL 69 yX5_put ∈ th_G := th_G3 (List.mem_of_getElem? (i := 53) rfl) rfl
theorem tw_3_54 : Cond.instanceMethod yX5_put ∈ th_G := th_G3 (List.mem_of_getElem? (i := 54) rfl) rfl
theorem tw_3_55 : Cond.selects RX5 yX5_put yX5_put ∈ th_G := th_G3 (List.mem_of_getElem? (i := 55) rfl) rfl
theorem tw_3_56 : Cond.code yX5_put cX5_put 3 (some .int) ∈ th_G := th_G3 (List.mem_of_getElem? (i := 56) rfl) rfl
theorem tw_3_57 : Cond.methodLink RX5 131 yX1_replace ∈ th_G := th_G3 (List.mem_of_getElem? (i := 57) rfl) rfl
theorem tw_3_58 : Cond.instanceMethod yX1_replace ∈ th_G := th_G3 (List.mem_of_getElem? (i := 58) rfl) rfl
theorem tw_3_59 : Cond.selects RX1 yX1_replace yX1_replace ∈ th_G := th_G3 (List.mem_of_getElem? (i := 59) rfl) rfl
theorem tw_3_60 : Cond.code yX1_replace cX1_replace 6 (some .int) ∈ th_G := th_G3 (List.mem_of_getElem? (i := 60) rfl) rfl
theorem tw_4_127 : Cond.methodLink RL 173 yX6_put ∈ th_G := th_G4 (List.mem_of_getElem? (i := 127) rfl) rfl
theorem tw_4_128 : Cond.instanceMethod yX6_put ∈ th_G := th_G4 (List.mem_of_getElem? (i := 128) rfl) rfl
theorem tw_4_129 : Cond.selects RX6 yX6_put yX6_put ∈ th_G := th_G4 (List.mem_of_getElem? (i := 129) rfl) rfl
theorem tw_4_130 : Cond.code yX6_put cX6_put 4 (some .int) ∈ th_G := th_G4 (List.mem_of_getElem? (i := 130) rfl) rfl
theorem tw_3_63 : Cond.methodLink RL 174 yL_remove ∈ th_G := th_G3 (List.mem_of_getElem? (i := 63) rfl) rfl
theorem tw_3_64 : Cond.static yL_remove ∈ th_G := th_G3 (List.mem_of_getElem? (i := 64) rfl) rfl
theorem tw_3_65 : Cond.codeWith yL_remove cL_remove 4 (some .int) [(0, 9, 12, 15)] ∈ th_G := th_G3 (List.mem_of_getElem? (i := 65) rfl) rfl
theorem tw_3_66 : Cond.methodLink RL 72 yX5_remove ∈ th_G := th_G3 (List.mem_of_getElem? (i := 66) rfl) rfl
theorem tw_3_67 : Cond.instanceMethod yX5_remove ∈ th_G := th_G3 (List.mem_of_getElem? (i := 67) rfl) rfl
theorem tw_3_68 : Cond.selects RX5 yX5_remove yX5_remove ∈ th_G := th_G3 (List.mem_of_getElem? (i := 68) rfl) rfl
theorem tw_3_69 : Cond.code yX5_remove cX5_remove 2 (some .int) ∈ th_G := th_G3 (List.mem_of_getElem? (i := 69) rfl) rfl
theorem tw_4_131 : Cond.methodLink RL 176 yX6_remove ∈ th_G := th_G4 (List.mem_of_getElem? (i := 131) rfl) rfl
theorem tw_4_132 : Cond.instanceMethod yX6_remove ∈ th_G := th_G4 (List.mem_of_getElem? (i := 132) rfl) rfl
theorem tw_4_133 : Cond.selects RX6 yX6_remove yX6_remove ∈ th_G := th_G4 (List.mem_of_getElem? (i := 133) rfl) rfl
theorem tw_4_134 : Cond.code yX6_remove cX6_remove 3 (some .int) ∈ th_G := th_G4 (List.mem_of_getElem? (i := 134) rfl) rfl
theorem tw_3_70 : Cond.methodLink RL 177 yL_get ∈ th_G := th_G3 (List.mem_of_getElem? (i := 70) rfl) rfl
theorem tw_3_71 : Cond.static yL_get ∈ th_G := th_G3 (List.mem_of_getElem? (i := 71) rfl) rfl
theorem tw_3_72 : Cond.codeWith yL_get cL_get 4 (some .int) [(0, 9, 12, 15)] ∈ th_G := th_G3 (List.mem_of_getElem? (i := 72) rfl) rfl
theorem tw_3_73 : Cond.methodLink RL 75 yX5_get ∈ th_G := th_G3 (List.mem_of_getElem? (i := 73) rfl) rfl
theorem tw_3_74 : Cond.instanceMethod yX5_get ∈ th_G := th_G3 (List.mem_of_getElem? (i := 74) rfl) rfl
theorem tw_3_75 : Cond.selects RX5 yX5_get yX5_get ∈ th_G := th_G3 (List.mem_of_getElem? (i := 75) rfl) rfl
theorem tw_3_76 : Cond.code yX5_get cX5_get 2 (some .int) ∈ th_G := th_G3 (List.mem_of_getElem? (i := 76) rfl) rfl
theorem tw_3_77 : Cond.methodLink RX5 135 yX1_valueAt ∈ th_G := th_G3 (List.mem_of_getElem? (i := 77) rfl) rfl
theorem tw_3_78 : Cond.instanceMethod yX1_valueAt ∈ th_G := th_G3 (List.mem_of_getElem? (i := 78) rfl) rfl
theorem tw_3_79 : Cond.selects RX1 yX1_valueAt yX1_valueAt ∈ th_G := th_G3 (List.mem_of_getElem? (i := 79) rfl) rfl
theorem tw_3_80 : Cond.code yX1_valueAt cX1_valueAt 2 (some .int) ∈ th_G := th_G3 (List.mem_of_getElem? (i := 80) rfl) rfl
theorem tw_4_135 : Cond.methodLink RL 179 yX6_get ∈ th_G := th_G4 (List.mem_of_getElem? (i := 135) rfl) rfl
theorem tw_4_136 : Cond.instanceMethod yX6_get ∈ th_G := th_G4 (List.mem_of_getElem? (i := 136) rfl) rfl
theorem tw_4_137 : Cond.selects RX6 yX6_get yX6_get ∈ th_G := th_G4 (List.mem_of_getElem? (i := 137) rfl) rfl
theorem tw_4_138 : Cond.code yX6_get cX6_get 2 (some .int) ∈ th_G := th_G4 (List.mem_of_getElem? (i := 138) rfl) rfl
theorem tw_1_157 : Cond.methodLink RL 180 yX5_mapRoot ∈ th_G := th_G1 (List.mem_of_getElem? (i := 157) rfl) rfl
theorem tw_1_158 : Cond.instanceMethod yX5_mapRoot ∈ th_G := th_G1 (List.mem_of_getElem? (i := 158) rfl) rfl
theorem tw_1_159 : Cond.selects RX5 yX5_mapRoot yX5_mapRoot ∈ th_G := th_G1 (List.mem_of_getElem? (i := 159) rfl) rfl
theorem tw_1_160 : Cond.code yX5_mapRoot cX5_mapRoot 1 (some .int) ∈ th_G := th_G1 (List.mem_of_getElem? (i := 160) rfl) rfl
theorem tw_4_139 : Cond.methodLink RL 183 yX6_mapRoot ∈ th_G := th_G4 (List.mem_of_getElem? (i := 139) rfl) rfl
theorem tw_4_140 : Cond.instanceMethod yX6_mapRoot ∈ th_G := th_G4 (List.mem_of_getElem? (i := 140) rfl) rfl
theorem tw_4_141 : Cond.selects RX6 yX6_mapRoot yX6_mapRoot ∈ th_G := th_G4 (List.mem_of_getElem? (i := 141) rfl) rfl
theorem tw_4_142 : Cond.code yX6_mapRoot cX6_mapRoot 1 (some .int) ∈ th_G := th_G4 (List.mem_of_getElem? (i := 142) rfl) rfl
theorem tw_3_81 : Cond.methodLink RL 184 yL_show ∈ th_G := th_G3 (List.mem_of_getElem? (i := 81) rfl) rfl
theorem tw_3_82 : Cond.static yL_show ∈ th_G := th_G3 (List.mem_of_getElem? (i := 82) rfl) rfl
theorem tw_3_83 : Cond.codeWith yL_show cL_show 5 (some .int) [(0, 17, 20, 13)] ∈ th_G := th_G3 (List.mem_of_getElem? (i := 83) rfl) rfl
theorem tw_3_84 : Cond.methodLink RL 78 yX5_show ∈ th_G := th_G3 (List.mem_of_getElem? (i := 84) rfl) rfl
theorem tw_3_85 : Cond.instanceMethod yX5_show ∈ th_G := th_G3 (List.mem_of_getElem? (i := 85) rfl) rfl
theorem tw_3_86 : Cond.selects RX5 yX5_show yX5_show ∈ th_G := th_G3 (List.mem_of_getElem? (i := 86) rfl) rfl
theorem tw_3_87 : Cond.code yX5_show cX5_show 4 (some .boolean) ∈ th_G := th_G3 (List.mem_of_getElem? (i := 87) rfl) rfl
theorem tw_3_88 : Cond.methodLink RX5 136 yX5_watcherNumbered ∈ th_G := th_G3 (List.mem_of_getElem? (i := 88) rfl) rfl
theorem tw_3_90 : Cond.instanceMethod yX5_watcherNumbered ∈ th_G := th_G3 (List.mem_of_getElem? (i := 90) rfl) rfl
theorem tw_0_7 : Cond.selects RX5 yX5_watcherNumbered yX5_watcherNumbered ∈ th_G := th_G0 (List.mem_of_getElem? (i := 7) rfl) rfl
theorem tw_3_91 : Cond.code yX5_watcherNumbered cX5_watcherNumbered 3 (some (.object "TreeheadGallery$Watcher")) ∈ th_G := th_G3 (List.mem_of_getElem? (i := 91) rfl) rfl
theorem tw_3_93 : Cond.methodLink RX5 140 yX3_look ∈ th_G := th_G3 (List.mem_of_getElem? (i := 93) rfl) rfl
theorem tw_3_94 : Cond.instanceMethod yX3_look ∈ th_G := th_G3 (List.mem_of_getElem? (i := 94) rfl) rfl
theorem tw_3_95 : Cond.selects RX3 yX3_look yX3_look ∈ th_G := th_G3 (List.mem_of_getElem? (i := 95) rfl) rfl
theorem tw_3_96 : Cond.code yX3_look cX3_look 3 (some .boolean) ∈ th_G := th_G3 (List.mem_of_getElem? (i := 96) rfl) rfl
theorem tw_1_109 : Cond.fieldLink RX3 21 "TreeheadGallery$Watcher" "kept" "LTreeheadGallery$View;" ∈ th_G := th_G1 (List.mem_of_getElem? (i := 109) rfl) rfl
theorem tw_1_114 : Cond.fieldLink RX3 38 "TreeheadGallery$Watcher" "alarmed" "Z" ∈ th_G := th_G1 (List.mem_of_getElem? (i := 114) rfl) rfl
theorem tw_3_97 : Cond.methodLink RX3 30 yX2_rootAt ∈ th_G := th_G3 (List.mem_of_getElem? (i := 97) rfl) rfl
theorem tw_3_98 : Cond.methodLink RX3 34 yX3_countNew ∈ th_G := th_G3 (List.mem_of_getElem? (i := 98) rfl) rfl
theorem tw_3_100 : Cond.instanceMethod yX3_countNew ∈ th_G := th_G3 (List.mem_of_getElem? (i := 100) rfl) rfl
theorem tw_0_8 : Cond.selects RX3 yX3_countNew yX3_countNew ∈ th_G := th_G0 (List.mem_of_getElem? (i := 8) rfl) rfl
theorem tw_3_101 : Cond.code yX3_countNew cX3_countNew 3 none ∈ th_G := th_G3 (List.mem_of_getElem? (i := 101) rfl) rfl
theorem tw_1_118 : Cond.fieldLink RX3 45 "TreeheadGallery$Watcher" "found" "I" ∈ th_G := th_G1 (List.mem_of_getElem? (i := 118) rfl) rfl
theorem tw_3_102 : Cond.methodLink RX3 42 yX2_valueAt ∈ th_G := th_G3 (List.mem_of_getElem? (i := 102) rfl) rfl
theorem tw_4_143 : Cond.methodLink RL 186 yX6_show ∈ th_G := th_G4 (List.mem_of_getElem? (i := 143) rfl) rfl
theorem tw_4_144 : Cond.instanceMethod yX6_show ∈ th_G := th_G4 (List.mem_of_getElem? (i := 144) rfl) rfl
theorem tw_4_145 : Cond.selects RX6 yX6_show yX6_show ∈ th_G := th_G4 (List.mem_of_getElem? (i := 145) rfl) rfl
theorem tw_4_146 : Cond.code yX6_show cX6_show 6 (some .boolean) ∈ th_G := th_G4 (List.mem_of_getElem? (i := 146) rfl) rfl
theorem tw_4_147 : Cond.methodLink RX6 156 yX6_isWatcher ∈ th_G := th_G4 (List.mem_of_getElem? (i := 147) rfl) rfl
theorem tw_4_148 : Cond.static yX6_isWatcher ∈ th_G := th_G4 (List.mem_of_getElem? (i := 148) rfl) rfl
theorem tw_4_149 : Cond.code yX6_isWatcher cX6_isWatcher 1 (some .boolean) ∈ th_G := th_G4 (List.mem_of_getElem? (i := 149) rfl) rfl
theorem tw_3_103 : Cond.methodLink RL 187 yL_gossip ∈ th_G := th_G3 (List.mem_of_getElem? (i := 103) rfl) rfl
theorem tw_3_104 : Cond.static yL_gossip ∈ th_G := th_G3 (List.mem_of_getElem? (i := 104) rfl) rfl
theorem tw_3_105 : Cond.codeWith yL_gossip cL_gossip 5 (some .int) [(0, 17, 20, 13)] ∈ th_G := th_G3 (List.mem_of_getElem? (i := 105) rfl) rfl
theorem tw_3_106 : Cond.methodLink RL 81 yX5_gossip ∈ th_G := th_G3 (List.mem_of_getElem? (i := 106) rfl) rfl
theorem tw_3_107 : Cond.instanceMethod yX5_gossip ∈ th_G := th_G3 (List.mem_of_getElem? (i := 107) rfl) rfl
theorem tw_3_108 : Cond.selects RX5 yX5_gossip yX5_gossip ∈ th_G := th_G3 (List.mem_of_getElem? (i := 108) rfl) rfl
theorem tw_3_109 : Cond.code yX5_gossip cX5_gossip 6 (some .boolean) ∈ th_G := th_G3 (List.mem_of_getElem? (i := 109) rfl) rfl
theorem tw_3_110 : Cond.methodLink RX5 144 yX3_fits ∈ th_G := th_G3 (List.mem_of_getElem? (i := 110) rfl) rfl
theorem tw_3_111 : Cond.instanceMethod yX3_fits ∈ th_G := th_G3 (List.mem_of_getElem? (i := 111) rfl) rfl
theorem tw_3_112 : Cond.selects RX3 yX3_fits yX3_fits ∈ th_G := th_G3 (List.mem_of_getElem? (i := 112) rfl) rfl
theorem tw_3_113 : Cond.code yX3_fits cX3_fits 2 (some .boolean) ∈ th_G := th_G3 (List.mem_of_getElem? (i := 113) rfl) rfl
theorem tw_4_150 : Cond.methodLink RL 189 yX6_gossip ∈ th_G := th_G4 (List.mem_of_getElem? (i := 150) rfl) rfl
theorem tw_4_151 : Cond.instanceMethod yX6_gossip ∈ th_G := th_G4 (List.mem_of_getElem? (i := 151) rfl) rfl
theorem tw_4_152 : Cond.selects RX6 yX6_gossip yX6_gossip ∈ th_G := th_G4 (List.mem_of_getElem? (i := 152) rfl) rfl
theorem tw_4_153 : Cond.code yX6_gossip cX6_gossip 6 (some .boolean) ∈ th_G := th_G4 (List.mem_of_getElem? (i := 153) rfl) rfl
theorem tw_3_114 : Cond.methodLink RL 190 yL_follow ∈ th_G := th_G3 (List.mem_of_getElem? (i := 114) rfl) rfl
theorem tw_3_115 : Cond.static yL_follow ∈ th_G := th_G3 (List.mem_of_getElem? (i := 115) rfl) rfl
theorem tw_3_116 : Cond.codeWith yL_follow cL_follow 4 (some .int) [(0, 6, 9, 13), (0, 6, 12, 15)] ∈ th_G := th_G3 (List.mem_of_getElem? (i := 116) rfl) rfl
theorem tw_3_117 : Cond.methodLink RL 84 yX5_follow ∈ th_G := th_G3 (List.mem_of_getElem? (i := 117) rfl) rfl
theorem tw_3_118 : Cond.instanceMethod yX5_follow ∈ th_G := th_G3 (List.mem_of_getElem? (i := 118) rfl) rfl
theorem tw_3_119 : Cond.selects RX5 yX5_follow yX5_follow ∈ th_G := th_G3 (List.mem_of_getElem? (i := 119) rfl) rfl
theorem tw_3_120 : Cond.code yX5_follow cX5_follow 4 none ∈ th_G := th_G3 (List.mem_of_getElem? (i := 120) rfl) rfl
theorem tw_4_154 : Cond.methodLink RL 193 yX6_follow ∈ th_G := th_G4 (List.mem_of_getElem? (i := 154) rfl) rfl
theorem tw_4_155 : Cond.instanceMethod yX6_follow ∈ th_G := th_G4 (List.mem_of_getElem? (i := 155) rfl) rfl
theorem tw_4_156 : Cond.selects RX6 yX6_follow yX6_follow ∈ th_G := th_G4 (List.mem_of_getElem? (i := 156) rfl) rfl
theorem tw_4_157 : Cond.code yX6_follow cX6_follow 3 none ∈ th_G := th_G4 (List.mem_of_getElem? (i := 157) rfl) rfl
theorem tw_3_121 : Cond.methodLink RL 194 yL_isAlarmed ∈ th_G := th_G3 (List.mem_of_getElem? (i := 121) rfl) rfl
theorem tw_3_122 : Cond.static yL_isAlarmed ∈ th_G := th_G3 (List.mem_of_getElem? (i := 122) rfl) rfl
theorem tw_3_123 : Cond.codeWith yL_isAlarmed cL_isAlarmed 4 (some .int) [(0, 16, 19, 13)] ∈ th_G := th_G3 (List.mem_of_getElem? (i := 123) rfl) rfl
theorem tw_3_124 : Cond.methodLink RL 88 yX5_isAlarmed ∈ th_G := th_G3 (List.mem_of_getElem? (i := 124) rfl) rfl
theorem tw_3_125 : Cond.instanceMethod yX5_isAlarmed ∈ th_G := th_G3 (List.mem_of_getElem? (i := 125) rfl) rfl
theorem tw_3_126 : Cond.selects RX5 yX5_isAlarmed yX5_isAlarmed ∈ th_G := th_G3 (List.mem_of_getElem? (i := 126) rfl) rfl
theorem tw_3_127 : Cond.code yX5_isAlarmed cX5_isAlarmed 2 (some .boolean) ∈ th_G := th_G3 (List.mem_of_getElem? (i := 127) rfl) rfl
theorem tw_4_158 : Cond.methodLink RL 196 yX6_isAlarmed ∈ th_G := th_G4 (List.mem_of_getElem? (i := 158) rfl) rfl
theorem tw_4_159 : Cond.instanceMethod yX6_isAlarmed ∈ th_G := th_G4 (List.mem_of_getElem? (i := 159) rfl) rfl
theorem tw_4_160 : Cond.selects RX6 yX6_isAlarmed yX6_isAlarmed ∈ th_G := th_G4 (List.mem_of_getElem? (i := 160) rfl) rfl
theorem tw_4_161 : Cond.code yX6_isAlarmed cX6_isAlarmed 2 (some .boolean) ∈ th_G := th_G4 (List.mem_of_getElem? (i := 161) rfl) rfl
theorem tw_3_128 : Cond.methodLink RL 197 yL_keptSize ∈ th_G := th_G3 (List.mem_of_getElem? (i := 128) rfl) rfl
theorem tw_3_129 : Cond.static yL_keptSize ∈ th_G := th_G3 (List.mem_of_getElem? (i := 129) rfl) rfl
theorem tw_3_130 : Cond.codeWith yL_keptSize cL_keptSize 4 (some .int) [(0, 9, 12, 13)] ∈ th_G := th_G3 (List.mem_of_getElem? (i := 130) rfl) rfl
theorem tw_3_131 : Cond.methodLink RL 92 yX5_keptSize ∈ th_G := th_G3 (List.mem_of_getElem? (i := 131) rfl) rfl
theorem tw_3_132 : Cond.instanceMethod yX5_keptSize ∈ th_G := th_G3 (List.mem_of_getElem? (i := 132) rfl) rfl
theorem tw_3_133 : Cond.selects RX5 yX5_keptSize yX5_keptSize ∈ th_G := th_G3 (List.mem_of_getElem? (i := 133) rfl) rfl
theorem tw_3_134 : Cond.code yX5_keptSize cX5_keptSize 2 (some .int) ∈ th_G := th_G3 (List.mem_of_getElem? (i := 134) rfl) rfl
theorem tw_4_162 : Cond.methodLink RL 199 yX6_keptSize ∈ th_G := th_G4 (List.mem_of_getElem? (i := 162) rfl) rfl
theorem tw_4_163 : Cond.instanceMethod yX6_keptSize ∈ th_G := th_G4 (List.mem_of_getElem? (i := 163) rfl) rfl
theorem tw_4_164 : Cond.selects RX6 yX6_keptSize yX6_keptSize ∈ th_G := th_G4 (List.mem_of_getElem? (i := 164) rfl) rfl
theorem tw_4_165 : Cond.code yX6_keptSize cX6_keptSize 2 (some .int) ∈ th_G := th_G4 (List.mem_of_getElem? (i := 165) rfl) rfl
theorem tw_3_135 : Cond.methodLink RL 200 yL_keptRoot ∈ th_G := th_G3 (List.mem_of_getElem? (i := 135) rfl) rfl
theorem tw_3_136 : Cond.static yL_keptRoot ∈ th_G := th_G3 (List.mem_of_getElem? (i := 136) rfl) rfl
theorem tw_3_137 : Cond.codeWith yL_keptRoot cL_keptRoot 4 (some .int) [(0, 9, 12, 13)] ∈ th_G := th_G3 (List.mem_of_getElem? (i := 137) rfl) rfl
theorem tw_3_138 : Cond.methodLink RL 95 yX5_keptRoot ∈ th_G := th_G3 (List.mem_of_getElem? (i := 138) rfl) rfl
theorem tw_3_139 : Cond.instanceMethod yX5_keptRoot ∈ th_G := th_G3 (List.mem_of_getElem? (i := 139) rfl) rfl
theorem tw_3_140 : Cond.selects RX5 yX5_keptRoot yX5_keptRoot ∈ th_G := th_G3 (List.mem_of_getElem? (i := 140) rfl) rfl
theorem tw_3_141 : Cond.code yX5_keptRoot cX5_keptRoot 2 (some .int) ∈ th_G := th_G3 (List.mem_of_getElem? (i := 141) rfl) rfl
theorem tw_4_166 : Cond.methodLink RL 202 yX6_keptRoot ∈ th_G := th_G4 (List.mem_of_getElem? (i := 166) rfl) rfl
theorem tw_4_167 : Cond.instanceMethod yX6_keptRoot ∈ th_G := th_G4 (List.mem_of_getElem? (i := 167) rfl) rfl
theorem tw_4_168 : Cond.selects RX6 yX6_keptRoot yX6_keptRoot ∈ th_G := th_G4 (List.mem_of_getElem? (i := 168) rfl) rfl
theorem tw_4_169 : Cond.code yX6_keptRoot cX6_keptRoot 2 (some .int) ∈ th_G := th_G4 (List.mem_of_getElem? (i := 169) rfl) rfl
theorem tw_3_142 : Cond.methodLink RL 203 yL_counted ∈ th_G := th_G3 (List.mem_of_getElem? (i := 142) rfl) rfl
theorem tw_3_143 : Cond.static yL_counted ∈ th_G := th_G3 (List.mem_of_getElem? (i := 143) rfl) rfl
theorem tw_3_144 : Cond.codeWith yL_counted cL_counted 4 (some .int) [(0, 9, 12, 13)] ∈ th_G := th_G3 (List.mem_of_getElem? (i := 144) rfl) rfl
theorem tw_3_145 : Cond.methodLink RL 98 yX5_counted ∈ th_G := th_G3 (List.mem_of_getElem? (i := 145) rfl) rfl
theorem tw_3_146 : Cond.instanceMethod yX5_counted ∈ th_G := th_G3 (List.mem_of_getElem? (i := 146) rfl) rfl
theorem tw_3_147 : Cond.selects RX5 yX5_counted yX5_counted ∈ th_G := th_G3 (List.mem_of_getElem? (i := 147) rfl) rfl
theorem tw_3_148 : Cond.code yX5_counted cX5_counted 2 (some .int) ∈ th_G := th_G3 (List.mem_of_getElem? (i := 148) rfl) rfl
theorem tw_4_170 : Cond.methodLink RL 205 yX6_counted ∈ th_G := th_G4 (List.mem_of_getElem? (i := 170) rfl) rfl
theorem tw_4_171 : Cond.instanceMethod yX6_counted ∈ th_G := th_G4 (List.mem_of_getElem? (i := 171) rfl) rfl
theorem tw_4_172 : Cond.selects RX6 yX6_counted yX6_counted ∈ th_G := th_G4 (List.mem_of_getElem? (i := 172) rfl) rfl
theorem tw_4_173 : Cond.code yX6_counted cX6_counted 2 (some .int) ∈ th_G := th_G4 (List.mem_of_getElem? (i := 173) rfl) rfl
def th_nw : Cond → Bool
  | .methodLinkNest .. => true
  | .fieldLinkNest .. => true
  | _ => false
def th_N (U : State) : Prop := ∀ w ∈ lw_tbl, th_nw w = true → va_Nw w U
theorem th_N.warm {s U : State} (hW : s.WarmedH U.vm) (h : th_N s) : th_N U := fun w hw hn => by
  have h1 := h w hw hn
  cases w <;> first | (simp [th_nw] at hn; done) | exact va_Nw.warmM hW h1 | exact va_Nw.warmF hW h1
theorem tn_1_28 {U : State} (h : th_N U) : va_Nw (Cond.methodLinkNest RX5 23 yX0_init RX5) U := h _ (List.mem_append_right _ (List.mem_append_left _ (List.mem_of_getElem? (i := 28) rfl))) rfl
theorem tn_1_34 {U : State} (h : th_N U) : va_Nw (Cond.methodLinkNest RX0 17 yX4_init RX5) U := h _ (List.mem_append_right _ (List.mem_append_left _ (List.mem_of_getElem? (i := 34) rfl))) rfl
theorem tn_1_38 {U : State} (h : th_N U) : va_Nw (Cond.fieldLinkNest RX0 33 "TreeheadGallery$Way" "rows" "I" RX5) U := h _ (List.mem_append_right _ (List.mem_append_left _ (List.mem_of_getElem? (i := 38) rfl))) rfl
theorem tn_1_64 {U : State} (h : th_N U) : va_Nw (Cond.fieldLinkNest RX5 87 "TreeheadGallery$Desk" "count" "I" RX5) U := h _ (List.mem_append_right _ (List.mem_append_left _ (List.mem_of_getElem? (i := 64) rfl))) rfl
theorem tn_1_88 {U : State} (h : th_N U) : va_Nw (Cond.methodLinkNest RX5 39 yX2_init RX5) U := h _ (List.mem_append_right _ (List.mem_append_left _ (List.mem_of_getElem? (i := 88) rfl))) rfl
theorem tn_1_93 {U : State} (h : th_N U) : va_Nw (Cond.fieldLinkNest RX3 25 "TreeheadGallery$View" "leaves" "I" RX5) U := h _ (List.mem_append_right _ (List.mem_append_left _ (List.mem_of_getElem? (i := 93) rfl))) rfl
theorem tn_1_94 {U : State} (h : th_N U) : va_Nw (Cond.fieldLinkNest RX5 58 "TreeheadGallery$View" "leaves" "I" RX5) U := h _ (List.mem_append_right _ (List.mem_append_left _ (List.mem_of_getElem? (i := 94) rfl))) rfl
theorem tn_1_105 {U : State} (h : th_N U) : va_Nw (Cond.methodLinkNest RX5 40 yX3_init RX5) U := h _ (List.mem_append_right _ (List.mem_append_left _ (List.mem_of_getElem? (i := 105) rfl))) rfl
theorem tn_1_111 {U : State} (h : th_N U) : va_Nw (Cond.fieldLinkNest RX5 158 "TreeheadGallery$Watcher" "size" "I" RX5) U := h _ (List.mem_append_right _ (List.mem_append_left _ (List.mem_of_getElem? (i := 111) rfl))) rfl
theorem tn_1_113 {U : State} (h : th_N U) : va_Nw (Cond.fieldLinkNest RX5 161 "TreeheadGallery$Watcher" "root" "I" RX5) U := h _ (List.mem_append_right _ (List.mem_append_left _ (List.mem_of_getElem? (i := 113) rfl))) rfl
theorem tn_1_115 {U : State} (h : th_N U) : va_Nw (Cond.fieldLinkNest RX5 148 "TreeheadGallery$Watcher" "alarmed" "Z" RX5) U := h _ (List.mem_append_right _ (List.mem_append_left _ (List.mem_of_getElem? (i := 115) rfl))) rfl
theorem tn_1_117 {U : State} (h : th_N U) : va_Nw (Cond.fieldLinkNest RX5 152 "TreeheadGallery$Watcher" "followed" "I" RX5) U := h _ (List.mem_append_right _ (List.mem_append_left _ (List.mem_of_getElem? (i := 117) rfl))) rfl
theorem tn_1_119 {U : State} (h : th_N U) : va_Nw (Cond.fieldLinkNest RX5 155 "TreeheadGallery$Watcher" "found" "I" RX5) U := h _ (List.mem_append_right _ (List.mem_append_left _ (List.mem_of_getElem? (i := 119) rfl))) rfl
theorem tn_2_50 {U : State} (h : th_N U) : va_Nw (Cond.methodLinkNest RX2 22 yX5_leafSum RX5) U := h _ (List.mem_append_right _ (List.mem_append_right _ (List.mem_append_left _ (List.mem_of_getElem? (i := 50) rfl)))) rfl
theorem tn_2_56 {U : State} (h : th_N U) : va_Nw (Cond.methodLinkNest RX2 26 yX5_mix RX5) U := h _ (List.mem_append_right _ (List.mem_append_right _ (List.mem_append_left _ (List.mem_of_getElem? (i := 56) rfl)))) rfl
theorem tn_3_13 {U : State} (h : th_N U) : va_Nw (Cond.methodLinkNest RX0 54 yX5_leafSum RX5) U := h _ (List.mem_append_right _ (List.mem_append_right _ (List.mem_append_right _ (List.mem_append_left _ (List.mem_of_getElem? (i := 13) rfl))))) rfl
theorem tn_3_18 {U : State} (h : th_N U) : va_Nw (Cond.methodLinkNest RX0 61 yX5_mix RX5) U := h _ (List.mem_append_right _ (List.mem_append_right _ (List.mem_append_right _ (List.mem_append_left _ (List.mem_of_getElem? (i := 18) rfl))))) rfl
theorem tn_3_42 {U : State} (h : th_N U) : va_Nw (Cond.methodLinkNest RX0 68 yX5_keySum RX5) U := h _ (List.mem_append_right _ (List.mem_append_right _ (List.mem_append_right _ (List.mem_append_left _ (List.mem_of_getElem? (i := 42) rfl))))) rfl
theorem tn_3_46 {U : State} (h : th_N U) : va_Nw (Cond.methodLinkNest RX0 71 yX5_mapMix RX5) U := h _ (List.mem_append_right _ (List.mem_append_right _ (List.mem_append_right _ (List.mem_append_left _ (List.mem_of_getElem? (i := 46) rfl))))) rfl
theorem tn_3_61 {U : State} (h : th_N U) : va_Nw (Cond.methodLinkNest RX1 18 yX5_keySum RX5) U := h _ (List.mem_append_right _ (List.mem_append_right _ (List.mem_append_right _ (List.mem_append_left _ (List.mem_of_getElem? (i := 61) rfl))))) rfl
theorem tn_3_62 {U : State} (h : th_N U) : va_Nw (Cond.methodLinkNest RX1 22 yX5_mapMix RX5) U := h _ (List.mem_append_right _ (List.mem_append_right _ (List.mem_append_right _ (List.mem_append_left _ (List.mem_of_getElem? (i := 62) rfl))))) rfl
theorem inX0 : ∀ w ∈ wsX00, w ∈ th_G := by
  have h : ∀ w ∈ wsX00, w ∈ lw_tbl := by decide +kernel
  exact fun w hw => List.mem_filter.mpr ⟨h w hw, List.all_eq_true.mp (show wsX00.all goodWord = true by decide +kernel) w hw⟩
theorem inX1 : ∀ w ∈ wsX10, w ∈ th_G := by
  have h : ∀ w ∈ wsX10, w ∈ lw_tbl := by decide +kernel
  exact fun w hw => List.mem_filter.mpr ⟨h w hw, List.all_eq_true.mp (show wsX10.all goodWord = true by decide +kernel) w hw⟩
theorem inX2 : ∀ w ∈ wsX20, w ∈ th_G := by
  have h : ∀ w ∈ wsX20, w ∈ lw_tbl := by decide +kernel
  exact fun w hw => List.mem_filter.mpr ⟨h w hw, List.all_eq_true.mp (show wsX20.all goodWord = true by decide +kernel) w hw⟩
theorem inX3 : ∀ w ∈ wsX30, w ∈ th_G := by
  have h : ∀ w ∈ wsX30, w ∈ lw_tbl := by decide +kernel
  exact fun w hw => List.mem_filter.mpr ⟨h w hw, List.all_eq_true.mp (show wsX30.all goodWord = true by decide +kernel) w hw⟩
theorem inX4 : ∀ w ∈ wsX40, w ∈ th_G := by
  have h : ∀ w ∈ wsX40, w ∈ lw_tbl := by decide +kernel
  exact fun w hw => List.mem_filter.mpr ⟨h w hw, List.all_eq_true.mp (show wsX40.all goodWord = true by decide +kernel) w hw⟩
theorem inX5 : ∀ w ∈ wsX50, w ∈ th_G := by
  have h : ∀ w ∈ wsX50, w ∈ lw_tbl := by decide +kernel
  exact fun w hw => List.mem_filter.mpr ⟨h w hw, List.all_eq_true.mp (show wsX50.all goodWord = true by decide +kernel) w hw⟩
theorem inX6 : ∀ w ∈ wsX60, w ∈ th_G := by
  have h : ∀ w ∈ wsX60, w ∈ lw_tbl := by decide +kernel
  exact fun w hw => List.mem_filter.mpr ⟨h w hw, List.all_eq_true.mp (show wsX60.all goodWord = true by decide +kernel) w hw⟩
