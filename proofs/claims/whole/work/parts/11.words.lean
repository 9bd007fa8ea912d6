theorem tw16 : Cond.selects RX10 yX10_wayOf yX10_wayOf ∈ tb := tb_at 16 (by decide +kernel) (by decide +kernel)
theorem tw17 : Cond.selects RX0 yX0_keepSizes yX0_keepSizes ∈ tb := tb_at 17 (by decide +kernel) (by decide +kernel)
theorem tw21 : Cond.selects RX0 yX0_forgetWorths yX0_forgetWorths ∈ tb := tb_at 21 (by decide +kernel) (by decide +kernel)
theorem tw24 : Cond.selects RX0 yX0_setStone yX0_setStone ∈ tb := tb_at 24 (by decide +kernel) (by decide +kernel)
theorem tw30 : Cond.selects RX10 yX10_searchOrders yX10_searchOrders ∈ tb := tb_at 30 (by decide +kernel) (by decide +kernel)
theorem tw71 : Cond.initialized RX3 ∈ tb := tb_at 71 (by decide +kernel) (by decide +kernel)
theorem tw90 : Cond.instanceMethod objectInit ∈ tb := tb_at 90 (by decide +kernel) (by decide +kernel)
theorem tw91 : Cond.code objectInit ⟨#[0xb1]⟩ 1 (Option.none : Option Jvm.ClassFile.FieldType) ∈ tb := tb_at 91 (by decide +kernel) (by decide +kernel)
theorem tw97 : Cond.methodLink RX8 3 objectInit ∈ tb := tb_at 97 (by decide +kernel) (by decide +kernel)
theorem tw112 : Cond.arrayClass Jvm.ClassFile.FieldType.char ∈ tb := tb_at 112 (by decide +kernel) (by decide +kernel)
theorem tw113 : Cond.arrayClass Jvm.ClassFile.FieldType.int ∈ tb := tb_at 113 (by decide +kernel) (by decide +kernel)
theorem tw119 : Cond.methodLink RX0 5 objectInit ∈ tb := tb_at 119 (by decide +kernel) (by decide +kernel)
theorem tw120 : Cond.classLink RX0 11 RX6 ∈ tb := tb_at 120 (by decide +kernel) (by decide +kernel)
theorem tw121 : Cond.instantiable RX6 3 ∈ tb := tb_at 121 (by decide +kernel) (by decide +kernel)
theorem tw123 : Cond.instanceMethod yX6_init ∈ tb := tb_at 123 (by decide +kernel) (by decide +kernel)
theorem tw124 : Cond.code yX6_init cX6_init 1 (Option.none : Option Jvm.ClassFile.FieldType) ∈ tb := tb_at 124 (by decide +kernel) (by decide +kernel)
theorem tw125 : Cond.methodLink RX6 3 objectInit ∈ tb := tb_at 125 (by decide +kernel) (by decide +kernel)
theorem tw141 : Cond.arrayClass Jvm.ClassFile.FieldType.boolean ∈ tb := tb_at 141 (by decide +kernel) (by decide +kernel)
theorem tw142 : Cond.classLink RX0 18 RX2 ∈ tb := tb_at 142 (by decide +kernel) (by decide +kernel)
theorem tw144 : Cond.instantiable RX2 4 ∈ tb := tb_at 144 (by decide +kernel) (by decide +kernel)
theorem tw146 : Cond.instanceMethod yX2_init ∈ tb := tb_at 146 (by decide +kernel) (by decide +kernel)
theorem tw147 : Cond.code yX2_init cX2_init 1 (Option.none : Option Jvm.ClassFile.FieldType) ∈ tb := tb_at 147 (by decide +kernel) (by decide +kernel)
theorem tw148 : Cond.methodLink RX2 3 objectInit ∈ tb := tb_at 148 (by decide +kernel) (by decide +kernel)
theorem tw196 : Cond.instantiable RX1 10 ∈ tb := tb_at 196 (by decide +kernel) (by decide +kernel)
theorem tw198 : Cond.instanceMethod yX1_init ∈ tb := tb_at 198 (by decide +kernel) (by decide +kernel)
theorem tw199 : Cond.code yX1_init cX1_init 1 (Option.none : Option Jvm.ClassFile.FieldType) ∈ tb := tb_at 199 (by decide +kernel) (by decide +kernel)
theorem tw200 : Cond.methodLink RX1 3 objectInit ∈ tb := tb_at 200 (by decide +kernel) (by decide +kernel)
theorem tw202 : Cond.fieldLink RX0 40 RX1 "owners" "[I" ∈ tb := tb_at 202 (by decide +kernel) (by decide +kernel)
theorem tw205 : Cond.fieldLink RX0 83 RX1 "bags" "[I" ∈ tb := tb_at 205 (by decide +kernel) (by decide +kernel)
theorem tw215 : Cond.fieldLink RX0 53 RX1 "joint" "I" ∈ tb := tb_at 215 (by decide +kernel) (by decide +kernel)
theorem tw248 : Cond.methodLink RX4 3 objectInit ∈ tb := tb_at 248 (by decide +kernel) (by decide +kernel)
theorem tw249 : Cond.classLink RX4 9 RX1 ∈ tb := tb_at 249 (by decide +kernel) (by decide +kernel)
theorem tw265 : Cond.methodLink RX3 3 objectInit ∈ tb := tb_at 265 (by decide +kernel) (by decide +kernel)
theorem tw266 : Cond.classLink RX3 21 RX1 ∈ tb := tb_at 266 (by decide +kernel) (by decide +kernel)
theorem tw267 : Cond.classLink RX3 27 RX9 ∈ tb := tb_at 267 (by decide +kernel) (by decide +kernel)
theorem tw268 : Cond.instantiable RX9 9 ∈ tb := tb_at 268 (by decide +kernel) (by decide +kernel)
theorem tw270 : Cond.instanceMethod yX9_init ∈ tb := tb_at 270 (by decide +kernel) (by decide +kernel)
theorem tw271 : Cond.code yX9_init cX9_init 1 (Option.none : Option Jvm.ClassFile.FieldType) ∈ tb := tb_at 271 (by decide +kernel) (by decide +kernel)
theorem tw272 : Cond.methodLink RX9 3 objectInit ∈ tb := tb_at 272 (by decide +kernel) (by decide +kernel)
theorem tw274 : Cond.fieldLink RX10 165 RX9 "stones" "[I" ∈ tb := tb_at 274 (by decide +kernel) (by decide +kernel)
theorem tw283 : Cond.fieldLink RX10 164 RX9 "count" "I" ∈ tb := tb_at 283 (by decide +kernel) (by decide +kernel)
theorem tw285 : Cond.fieldLink RX0 113 RX9 "cuts" "I" ∈ tb := tb_at 285 (by decide +kernel) (by decide +kernel)
theorem tw287 : Cond.fieldLink RX10 162 RX9 "cuts" "I" ∈ tb := tb_at 287 (by decide +kernel) (by decide +kernel)
theorem tw291 : Cond.fieldLink RX0 110 RX9 "exists" "Z" ∈ tb := tb_at 291 (by decide +kernel) (by decide +kernel)
theorem tw292 : Cond.fieldLink RX10 158 RX9 "exists" "Z" ∈ tb := tb_at 292 (by decide +kernel) (by decide +kernel)
theorem tw315 : Cond.fieldLink RX10 250 RX3 "colours" "[I" ∈ tb := tb_at 315 (by decide +kernel) (by decide +kernel)
theorem tw317 : Cond.fieldLink RX10 261 RX3 "trial" "[I" ∈ tb := tb_at 317 (by decide +kernel) (by decide +kernel)
theorem tw319 : Cond.fieldLink RX10 196 RX3 "first" "[I" ∈ tb := tb_at 319 (by decide +kernel) (by decide +kernel)
theorem tw320 : Cond.fieldLink RX3 23 RX3 "floors" "[LStoneFloors$Floor;" ∈ tb := tb_at 320 (by decide +kernel) (by decide +kernel)
theorem tw321 : Cond.fieldLink RX10 254 RX3 "floors" "[LStoneFloors$Floor;" ∈ tb := tb_at 321 (by decide +kernel) (by decide +kernel)
theorem tw322 : Cond.fieldLink RX3 30 RX3 "tried" "LStoneFloors$Way;" ∈ tb := tb_at 322 (by decide +kernel) (by decide +kernel)
theorem tw323 : Cond.fieldLink RX10 246 RX3 "tried" "LStoneFloors$Way;" ∈ tb := tb_at 323 (by decide +kernel) (by decide +kernel)
theorem tw325 : Cond.fieldLink RX10 195 RX3 "count" "I" ∈ tb := tb_at 325 (by decide +kernel) (by decide +kernel)
theorem tw327 : Cond.fieldLink RX10 192 RX3 "fewest" "I" ∈ tb := tb_at 327 (by decide +kernel) (by decide +kernel)
theorem tw329 : Cond.fieldLink RX10 189 RX3 "found" "Z" ∈ tb := tb_at 329 (by decide +kernel) (by decide +kernel)
theorem tw358 : Cond.methodLink RX7 3 objectInit ∈ tb := tb_at 358 (by decide +kernel) (by decide +kernel)
theorem tw359 : Cond.classLink RX7 18 RX5 ∈ tb := tb_at 359 (by decide +kernel) (by decide +kernel)
theorem tw361 : Cond.instantiable RX5 7 ∈ tb := tb_at 361 (by decide +kernel) (by decide +kernel)
theorem tw363 : Cond.instanceMethod yX5_init ∈ tb := tb_at 363 (by decide +kernel) (by decide +kernel)
theorem tw364 : Cond.code yX5_init cX5_init 1 (Option.none : Option Jvm.ClassFile.FieldType) ∈ tb := tb_at 364 (by decide +kernel) (by decide +kernel)
theorem tw365 : Cond.methodLink RX5 3 objectInit ∈ tb := tb_at 365 (by decide +kernel) (by decide +kernel)
theorem tw402 : Cond.fieldLink RX7 20 RX7 "paths" "[LStoneFloors$Path;" ∈ tb := tb_at 402 (by decide +kernel) (by decide +kernel)
theorem tw672 : Cond.methodLink RX10 154 yX10_wayOf ∈ tb := tb_at 672 (by decide +kernel) (by decide +kernel)
theorem tw674 : Cond.instanceMethod yX10_wayOf ∈ tb := tb_at 674 (by decide +kernel) (by decide +kernel)
theorem tw675 : Cond.code yX10_wayOf cX10_wayOf 4 (Option.some (Jvm.ClassFile.FieldType.object "StoneFloors$Way")) ∈ tb := tb_at 675 (by decide +kernel) (by decide +kernel)
theorem tw676 : Cond.methodLink RX10 242 yX0_find ∈ tb := tb_at 676 (by decide +kernel) (by decide +kernel)
theorem tw677 : Cond.instanceMethod yX0_find ∈ tb := tb_at 677 (by decide +kernel) (by decide +kernel)
theorem tw678 : Cond.selects RX0 yX0_find yX0_find ∈ tb := tb_at 678 (by decide +kernel) (by decide +kernel)
theorem tw679 : Cond.code yX0_find cX0_find 9 (Option.none : Option Jvm.ClassFile.FieldType) ∈ tb := tb_at 679 (by decide +kernel) (by decide +kernel)
theorem tw680 : Cond.methodLink RX0 35 yX9_clear ∈ tb := tb_at 680 (by decide +kernel) (by decide +kernel)
theorem tw681 : Cond.instanceMethod yX9_clear ∈ tb := tb_at 681 (by decide +kernel) (by decide +kernel)
theorem tw682 : Cond.selects RX9 yX9_clear yX9_clear ∈ tb := tb_at 682 (by decide +kernel) (by decide +kernel)
theorem tw683 : Cond.code yX9_clear cX9_clear 1 (Option.none : Option Jvm.ClassFile.FieldType) ∈ tb := tb_at 683 (by decide +kernel) (by decide +kernel)
theorem tw685 : Cond.methodLink RX0 45 yX6_split ∈ tb := tb_at 685 (by decide +kernel) (by decide +kernel)
theorem tw686 : Cond.methodLink RX0 56 yX0_keepSizes ∈ tb := tb_at 686 (by decide +kernel) (by decide +kernel)
theorem tw688 : Cond.instanceMethod yX0_keepSizes ∈ tb := tb_at 688 (by decide +kernel) (by decide +kernel)
theorem tw689 : Cond.code yX0_keepSizes cX0_keepSizes 5 (Option.none : Option Jvm.ClassFile.FieldType) ∈ tb := tb_at 689 (by decide +kernel) (by decide +kernel)
theorem tw695 : Cond.methodLink RX0 76 yX2_list ∈ tb := tb_at 695 (by decide +kernel) (by decide +kernel)
theorem tw696 : Cond.instanceMethod yX2_list ∈ tb := tb_at 696 (by decide +kernel) (by decide +kernel)
theorem tw697 : Cond.selects RX2 yX2_list yX2_list ∈ tb := tb_at 697 (by decide +kernel) (by decide +kernel)
theorem tw698 : Cond.code yX2_list cX2_list 12 (Option.none : Option Jvm.ClassFile.FieldType) ∈ tb := tb_at 698 (by decide +kernel) (by decide +kernel)
theorem tw711 : Cond.methodLink RX0 80 yX0_forgetWorths ∈ tb := tb_at 711 (by decide +kernel) (by decide +kernel)
theorem tw713 : Cond.instanceMethod yX0_forgetWorths ∈ tb := tb_at 713 (by decide +kernel) (by decide +kernel)
theorem tw714 : Cond.code yX0_forgetWorths cX0_forgetWorths 2 (Option.none : Option Jvm.ClassFile.FieldType) ∈ tb := tb_at 714 (by decide +kernel) (by decide +kernel)
theorem tw715 : Cond.methodLink RX0 120 yJ7_fill_fda19 ∈ tb := tb_at 715 (by decide +kernel) (by decide +kernel)
theorem tw733 : Cond.methodLink RX0 116 yX0_setStone ∈ tb := tb_at 733 (by decide +kernel) (by decide +kernel)
theorem tw735 : Cond.instanceMethod yX0_setStone ∈ tb := tb_at 735 (by decide +kernel) (by decide +kernel)
theorem tw736 : Cond.code yX0_setStone cX0_setStone 5 (Option.none : Option Jvm.ClassFile.FieldType) ∈ tb := tb_at 736 (by decide +kernel) (by decide +kernel)
theorem tw765 : Cond.methodLink RX10 166 yX1_putDown ∈ tb := tb_at 765 (by decide +kernel) (by decide +kernel)
theorem tw766 : Cond.instanceMethod yX1_putDown ∈ tb := tb_at 766 (by decide +kernel) (by decide +kernel)
theorem tw767 : Cond.selects RX1 yX1_putDown yX1_putDown ∈ tb := tb_at 767 (by decide +kernel) (by decide +kernel)
theorem tw768 : Cond.code yX1_putDown cX1_putDown 6 (Option.none : Option Jvm.ClassFile.FieldType) ∈ tb := tb_at 768 (by decide +kernel) (by decide +kernel)
theorem tw786 : Cond.methodLink RX10 177 yX3_isFor ∈ tb := tb_at 786 (by decide +kernel) (by decide +kernel)
theorem tw787 : Cond.instanceMethod yX3_isFor ∈ tb := tb_at 787 (by decide +kernel) (by decide +kernel)
theorem tw788 : Cond.selects RX3 yX3_isFor yX3_isFor ∈ tb := tb_at 788 (by decide +kernel) (by decide +kernel)
theorem tw789 : Cond.code yX3_isFor cX3_isFor 4 (Option.some Jvm.ClassFile.FieldType.boolean) ∈ tb := tb_at 789 (by decide +kernel) (by decide +kernel)
theorem tw790 : Cond.methodLink RX10 181 yX3_begin ∈ tb := tb_at 790 (by decide +kernel) (by decide +kernel)
theorem tw791 : Cond.instanceMethod yX3_begin ∈ tb := tb_at 791 (by decide +kernel) (by decide +kernel)
theorem tw792 : Cond.selects RX3 yX3_begin yX3_begin ∈ tb := tb_at 792 (by decide +kernel) (by decide +kernel)
theorem tw793 : Cond.code yX3_begin cX3_begin 4 (Option.none : Option Jvm.ClassFile.FieldType) ∈ tb := tb_at 793 (by decide +kernel) (by decide +kernel)
theorem tw794 : Cond.methodLink RX10 185 yX10_searchOrders ∈ tb := tb_at 794 (by decide +kernel) (by decide +kernel)
theorem tw796 : Cond.instanceMethod yX10_searchOrders ∈ tb := tb_at 796 (by decide +kernel) (by decide +kernel)
theorem tw797 : Cond.code yX10_searchOrders cX10_searchOrders 9 (Option.none : Option Jvm.ClassFile.FieldType) ∈ tb := tb_at 797 (by decide +kernel) (by decide +kernel)
theorem tw798 : Cond.methodLink RX10 251 yX3_isFewer ∈ tb := tb_at 798 (by decide +kernel) (by decide +kernel)
theorem tw799 : Cond.instanceMethod yX3_isFewer ∈ tb := tb_at 799 (by decide +kernel) (by decide +kernel)
theorem tw800 : Cond.selects RX3 yX3_isFewer yX3_isFewer ∈ tb := tb_at 800 (by decide +kernel) (by decide +kernel)
theorem tw801 : Cond.code yX3_isFewer cX3_isFewer 2 (Option.some Jvm.ClassFile.FieldType.boolean) ∈ tb := tb_at 801 (by decide +kernel) (by decide +kernel)
theorem tw802 : Cond.methodLink RX10 258 yX1_copy ∈ tb := tb_at 802 (by decide +kernel) (by decide +kernel)
theorem tw803 : Cond.methodLink RX10 264 yX3_keepTrial ∈ tb := tb_at 803 (by decide +kernel) (by decide +kernel)
theorem tw804 : Cond.instanceMethod yX3_keepTrial ∈ tb := tb_at 804 (by decide +kernel) (by decide +kernel)
theorem tw805 : Cond.selects RX3 yX3_keepTrial yX3_keepTrial ∈ tb := tb_at 805 (by decide +kernel) (by decide +kernel)
theorem tw806 : Cond.code yX3_keepTrial cX3_keepTrial 3 (Option.none : Option Jvm.ClassFile.FieldType) ∈ tb := tb_at 806 (by decide +kernel) (by decide +kernel)
theorem tw859 : Cond.methodLink RX11 1 objectInit ∈ tb := tb_at 859 (by decide +kernel) (by decide +kernel)
theorem fo_RX0_40 : FOK RX0 40 2 0 := ⟨RX1, TX1, 10, rfl, iRX1, by decide, by decide, tw202⟩
theorem fo_RX0_53 : FOK RX0 53 2 7 := ⟨RX1, TX1, 10, rfl, iRX1, by decide, by decide, tw215⟩
theorem fo_RX0_83 : FOK RX0 83 2 1 := ⟨RX1, TX1, 10, rfl, iRX1, by decide, by decide, tw205⟩
theorem fo_RX0_110 : FOK RX0 110 10 7 := ⟨RX9, TX9, 9, rfl, iRX9, by decide, by decide, tw291⟩
theorem fo_RX0_113 : FOK RX0 113 10 5 := ⟨RX9, TX9, 9, rfl, iRX9, by decide, by decide, tw285⟩
theorem fo_RX3_23 : FOK RX3 23 4 3 := ⟨RX3, TX3, 9, rfl, iRX3, by decide, by decide, tw320⟩
theorem fo_RX3_30 : FOK RX3 30 4 4 := ⟨RX3, TX3, 9, rfl, iRX3, by decide, by decide, tw322⟩
theorem fo_RX7_20 : FOK RX7 20 8 2 := ⟨RX7, TX7, 6, rfl, iRX7, by decide, by decide, tw402⟩
theorem fo_RX10_158 : FOK RX10 158 10 7 := ⟨RX9, TX9, 9, rfl, iRX9, by decide, by decide, tw292⟩
theorem fo_RX10_162 : FOK RX10 162 10 5 := ⟨RX9, TX9, 9, rfl, iRX9, by decide, by decide, tw287⟩
theorem fo_RX10_164 : FOK RX10 164 10 4 := ⟨RX9, TX9, 9, rfl, iRX9, by decide, by decide, tw283⟩
theorem fo_RX10_165 : FOK RX10 165 10 0 := ⟨RX9, TX9, 9, rfl, iRX9, by decide, by decide, tw274⟩
theorem fo_RX10_246 : FOK RX10 246 4 4 := ⟨RX3, TX3, 9, rfl, iRX3, by decide, by decide, tw323⟩
theorem fo_RX10_250 : FOK RX10 250 4 0 := ⟨RX3, TX3, 9, rfl, iRX3, by decide, by decide, tw315⟩
theorem fo_RX10_254 : FOK RX10 254 4 3 := ⟨RX3, TX3, 9, rfl, iRX3, by decide, by decide, tw321⟩
theorem fo_RX10_261 : FOK RX10 261 4 1 := ⟨RX3, TX3, 9, rfl, iRX3, by decide, by decide, tw317⟩
theorem fo_RX10_189 : FOK RX10 189 4 7 := ⟨RX3, TX3, 9, rfl, iRX3, by decide, by decide, tw329⟩
theorem fo_RX10_192 : FOK RX10 192 4 6 := ⟨RX3, TX3, 9, rfl, iRX3, by decide, by decide, tw327⟩
theorem fo_RX10_195 : FOK RX10 195 4 5 := ⟨RX3, TX3, 9, rfl, iRX3, by decide, by decide, tw325⟩
theorem fo_RX10_196 : FOK RX10 196 4 2 := ⟨RX3, TX3, 9, rfl, iRX3, by decide, by decide, tw319⟩
theorem fp_7_1 : FPK 7 1 true (.array .boolean) := ⟨RX6, TX6, 3, rfl, ⟨tyX6, tyX6_ok, rfl⟩, nmX6, rfl, rfl⟩
theorem fp_7_0 : FPK 7 0 true (.array .int) := ⟨RX6, TX6, 3, rfl, ⟨tyX6, tyX6_ok, rfl⟩, nmX6, rfl, rfl⟩
theorem fp_3_1 : FPK 3 1 true (.array .int) := ⟨RX2, TX2, 4, rfl, ⟨tyX2, tyX2_ok, rfl⟩, nmX2, rfl, rfl⟩
theorem fp_3_0 : FPK 3 0 true (.array .int) := ⟨RX2, TX2, 4, rfl, ⟨tyX2, tyX2_ok, rfl⟩, nmX2, rfl, rfl⟩
theorem fp_1_4 : FPK 1 4 true (.array .int) := ⟨RX0, TX0, 9, rfl, ⟨tyX0, tyX0_ok, rfl⟩, nmX0, rfl, rfl⟩
theorem fp_1_3 : FPK 1 3 true (.array .int) := ⟨RX0, TX0, 9, rfl, ⟨tyX0, tyX0_ok, rfl⟩, nmX0, rfl, rfl⟩
theorem fp_1_2 : FPK 1 2 false (.array .int) := ⟨RX0, TX0, 9, rfl, ⟨tyX0, tyX0_ok, rfl⟩, nmX0, rfl, rfl⟩
theorem fp_1_1 : FPK 1 1 true (.array (.object "StoneFloors$Layings")) := ⟨RX0, TX0, 9, rfl, ⟨tyX0, tyX0_ok, rfl⟩, nmX0, rfl, rfl⟩
theorem fp_1_0 : FPK 1 0 true (.object "StoneFloors$Pieces") := ⟨RX0, TX0, 9, rfl, ⟨tyX0, tyX0_ok, rfl⟩, nmX0, rfl, rfl⟩
theorem fp_2_6 : FPK 2 6 true (.array .int) := ⟨RX1, TX1, 10, rfl, ⟨tyX1, tyX1_ok, rfl⟩, nmX1, rfl, rfl⟩
theorem fp_2_5 : FPK 2 5 true (.array .int) := ⟨RX1, TX1, 10, rfl, ⟨tyX1, tyX1_ok, rfl⟩, nmX1, rfl, rfl⟩
theorem fp_2_4 : FPK 2 4 true (.array .int) := ⟨RX1, TX1, 10, rfl, ⟨tyX1, tyX1_ok, rfl⟩, nmX1, rfl, rfl⟩
theorem fp_2_3 : FPK 2 3 true (.array .int) := ⟨RX1, TX1, 10, rfl, ⟨tyX1, tyX1_ok, rfl⟩, nmX1, rfl, rfl⟩
theorem fp_2_2 : FPK 2 2 true (.array .int) := ⟨RX1, TX1, 10, rfl, ⟨tyX1, tyX1_ok, rfl⟩, nmX1, rfl, rfl⟩
theorem fp_2_1 : FPK 2 1 true (.array .int) := ⟨RX1, TX1, 10, rfl, ⟨tyX1, tyX1_ok, rfl⟩, nmX1, rfl, rfl⟩
theorem fp_2_0 : FPK 2 0 true (.array .int) := ⟨RX1, TX1, 10, rfl, ⟨tyX1, tyX1_ok, rfl⟩, nmX1, rfl, rfl⟩
theorem fp_10_2 : FPK 10 2 true (.array .int) := ⟨RX9, TX9, 9, rfl, ⟨tyX9, tyX9_ok, rfl⟩, nmX9, rfl, rfl⟩
theorem fp_10_1 : FPK 10 1 true (.array .int) := ⟨RX9, TX9, 9, rfl, ⟨tyX9, tyX9_ok, rfl⟩, nmX9, rfl, rfl⟩
theorem fp_10_0 : FPK 10 0 true (.array .int) := ⟨RX9, TX9, 9, rfl, ⟨tyX9, tyX9_ok, rfl⟩, nmX9, rfl, rfl⟩
theorem fp_4_4 : FPK 4 4 true (.object "StoneFloors$Way") := ⟨RX3, TX3, 9, rfl, ⟨tyX3, tyX3_ok, rfl⟩, nmX3, rfl, rfl⟩
theorem fp_4_3 : FPK 4 3 true (.array (.object "StoneFloors$Floor")) := ⟨RX3, TX3, 9, rfl, ⟨tyX3, tyX3_ok, rfl⟩, nmX3, rfl, rfl⟩
theorem fp_4_2 : FPK 4 2 true (.array .int) := ⟨RX3, TX3, 9, rfl, ⟨tyX3, tyX3_ok, rfl⟩, nmX3, rfl, rfl⟩
theorem fp_4_1 : FPK 4 1 true (.array .int) := ⟨RX3, TX3, 9, rfl, ⟨tyX3, tyX3_ok, rfl⟩, nmX3, rfl, rfl⟩
theorem fp_4_0 : FPK 4 0 true (.array .int) := ⟨RX3, TX3, 9, rfl, ⟨tyX3, tyX3_ok, rfl⟩, nmX3, rfl, rfl⟩
theorem fp_5_0 : FPK 5 0 true (.array (.object "StoneFloors$Floor")) := ⟨RX4, TX4, 2, rfl, ⟨tyX4, tyX4_ok, rfl⟩, nmX4, rfl, rfl⟩
theorem fp_6_1 : FPK 6 1 true (.array .int) := ⟨RX5, TX5, 7, rfl, ⟨tyX5, tyX5_ok, rfl⟩, nmX5, rfl, rfl⟩
theorem fp_6_0 : FPK 6 0 true (.array .int) := ⟨RX5, TX5, 7, rfl, ⟨tyX5, tyX5_ok, rfl⟩, nmX5, rfl, rfl⟩
theorem fp_8_3 : FPK 8 3 true (.array .int) := ⟨RX7, TX7, 6, rfl, ⟨tyX7, tyX7_ok, rfl⟩, nmX7, rfl, rfl⟩
theorem fp_8_2 : FPK 8 2 true (.array (.object "StoneFloors$Path")) := ⟨RX7, TX7, 6, rfl, ⟨tyX7, tyX7_ok, rfl⟩, nmX7, rfl, rfl⟩
theorem fp_8_1 : FPK 8 1 true (.array .int) := ⟨RX7, TX7, 6, rfl, ⟨tyX7, tyX7_ok, rfl⟩, nmX7, rfl, rfl⟩
theorem fp_8_0 : FPK 8 0 true (.array .int) := ⟨RX7, TX7, 6, rfl, ⟨tyX7, tyX7_ok, rfl⟩, nmX7, rfl, rfl⟩
theorem fp_9_1 : FPK 9 1 true (.array .int) := ⟨RX8, TX8, 4, rfl, ⟨tyX8, tyX8_ok, rfl⟩, nmX8, rfl, rfl⟩
theorem fp_9_0 : FPK 9 0 true (.array .char) := ⟨RX8, TX8, 4, rfl, ⟨tyX8, tyX8_ok, rfl⟩, nmX8, rfl, rfl⟩
theorem fp_12_38 : FPK 12 38 true (.array .int) := ⟨RX11, TX11, 39, rfl, ⟨tyX11, tyX11_ok, rfl⟩, nmX11, rfl, rfl⟩
theorem fp_12_37 : FPK 12 37 true (.array .int) := ⟨RX11, TX11, 39, rfl, ⟨tyX11, tyX11_ok, rfl⟩, nmX11, rfl, rfl⟩
theorem fp_12_34 : FPK 12 34 true (.array .boolean) := ⟨RX11, TX11, 39, rfl, ⟨tyX11, tyX11_ok, rfl⟩, nmX11, rfl, rfl⟩
theorem fp_12_33 : FPK 12 33 true (.array .int) := ⟨RX11, TX11, 39, rfl, ⟨tyX11, tyX11_ok, rfl⟩, nmX11, rfl, rfl⟩
theorem fp_12_32 : FPK 12 32 true (.array .int) := ⟨RX11, TX11, 39, rfl, ⟨tyX11, tyX11_ok, rfl⟩, nmX11, rfl, rfl⟩
theorem fp_12_31 : FPK 12 31 true (.array .boolean) := ⟨RX11, TX11, 39, rfl, ⟨tyX11, tyX11_ok, rfl⟩, nmX11, rfl, rfl⟩
theorem fp_12_30 : FPK 12 30 true (.array .int) := ⟨RX11, TX11, 39, rfl, ⟨tyX11, tyX11_ok, rfl⟩, nmX11, rfl, rfl⟩
theorem fp_12_29 : FPK 12 29 true (.array .int) := ⟨RX11, TX11, 39, rfl, ⟨tyX11, tyX11_ok, rfl⟩, nmX11, rfl, rfl⟩
theorem fp_12_28 : FPK 12 28 true (.array .int) := ⟨RX11, TX11, 39, rfl, ⟨tyX11, tyX11_ok, rfl⟩, nmX11, rfl, rfl⟩
theorem fp_12_26 : FPK 12 26 true (.array .boolean) := ⟨RX11, TX11, 39, rfl, ⟨tyX11, tyX11_ok, rfl⟩, nmX11, rfl, rfl⟩
theorem fp_12_25 : FPK 12 25 true (.array .int) := ⟨RX11, TX11, 39, rfl, ⟨tyX11, tyX11_ok, rfl⟩, nmX11, rfl, rfl⟩
theorem fp_12_24 : FPK 12 24 true (.array .int) := ⟨RX11, TX11, 39, rfl, ⟨tyX11, tyX11_ok, rfl⟩, nmX11, rfl, rfl⟩
theorem fp_12_23 : FPK 12 23 true (.array .int) := ⟨RX11, TX11, 39, rfl, ⟨tyX11, tyX11_ok, rfl⟩, nmX11, rfl, rfl⟩
theorem fp_12_22 : FPK 12 22 true (.array .int) := ⟨RX11, TX11, 39, rfl, ⟨tyX11, tyX11_ok, rfl⟩, nmX11, rfl, rfl⟩
theorem fp_12_21 : FPK 12 21 true (.array .int) := ⟨RX11, TX11, 39, rfl, ⟨tyX11, tyX11_ok, rfl⟩, nmX11, rfl, rfl⟩
theorem fp_12_19 : FPK 12 19 true (.array .int) := ⟨RX11, TX11, 39, rfl, ⟨tyX11, tyX11_ok, rfl⟩, nmX11, rfl, rfl⟩
theorem fp_12_14 : FPK 12 14 true (.array .int) := ⟨RX11, TX11, 39, rfl, ⟨tyX11, tyX11_ok, rfl⟩, nmX11, rfl, rfl⟩
theorem fp_12_13 : FPK 12 13 true (.array .int) := ⟨RX11, TX11, 39, rfl, ⟨tyX11, tyX11_ok, rfl⟩, nmX11, rfl, rfl⟩
theorem fp_12_12 : FPK 12 12 true (.array .int) := ⟨RX11, TX11, 39, rfl, ⟨tyX11, tyX11_ok, rfl⟩, nmX11, rfl, rfl⟩
theorem fp_12_11 : FPK 12 11 true (.array .int) := ⟨RX11, TX11, 39, rfl, ⟨tyX11, tyX11_ok, rfl⟩, nmX11, rfl, rfl⟩
theorem fp_12_9 : FPK 12 9 true (.array .int) := ⟨RX11, TX11, 39, rfl, ⟨tyX11, tyX11_ok, rfl⟩, nmX11, rfl, rfl⟩
theorem fp_12_7 : FPK 12 7 true (.array .int) := ⟨RX11, TX11, 39, rfl, ⟨tyX11, tyX11_ok, rfl⟩, nmX11, rfl, rfl⟩
theorem fp_12_4 : FPK 12 4 true (.array .int) := ⟨RX11, TX11, 39, rfl, ⟨tyX11, tyX11_ok, rfl⟩, nmX11, rfl, rfl⟩
theorem fp_12_2 : FPK 12 2 true (.array .int) := ⟨RX11, TX11, 39, rfl, ⟨tyX11, tyX11_ok, rfl⟩, nmX11, rfl, rfl⟩
theorem fp_12_1 : FPK 12 1 true (.array .int) := ⟨RX11, TX11, 39, rfl, ⟨tyX11, tyX11_ok, rfl⟩, nmX11, rfl, rfl⟩
theorem fp_12_0 : FPK 12 0 true (.array .int) := ⟨RX11, TX11, 39, rfl, ⟨tyX11, tyX11_ok, rfl⟩, nmX11, rfl, rfl⟩
theorem hd_X2_init : yX2_init.cls ≠ "java/lang/invoke/MethodHandle" ∧ yX2_init.cls ≠ "java/lang/invoke/VarHandle" ∧ (parseMethodDescriptor yX2_init.desc).map (fun d => d.parameters.length) = some 0 := by decide +kernel
theorem hd_X6_init : yX6_init.cls ≠ "java/lang/invoke/MethodHandle" ∧ yX6_init.cls ≠ "java/lang/invoke/VarHandle" ∧ (parseMethodDescriptor yX6_init.desc).map (fun d => d.parameters.length) = some 0 := by decide +kernel
theorem hdV_X2_list : yX2_list.cls = RX2 ∧ yX2_list.cls ≠ "java/lang/invoke/MethodHandle" ∧ yX2_list.cls ≠ "java/lang/invoke/VarHandle" ∧ (parseMethodDescriptor yX2_list.desc).map (fun d => d.parameters.length) = some 4 := by decide +kernel
theorem hdV_X0_setStone : yX0_setStone.cls = RX0 ∧ yX0_setStone.cls ≠ "java/lang/invoke/MethodHandle" ∧ yX0_setStone.cls ≠ "java/lang/invoke/VarHandle" ∧ (parseMethodDescriptor yX0_setStone.desc).map (fun d => d.parameters.length) = some 1 := by decide +kernel
theorem hdV_X0_forgetWorths : yX0_forgetWorths.cls = RX0 ∧ yX0_forgetWorths.cls ≠ "java/lang/invoke/MethodHandle" ∧ yX0_forgetWorths.cls ≠ "java/lang/invoke/VarHandle" ∧ (parseMethodDescriptor yX0_forgetWorths.desc).map (fun d => d.parameters.length) = some 0 := by decide +kernel
theorem hdV_X9_clear : yX9_clear.cls = RX9 ∧ yX9_clear.cls ≠ "java/lang/invoke/MethodHandle" ∧ yX9_clear.cls ≠ "java/lang/invoke/VarHandle" ∧ (parseMethodDescriptor yX9_clear.desc).map (fun d => d.parameters.length) = some 0 := by decide +kernel
theorem hdV_X0_keepSizes : yX0_keepSizes.cls = RX0 ∧ yX0_keepSizes.cls ≠ "java/lang/invoke/MethodHandle" ∧ yX0_keepSizes.cls ≠ "java/lang/invoke/VarHandle" ∧ (parseMethodDescriptor yX0_keepSizes.desc).map (fun d => d.parameters.length) = some 2 := by decide +kernel
theorem hd_X1_init : yX1_init.cls ≠ "java/lang/invoke/MethodHandle" ∧ yX1_init.cls ≠ "java/lang/invoke/VarHandle" ∧ (parseMethodDescriptor yX1_init.desc).map (fun d => d.parameters.length) = some 0 := by decide +kernel
theorem hd_X9_init : yX9_init.cls ≠ "java/lang/invoke/MethodHandle" ∧ yX9_init.cls ≠ "java/lang/invoke/VarHandle" ∧ (parseMethodDescriptor yX9_init.desc).map (fun d => d.parameters.length) = some 0 := by decide +kernel
theorem hd_X5_init : yX5_init.cls ≠ "java/lang/invoke/MethodHandle" ∧ yX5_init.cls ≠ "java/lang/invoke/VarHandle" ∧ (parseMethodDescriptor yX5_init.desc).map (fun d => d.parameters.length) = some 0 := by decide +kernel
theorem hdV_X0_find : yX0_find.cls = RX0 ∧ yX0_find.cls ≠ "java/lang/invoke/MethodHandle" ∧ yX0_find.cls ≠ "java/lang/invoke/VarHandle" ∧ (parseMethodDescriptor yX0_find.desc).map (fun d => d.parameters.length) = some 5 := by decide +kernel
theorem hdV_X10_wayOf : yX10_wayOf.cls = RX10 ∧ yX10_wayOf.cls ≠ "java/lang/invoke/MethodHandle" ∧ yX10_wayOf.cls ≠ "java/lang/invoke/VarHandle" ∧ (parseMethodDescriptor yX10_wayOf.desc).map (fun d => d.parameters.length) = some 2 := by decide +kernel
theorem hdV_X1_putDown : yX1_putDown.cls = RX1 ∧ yX1_putDown.cls ≠ "java/lang/invoke/MethodHandle" ∧ yX1_putDown.cls ≠ "java/lang/invoke/VarHandle" ∧ (parseMethodDescriptor yX1_putDown.desc).map (fun d => d.parameters.length) = some 4 := by decide +kernel
theorem hdV_X3_isFewer : yX3_isFewer.cls = RX3 ∧ yX3_isFewer.cls ≠ "java/lang/invoke/MethodHandle" ∧ yX3_isFewer.cls ≠ "java/lang/invoke/VarHandle" ∧ (parseMethodDescriptor yX3_isFewer.desc).map (fun d => d.parameters.length) = some 1 := by decide +kernel
theorem hdV_X10_searchOrders : yX10_searchOrders.cls = RX10 ∧ yX10_searchOrders.cls ≠ "java/lang/invoke/MethodHandle" ∧ yX10_searchOrders.cls ≠ "java/lang/invoke/VarHandle" ∧ (parseMethodDescriptor yX10_searchOrders.desc).map (fun d => d.parameters.length) = some 3 := by decide +kernel
theorem hdV_X3_keepTrial : yX3_keepTrial.cls = RX3 ∧ yX3_keepTrial.cls ≠ "java/lang/invoke/MethodHandle" ∧ yX3_keepTrial.cls ≠ "java/lang/invoke/VarHandle" ∧ (parseMethodDescriptor yX3_keepTrial.desc).map (fun d => d.parameters.length) = some 2 := by decide +kernel
theorem hdV_X3_isFor : yX3_isFor.cls = RX3 ∧ yX3_isFor.cls ≠ "java/lang/invoke/MethodHandle" ∧ yX3_isFor.cls ≠ "java/lang/invoke/VarHandle" ∧ (parseMethodDescriptor yX3_isFor.desc).map (fun d => d.parameters.length) = some 3 := by decide +kernel
theorem hdV_X3_begin : yX3_begin.cls = RX3 ∧ yX3_begin.cls ≠ "java/lang/invoke/MethodHandle" ∧ yX3_begin.cls ≠ "java/lang/invoke/VarHandle" ∧ (parseMethodDescriptor yX3_begin.desc).map (fun d => d.parameters.length) = some 3 := by decide +kernel
theorem gd_RX0_120 : GoodIn tb (va_wsS RX0 120 yJ7_fill_fda19 (wT yJ7_fill_fda19 cJ7_fill_fda19 5 (Option.none : Option Jvm.ClassFile.FieldType))) := good_app (in3 tw715 tw559 tw79) (wT_good tw560)
theorem gd_RX0_76 : GoodIn tb (wsV RX0 76 RX2 yX2_list (wT yX2_list cX2_list 12 (Option.none : Option Jvm.ClassFile.FieldType))) := good_app (in4 tw695 tw696 tw697 tw68) (wT_good tw698)
theorem gd_RX0_116 : GoodIn tb (wsV RX0 116 RX0 yX0_setStone (wT yX0_setStone cX0_setStone 5 (Option.none : Option Jvm.ClassFile.FieldType))) := good_app (in4 tw733 tw735 tw24 tw66) (wT_good tw736)
theorem gd_RX0_80 : GoodIn tb (wsV RX0 80 RX0 yX0_forgetWorths (wT yX0_forgetWorths cX0_forgetWorths 2 (Option.none : Option Jvm.ClassFile.FieldType))) := good_app (in4 tw711 tw713 tw21 tw66) (wT_good tw714)
theorem gd_RX0_35 : GoodIn tb (wsV RX0 35 RX9 yX9_clear (wT yX9_clear cX9_clear 1 (Option.none : Option Jvm.ClassFile.FieldType))) := good_app (in4 tw680 tw681 tw682 tw72) (wT_good tw683)
theorem gd_RX0_45 : GoodIn tb (wsV RX0 45 RX6 yX6_split (wT yX6_split cX6_split 6 (Option.none : Option Jvm.ClassFile.FieldType))) := good_app (in4 tw685 tw660 tw661 tw67) (wT_good tw662)
theorem gd_RX0_56 : GoodIn tb (wsV RX0 56 RX0 yX0_keepSizes (wT yX0_keepSizes cX0_keepSizes 5 (Option.none : Option Jvm.ClassFile.FieldType))) := good_app (in4 tw686 tw688 tw17 tw66) (wT_good tw689)
theorem gd_RX10_242 : GoodIn tb (wsV RX10 242 RX0 yX0_find (wT yX0_find cX0_find 9 (Option.none : Option Jvm.ClassFile.FieldType))) := good_app (in4 tw676 tw677 tw678 tw66) (wT_good tw679)
theorem gd_RX10_154 : GoodIn tb (wsV RX10 154 RX10 yX10_wayOf (wT yX10_wayOf cX10_wayOf 4 (Option.some (Jvm.ClassFile.FieldType.object "StoneFloors$Way")))) := good_app (in4 tw672 tw674 tw16 tw64) (wT_good tw675)
theorem gd_RX10_166 : GoodIn tb (wsV RX10 166 RX1 yX1_putDown (wT yX1_putDown cX1_putDown 6 (Option.none : Option Jvm.ClassFile.FieldType))) := good_app (in4 tw765 tw766 tw767 tw69) (wT_good tw768)
theorem gd_RX10_251 : GoodIn tb (wsV RX10 251 RX3 yX3_isFewer (wT yX3_isFewer cX3_isFewer 2 (Option.some Jvm.ClassFile.FieldType.boolean))) := good_app (in4 tw798 tw799 tw800 tw71) (wT_good tw801)
theorem gd_RX10_258 : GoodIn tb (wsV RX10 258 RX1 yX1_copy (wT yX1_copy cX1_copy 2 (Option.none : Option Jvm.ClassFile.FieldType))) := good_app (in4 tw802 tw627 tw628 tw69) (wT_good tw629)
theorem gd_RX10_185 : GoodIn tb (wsV RX10 185 RX10 yX10_searchOrders (wT yX10_searchOrders cX10_searchOrders 9 (Option.none : Option Jvm.ClassFile.FieldType))) := good_app (in4 tw794 tw796 tw30 tw64) (wT_good tw797)
theorem gd_RX10_264 : GoodIn tb (wsV RX10 264 RX3 yX3_keepTrial (wT yX3_keepTrial cX3_keepTrial 3 (Option.none : Option Jvm.ClassFile.FieldType))) := good_app (in4 tw803 tw804 tw805 tw71) (wT_good tw806)
theorem gd_RX10_177 : GoodIn tb (wsV RX10 177 RX3 yX3_isFor (wT yX3_isFor cX3_isFor 4 (Option.some Jvm.ClassFile.FieldType.boolean))) := good_app (in4 tw786 tw787 tw788 tw71) (wT_good tw789)
theorem gd_RX10_181 : GoodIn tb (wsV RX10 181 RX3 yX3_begin (wT yX3_begin cX3_begin 4 (Option.none : Option Jvm.ClassFile.FieldType))) := good_app (in4 tw790 tw791 tw792 tw71) (wT_good tw793)
theorem nk_RX0_18 : NOK RX0 18 3 4 := ⟨RX2, TX2, tyX2, rfl, by decide, iRX2, tyX2_ok, by decide +kernel, tw142, tw144, tw68⟩
theorem nk_RX0_11 : NOK RX0 11 7 3 := ⟨RX6, TX6, tyX6, rfl, by decide, iRX6, tyX6_ok, by decide +kernel, tw120, tw121, tw67⟩
theorem nk_RX3_21 : NOK RX3 21 2 10 := ⟨RX1, TX1, tyX1, rfl, by decide, iRX1, tyX1_ok, by decide +kernel, tw266, tw196, tw69⟩
theorem nk_RX3_27 : NOK RX3 27 10 9 := ⟨RX9, TX9, tyX9, rfl, by decide, iRX9, tyX9_ok, by decide +kernel, tw267, tw268, tw72⟩
theorem nk_RX4_9 : NOK RX4 9 2 10 := ⟨RX1, TX1, tyX1, rfl, by decide, iRX1, tyX1_ok, by decide +kernel, tw249, tw196, tw69⟩
theorem nk_RX7_18 : NOK RX7 18 6 7 := ⟨RX5, TX5, tyX5, rfl, by decide, iRX5, tyX5_ok, by decide +kernel, tw359, tw361, tw74⟩
abbrev rX6_init (mc msl : Nat) : Room := { frames := 1, cells := mc, slots := msl, locals := 60 }
abbrev rX2_init (mc msl : Nat) : Room := { frames := 1, cells := mc, slots := msl, locals := 60 }
abbrev rX0_init (mc msl : Nat) : Room := { frames := 2, cells := mc, slots := msl, locals := 80 }
abbrev rX0_forgetWorths (mc msl : Nat) : Room := { frames := 2, cells := mc, slots := msl, locals := 46 }
abbrev rX0_find (mc msl : Nat) : Room := { frames := 28, cells := mc, slots := msl, locals := 933 }
abbrev rX1_init (mc msl : Nat) : Room := { frames := 1, cells := mc, slots := msl, locals := 60 }
abbrev rX9_init (mc msl : Nat) : Room := { frames := 1, cells := mc, slots := msl, locals := 60 }
abbrev rX3_init (mc msl : Nat) : Room := { frames := 2, cells := mc, slots := msl, locals := 80 }
abbrev rX4_init (mc msl : Nat) : Room := { frames := 2, cells := mc, slots := msl, locals := 80 }
abbrev rX5_init (mc msl : Nat) : Room := { frames := 1, cells := mc, slots := msl, locals := 60 }
abbrev rX7_init (mc msl : Nat) : Room := { frames := 2, cells := mc, slots := msl, locals := 80 }
abbrev rX8_init (mc msl : Nat) : Room := { frames := 1, cells := mc, slots := msl, locals := 60 }
abbrev rX10_wayOf (mc msl : Nat) : Room := { frames := 29, cells := mc, slots := msl, locals := 961 }
abbrev rX10_way (mc msl : Nat) : Room := { frames := 30, cells := mc, slots := msl, locals := 984 }
abbrev rX10_best (mc msl : Nat) : Room := { frames := 30, cells := mc, slots := msl, locals := 984 }
abbrev rX10_cover (mc msl : Nat) : Room := { frames := 30, cells := mc, slots := msl, locals := 984 }
abbrev rX10_searchOrders (d mc msl : Nat) : Room := { frames := 29 + d, cells := mc, slots := msl, locals := 961 + 28 * d }
abbrev rX10_order (mc msl : Nat) : Room := { frames := 35, cells := mc, slots := msl, locals := 1129 }
abbrev rX11_init (mc msl : Nat) : Room := { frames := 3, cells := mc, slots := msl, locals := 72 }
