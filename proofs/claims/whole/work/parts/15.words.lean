theorem inb_TJx4a65c : ∀ w ∈ u_ws RJx4a65c TJx4a65c 3, w ∈ bg := by decide +kernel
theorem dv_TJx4a65c : ∀ j, j < 3 → defaultValue (tyJx4a65c j) = q_dv (40 * 0 + j) := by decide +kernel
theorem inb_TX0 : ∀ w ∈ u_ws RX0 TX0 5, w ∈ bg := by decide +kernel
theorem dv_TX0 : ∀ j, j < 5 → defaultValue (tyX0 j) = q_dv (40 * 1 + j) := by decide +kernel
theorem inb_TX1 : ∀ w ∈ u_ws RX1 TX1 3, w ∈ bg := by decide +kernel
theorem dv_TX1 : ∀ j, j < 3 → defaultValue (tyX1 j) = q_dv (40 * 2 + j) := by decide +kernel
theorem inb_TX2 : ∀ w ∈ u_ws RX2 TX2 4, w ∈ bg := by decide +kernel
theorem dv_TX2 : ∀ j, j < 4 → defaultValue (tyX2 j) = q_dv (40 * 3 + j) := by decide +kernel
theorem inb_TX3 : ∀ w ∈ u_ws RX3 TX3 4, w ∈ bg := by decide +kernel
theorem dv_TX3 : ∀ j, j < 4 → defaultValue (tyX3 j) = q_dv (40 * 4 + j) := by decide +kernel
theorem inb_TX4 : ∀ w ∈ u_ws RX4 TX4 5, w ∈ bg := by decide +kernel
theorem dv_TX4 : ∀ j, j < 5 → defaultValue (tyX4 j) = q_dv (40 * 5 + j) := by decide +kernel
theorem inb_TX5 : ∀ w ∈ u_ws RX5 TX5 11, w ∈ bg := by decide +kernel
theorem dv_TX5 : ∀ j, j < 11 → defaultValue (tyX5 j) = q_dv (40 * 6 + j) := by decide +kernel
theorem inb_TX6 : ∀ w ∈ u_ws RX6 TX6 1, w ∈ bg := by decide +kernel
theorem dv_TX6 : ∀ j, j < 1 → defaultValue (tyX6 j) = q_dv (40 * 7 + j) := by decide +kernel
theorem inb_TX7 : ∀ w ∈ u_ws RX7 TX7 10, w ∈ bg := by decide +kernel
theorem dv_TX7 : ∀ j, j < 10 → defaultValue (tyX7 j) = q_dv (40 * 8 + j) := by decide +kernel
theorem inb_TX8 : ∀ w ∈ u_ws RX8 TX8 33, w ∈ bg := by decide +kernel
theorem dv_TX8 : ∀ j, j < 33 → defaultValue (tyX8 j) = q_dv (40 * 9 + j) := by decide +kernel
theorem q_ne {x k : Int32} {z : Int} (h : ¬ x = k) (hz : k.toInt = z) : x.toInt ≠ z := fun q => h (Int32.toInt_inj.mp (q.trans hz.symm))
theorem wd_1 : Cond.initialized "GoodsKeeper" ∈ bg := bg_in 1 (by decide +kernel) (by decide +kernel)
theorem wd_4 : Cond.initialized "java/util/ArrayList" ∈ bg := bg_in 4 (by decide +kernel) (by decide +kernel)
theorem wd_5 : Cond.initialized "GoodsKeeper$Things" ∈ bg := bg_in 5 (by decide +kernel) (by decide +kernel)
theorem wd_6 : Cond.initialized "GoodsKeeper$Hunt" ∈ bg := bg_in 6 (by decide +kernel) (by decide +kernel)
theorem wd_7 : Cond.initialized "GoodsKeeperModel" ∈ bg := bg_in 7 (by decide +kernel) (by decide +kernel)
theorem wd_12 : Cond.initialized "GoodsKeeper$Player" ∈ bg := bg_in 12 (by decide +kernel) (by decide +kernel)
theorem wd_14 : Cond.initialized "java/lang/Math" ∈ bg := bg_in 14 (by decide +kernel) (by decide +kernel)
theorem wd_17 : Cond.initialized "GoodsKeeper$Rule" ∈ bg := bg_in 17 (by decide +kernel) (by decide +kernel)
theorem wd_18 : Cond.initialized "java/lang/IndexOutOfBoundsException" ∈ bg := bg_in 18 (by decide +kernel) (by decide +kernel)
theorem wd_19 : Cond.initialized "java/util/Objects" ∈ bg := bg_in 19 (by decide +kernel) (by decide +kernel)
theorem wd_20 : Cond.initialized "jdk/internal/util/Preconditions" ∈ bg := bg_in 20 (by decide +kernel) (by decide +kernel)
theorem wd_21 : Cond.initialized "java/lang/IllegalArgumentException" ∈ bg := bg_in 21 (by decide +kernel) (by decide +kernel)
theorem wd_22 : Cond.initialized "GoodsKeeper$Single" ∈ bg := bg_in 22 (by decide +kernel) (by decide +kernel)
theorem wd_23 : Cond.initialized "java/util/NoSuchElementException" ∈ bg := bg_in 23 (by decide +kernel) (by decide +kernel)
theorem wd_24 : Cond.initialized "GoodsKeeper$Side" ∈ bg := bg_in 24 (by decide +kernel) (by decide +kernel)
theorem wd_25 : Cond.initialized "GoodsKeeper$Offer" ∈ bg := bg_in 25 (by decide +kernel) (by decide +kernel)
theorem wd_32 : Cond.instanceMethod ({ cls := "java/lang/Object", name := "<init>", desc := "()V" } : MethodName) ∈ bg := bg_in 32 (by decide +kernel) (by decide +kernel)
theorem wd_33 : Cond.code ({ cls := "java/lang/Object", name := "<init>", desc := "()V" } : MethodName) object_method_1_code (1 : Nat) (Option.none : Option FieldType) ∈ bg := bg_in 33 (by decide +kernel) (by decide +kernel)
theorem wd_48 : Cond.fieldLink "java/util/ArrayList" (9 : Nat) "java/util/ArrayList" "elementData" "[Ljava/lang/Object;" ∈ bg := bg_in 48 (by decide +kernel) (by decide +kernel)
theorem wd_49 : Cond.fieldLink "java/util/ArrayList" (48 : Nat) "java/util/ArrayList" "size" "I" ∈ bg := bg_in 49 (by decide +kernel) (by decide +kernel)
theorem wd_68 : Cond.fieldLink "GoodsKeeper$Things" (10 : Nat) "GoodsKeeper$Things" "singles" "Ljava/util/ArrayList;" ∈ bg := bg_in 68 (by decide +kernel) (by decide +kernel)
theorem wd_80 : Cond.fieldLink "GoodsKeeper$Hunt" (11 : Nat) "GoodsKeeper$Hunt" "rows" "[[J" ∈ bg := bg_in 80 (by decide +kernel) (by decide +kernel)
theorem wd_81 : Cond.fieldLink "GoodsKeeper$Hunt" (16 : Nat) "GoodsKeeper$Hunt" "rowNames" "[I" ∈ bg := bg_in 81 (by decide +kernel) (by decide +kernel)
theorem wd_82 : Cond.fieldLink "GoodsKeeper$Hunt" (20 : Nat) "GoodsKeeper$Hunt" "columnNames" "[I" ∈ bg := bg_in 82 (by decide +kernel) (by decide +kernel)
theorem wd_83 : Cond.fieldLink "GoodsKeeper$Hunt" (23 : Nat) "GoodsKeeper$Hunt" "columns" "I" ∈ bg := bg_in 83 (by decide +kernel) (by decide +kernel)
theorem wd_84 : Cond.fieldLink "GoodsKeeper$Hunt" (27 : Nat) "GoodsKeeper$Hunt" "scale" "J" ∈ bg := bg_in 84 (by decide +kernel) (by decide +kernel)
theorem wd_96 : Cond.arrayClass FieldType.long ∈ bg := bg_in 96 (by decide +kernel) (by decide +kernel)
theorem wd_97 : Cond.arrayClass FieldType.int ∈ bg := bg_in 97 (by decide +kernel) (by decide +kernel)
theorem wd_98 : Cond.fieldLink "GoodsKeeper" (10 : Nat) "GoodsKeeper" "players" "Ljava/util/ArrayList;" ∈ bg := bg_in 98 (by decide +kernel) (by decide +kernel)
theorem wd_99 : Cond.fieldLink "GoodsKeeper" (16 : Nat) "GoodsKeeper" "rules" "Ljava/util/ArrayList;" ∈ bg := bg_in 99 (by decide +kernel) (by decide +kernel)
theorem wd_100 : Cond.fieldLink "GoodsKeeper" (19 : Nat) "GoodsKeeper" "offers" "Ljava/util/ArrayList;" ∈ bg := bg_in 100 (by decide +kernel) (by decide +kernel)
theorem wd_101 : Cond.fieldLink "GoodsKeeper" (25 : Nat) "GoodsKeeper" "things" "LGoodsKeeper$Things;" ∈ bg := bg_in 101 (by decide +kernel) (by decide +kernel)
theorem wd_102 : Cond.fieldLink "GoodsKeeper" (32 : Nat) "GoodsKeeper" "hunt" "LGoodsKeeper$Hunt;" ∈ bg := bg_in 102 (by decide +kernel) (by decide +kernel)
theorem wd_103 : Cond.fieldLink "GoodsKeeper" (36 : Nat) "GoodsKeeper" "weights" "[I" ∈ bg := bg_in 103 (by decide +kernel) (by decide +kernel)
theorem wd_104 : Cond.fieldLink "GoodsKeeper" (40 : Nat) "GoodsKeeper" "allMade" "[J" ∈ bg := bg_in 104 (by decide +kernel) (by decide +kernel)
theorem wd_105 : Cond.fieldLink "GoodsKeeper" (44 : Nat) "GoodsKeeper" "allBroken" "[J" ∈ bg := bg_in 105 (by decide +kernel) (by decide +kernel)
theorem wd_106 : Cond.fieldLink "GoodsKeeper" (113 : Nat) "GoodsKeeper" "deedsDone" "I" ∈ bg := bg_in 106 (by decide +kernel) (by decide +kernel)
theorem wd_107 : Cond.fieldLink "GoodsKeeper" (124 : Nat) "GoodsKeeper" "today" "I" ∈ bg := bg_in 107 (by decide +kernel) (by decide +kernel)
theorem wd_130 : Cond.instanceMethod ({ cls := "GoodsKeeper", name := "gains", desc := "()Z" } : MethodName) ∈ bg := bg_in 130 (by decide +kernel) (by decide +kernel)
theorem wd_131 : Cond.selects "GoodsKeeper" ({ cls := "GoodsKeeper", name := "gains", desc := "()Z" } : MethodName) ({ cls := "GoodsKeeper", name := "gains", desc := "()Z" } : MethodName) ∈ bg := bg_in 131 (by decide +kernel) (by decide +kernel)
theorem wd_132 : Cond.code ({ cls := "GoodsKeeper", name := "gains", desc := "()Z" } : MethodName) prog_1_method_25_code (3 : Nat) (Option.some FieldType.boolean) ∈ bg := bg_in 132 (by decide +kernel) (by decide +kernel)
theorem wd_133 : Cond.methodLink "GoodsKeeper" (282 : Nat) ({ cls := "GoodsKeeper$Hunt", name := "begin", desc := "()V" } : MethodName) ∈ bg := bg_in 133 (by decide +kernel) (by decide +kernel)
theorem wd_134 : Cond.instanceMethod ({ cls := "GoodsKeeper$Hunt", name := "begin", desc := "()V" } : MethodName) ∈ bg := bg_in 134 (by decide +kernel) (by decide +kernel)
theorem wd_135 : Cond.selects "GoodsKeeper$Hunt" ({ cls := "GoodsKeeper$Hunt", name := "begin", desc := "()V" } : MethodName) ({ cls := "GoodsKeeper$Hunt", name := "begin", desc := "()V" } : MethodName) ∈ bg := bg_in 135 (by decide +kernel) (by decide +kernel)
theorem wd_136 : Cond.code ({ cls := "GoodsKeeper$Hunt", name := "begin", desc := "()V" } : MethodName) prog_2_method_2_code (2 : Nat) (Option.none : Option FieldType) ∈ bg := bg_in 136 (by decide +kernel) (by decide +kernel)
theorem wd_137 : Cond.methodLink "GoodsKeeper" (47 : Nat) ({ cls := "java/util/ArrayList", name := "size", desc := "()I" } : MethodName) ∈ bg := bg_in 137 (by decide +kernel) (by decide +kernel)
theorem wd_138 : Cond.instanceMethod ({ cls := "java/util/ArrayList", name := "size", desc := "()I" } : MethodName) ∈ bg := bg_in 138 (by decide +kernel) (by decide +kernel)
theorem wd_139 : Cond.selects "java/util/ArrayList" ({ cls := "java/util/ArrayList", name := "size", desc := "()I" } : MethodName) ({ cls := "java/util/ArrayList", name := "size", desc := "()I" } : MethodName) ∈ bg := bg_in 139 (by decide +kernel) (by decide +kernel)
theorem wd_140 : Cond.code ({ cls := "java/util/ArrayList", name := "size", desc := "()I" } : MethodName) prog_25_method_8_code (1 : Nat) (Option.some FieldType.int) ∈ bg := bg_in 140 (by decide +kernel) (by decide +kernel)
theorem wd_141 : Cond.methodLink "GoodsKeeper" (285 : Nat) ({ cls := "java/util/ArrayList", name := "get", desc := "(I)Ljava/lang/Object;" } : MethodName) ∈ bg := bg_in 141 (by decide +kernel) (by decide +kernel)
theorem wd_142 : Cond.instanceMethod ({ cls := "java/util/ArrayList", name := "get", desc := "(I)Ljava/lang/Object;" } : MethodName) ∈ bg := bg_in 142 (by decide +kernel) (by decide +kernel)
theorem wd_143 : Cond.selects "java/util/ArrayList" ({ cls := "java/util/ArrayList", name := "get", desc := "(I)Ljava/lang/Object;" } : MethodName) ({ cls := "java/util/ArrayList", name := "get", desc := "(I)Ljava/lang/Object;" } : MethodName) ∈ bg := bg_in 143 (by decide +kernel) (by decide +kernel)
theorem wd_144 : Cond.code ({ cls := "java/util/ArrayList", name := "get", desc := "(I)Ljava/lang/Object;" } : MethodName) prog_25_method_20_code (2 : Nat) (Option.some (FieldType.object "java/lang/Object")) ∈ bg := bg_in 144 (by decide +kernel) (by decide +kernel)
theorem wd_145 : Cond.methodLink "java/util/ArrayList" (118 : Nat) ({ cls := "java/util/Objects", name := "checkIndex", desc := "(II)I" } : MethodName) ∈ bg := bg_in 145 (by decide +kernel) (by decide +kernel)
theorem wd_146 : Cond.static ({ cls := "java/util/Objects", name := "checkIndex", desc := "(II)I" } : MethodName) ∈ bg := bg_in 146 (by decide +kernel) (by decide +kernel)
theorem wd_147 : Cond.code ({ cls := "java/util/Objects", name := "checkIndex", desc := "(II)I" } : MethodName) prog_30_method_17_code (2 : Nat) (Option.some FieldType.int) ∈ bg := bg_in 147 (by decide +kernel) (by decide +kernel)
theorem wd_148 : Cond.methodLink "java/util/Objects" (105 : Nat) ({ cls := "jdk/internal/util/Preconditions", name := "checkIndex", desc := "(IILjava/util/function/BiFunction;)I" } : MethodName) ∈ bg := bg_in 148 (by decide +kernel) (by decide +kernel)
theorem wd_149 : Cond.static ({ cls := "jdk/internal/util/Preconditions", name := "checkIndex", desc := "(IILjava/util/function/BiFunction;)I" } : MethodName) ∈ bg := bg_in 149 (by decide +kernel) (by decide +kernel)
theorem wd_150 : Cond.code ({ cls := "jdk/internal/util/Preconditions", name := "checkIndex", desc := "(IILjava/util/function/BiFunction;)I" } : MethodName) prog_34_method_11_code (3 : Nat) (Option.some FieldType.int) ∈ bg := bg_in 150 (by decide +kernel) (by decide +kernel)
theorem wd_151 : Cond.methodLink "java/util/ArrayList" (123 : Nat) ({ cls := "java/util/ArrayList", name := "elementData", desc := "(I)Ljava/lang/Object;" } : MethodName) ∈ bg := bg_in 151 (by decide +kernel) (by decide +kernel)
theorem wd_152 : Cond.instanceMethod ({ cls := "java/util/ArrayList", name := "elementData", desc := "(I)Ljava/lang/Object;" } : MethodName) ∈ bg := bg_in 152 (by decide +kernel) (by decide +kernel)
theorem wd_153 : Cond.selects "java/util/ArrayList" ({ cls := "java/util/ArrayList", name := "elementData", desc := "(I)Ljava/lang/Object;" } : MethodName) ({ cls := "java/util/ArrayList", name := "elementData", desc := "(I)Ljava/lang/Object;" } : MethodName) ∈ bg := bg_in 153 (by decide +kernel) (by decide +kernel)
theorem wd_154 : Cond.code ({ cls := "java/util/ArrayList", name := "elementData", desc := "(I)Ljava/lang/Object;" } : MethodName) prog_25_method_18_code (2 : Nat) (Option.some (FieldType.object "java/lang/Object")) ∈ bg := bg_in 154 (by decide +kernel) (by decide +kernel)
theorem wd_155 : Cond.classLink "GoodsKeeper" (69 : Nat) "GoodsKeeper$Rule" ∈ bg := bg_in 155 (by decide +kernel) (by decide +kernel)
theorem wd_156 : Cond.methodLink "GoodsKeeper" (292 : Nat) ({ cls := "GoodsKeeper$Hunt", name := "enter", desc := "(LGoodsKeeper$Rule;)V" } : MethodName) ∈ bg := bg_in 156 (by decide +kernel) (by decide +kernel)
theorem wd_157 : Cond.instanceMethod ({ cls := "GoodsKeeper$Hunt", name := "enter", desc := "(LGoodsKeeper$Rule;)V" } : MethodName) ∈ bg := bg_in 157 (by decide +kernel) (by decide +kernel)
theorem wd_158 : Cond.selects "GoodsKeeper$Hunt" ({ cls := "GoodsKeeper$Hunt", name := "enter", desc := "(LGoodsKeeper$Rule;)V" } : MethodName) ({ cls := "GoodsKeeper$Hunt", name := "enter", desc := "(LGoodsKeeper$Rule;)V" } : MethodName) ∈ bg := bg_in 158 (by decide +kernel) (by decide +kernel)
theorem wd_159 : Cond.code ({ cls := "GoodsKeeper$Hunt", name := "enter", desc := "(LGoodsKeeper$Rule;)V" } : MethodName) prog_2_method_3_code (6 : Nat) (Option.none : Option FieldType) ∈ bg := bg_in 159 (by decide +kernel) (by decide +kernel)
theorem wd_160 : Cond.methodLink "GoodsKeeper$Hunt" (31 : Nat) ({ cls := "GoodsKeeper$Rule", name := "won", desc := "(I)I" } : MethodName) ∈ bg := bg_in 160 (by decide +kernel) (by decide +kernel)
theorem wd_161 : Cond.instanceMethod ({ cls := "GoodsKeeper$Rule", name := "won", desc := "(I)I" } : MethodName) ∈ bg := bg_in 161 (by decide +kernel) (by decide +kernel)
theorem wd_162 : Cond.selects "GoodsKeeper$Rule" ({ cls := "GoodsKeeper$Rule", name := "won", desc := "(I)I" } : MethodName) ({ cls := "GoodsKeeper$Rule", name := "won", desc := "(I)I" } : MethodName) ∈ bg := bg_in 162 (by decide +kernel) (by decide +kernel)
theorem wd_163 : Cond.code ({ cls := "GoodsKeeper$Rule", name := "won", desc := "(I)I" } : MethodName) prog_5_method_2_code (2 : Nat) (Option.some FieldType.int) ∈ bg := bg_in 163 (by decide +kernel) (by decide +kernel)
theorem wd_164 : Cond.methodLink "GoodsKeeper" (296 : Nat) ({ cls := "GoodsKeeper$Hunt", name := "findsGain", desc := "()Z" } : MethodName) ∈ bg := bg_in 164 (by decide +kernel) (by decide +kernel)
theorem wd_165 : Cond.instanceMethod ({ cls := "GoodsKeeper$Hunt", name := "findsGain", desc := "()Z" } : MethodName) ∈ bg := bg_in 165 (by decide +kernel) (by decide +kernel)
theorem wd_166 : Cond.selects "GoodsKeeper$Hunt" ({ cls := "GoodsKeeper$Hunt", name := "findsGain", desc := "()Z" } : MethodName) ({ cls := "GoodsKeeper$Hunt", name := "findsGain", desc := "()Z" } : MethodName) ∈ bg := bg_in 166 (by decide +kernel) (by decide +kernel)
theorem wd_167 : Cond.code ({ cls := "GoodsKeeper$Hunt", name := "findsGain", desc := "()Z" } : MethodName) prog_2_method_4_code (4 : Nat) (Option.some FieldType.boolean) ∈ bg := bg_in 167 (by decide +kernel) (by decide +kernel)
theorem wd_168 : Cond.methodLink "GoodsKeeper$Hunt" (37 : Nat) ({ cls := "GoodsKeeper$Hunt", name := "risingColumn", desc := "()I" } : MethodName) ∈ bg := bg_in 168 (by decide +kernel) (by decide +kernel)
theorem wd_170 : Cond.instanceMethod ({ cls := "GoodsKeeper$Hunt", name := "risingColumn", desc := "()I" } : MethodName) ∈ bg := bg_in 170 (by decide +kernel) (by decide +kernel)
theorem wd_171 : Cond.code ({ cls := "GoodsKeeper$Hunt", name := "risingColumn", desc := "()I" } : MethodName) prog_2_method_5_code (3 : Nat) (Option.some FieldType.int) ∈ bg := bg_in 171 (by decide +kernel) (by decide +kernel)
theorem wd_172 : Cond.methodLink "GoodsKeeper$Hunt" (41 : Nat) ({ cls := "GoodsKeeper$Hunt", name := "hinderingRow", desc := "(I)I" } : MethodName) ∈ bg := bg_in 172 (by decide +kernel) (by decide +kernel)
theorem wd_174 : Cond.instanceMethod ({ cls := "GoodsKeeper$Hunt", name := "hinderingRow", desc := "(I)I" } : MethodName) ∈ bg := bg_in 174 (by decide +kernel) (by decide +kernel)
theorem wd_175 : Cond.code ({ cls := "GoodsKeeper$Hunt", name := "hinderingRow", desc := "(I)I" } : MethodName) prog_2_method_6_code (4 : Nat) (Option.some FieldType.int) ∈ bg := bg_in 175 (by decide +kernel) (by decide +kernel)
theorem wd_176 : Cond.methodLink "GoodsKeeper$Hunt" (44 : Nat) ({ cls := "GoodsKeeper$Hunt", name := "exchange", desc := "(II)V" } : MethodName) ∈ bg := bg_in 176 (by decide +kernel) (by decide +kernel)
theorem wd_178 : Cond.instanceMethod ({ cls := "GoodsKeeper$Hunt", name := "exchange", desc := "(II)V" } : MethodName) ∈ bg := bg_in 178 (by decide +kernel) (by decide +kernel)
theorem wd_179 : Cond.code ({ cls := "GoodsKeeper$Hunt", name := "exchange", desc := "(II)V" } : MethodName) prog_2_method_7_code (6 : Nat) (Option.none : Option FieldType) ∈ bg := bg_in 179 (by decide +kernel) (by decide +kernel)
theorem wd_180 : Cond.methodLink "GoodsKeeper$Hunt" (48 : Nat) ({ cls := "GoodsKeeper$Hunt", name := "replaceIn", desc := "(IIIJ)V" } : MethodName) ∈ bg := bg_in 180 (by decide +kernel) (by decide +kernel)
theorem wd_182 : Cond.instanceMethod ({ cls := "GoodsKeeper$Hunt", name := "replaceIn", desc := "(IIIJ)V" } : MethodName) ∈ bg := bg_in 182 (by decide +kernel) (by decide +kernel)
theorem wd_183 : Cond.code ({ cls := "GoodsKeeper$Hunt", name := "replaceIn", desc := "(IIIJ)V" } : MethodName) prog_2_method_8_code (9 : Nat) (Option.none : Option FieldType) ∈ bg := bg_in 183 (by decide +kernel) (by decide +kernel)
theorem wd_185 : Cond.instanceMethod ({ cls := "GoodsKeeper", name := "earns", desc := "()Z" } : MethodName) ∈ bg := bg_in 185 (by decide +kernel) (by decide +kernel)
theorem wd_186 : Cond.selects "GoodsKeeper" ({ cls := "GoodsKeeper", name := "earns", desc := "()Z" } : MethodName) ({ cls := "GoodsKeeper", name := "earns", desc := "()Z" } : MethodName) ∈ bg := bg_in 186 (by decide +kernel) (by decide +kernel)
theorem wd_187 : Cond.code ({ cls := "GoodsKeeper", name := "earns", desc := "()Z" } : MethodName) prog_1_method_27_code (4 : Nat) (Option.some FieldType.boolean) ∈ bg := bg_in 187 (by decide +kernel) (by decide +kernel)
theorem wd_188 : Cond.methodLink "GoodsKeeper" (302 : Nat) ({ cls := "GoodsKeeper", name := "wonByTimes", desc := "(I)I" } : MethodName) ∈ bg := bg_in 188 (by decide +kernel) (by decide +kernel)
theorem wd_190 : Cond.instanceMethod ({ cls := "GoodsKeeper", name := "wonByTimes", desc := "(I)I" } : MethodName) ∈ bg := bg_in 190 (by decide +kernel) (by decide +kernel)
theorem wd_191 : Cond.code ({ cls := "GoodsKeeper", name := "wonByTimes", desc := "(I)I" } : MethodName) prog_1_method_30_code (5 : Nat) (Option.some FieldType.int) ∈ bg := bg_in 191 (by decide +kernel) (by decide +kernel)
theorem wd_192 : Cond.methodLink "GoodsKeeper" (310 : Nat) ({ cls := "GoodsKeeper$Rule", name := "won", desc := "(I)I" } : MethodName) ∈ bg := bg_in 192 (by decide +kernel) (by decide +kernel)
theorem wd_194 : Cond.instanceMethod ({ cls := "GoodsKeeper", name := "bars", desc := "()Z" } : MethodName) ∈ bg := bg_in 194 (by decide +kernel) (by decide +kernel)
theorem wd_195 : Cond.selects "GoodsKeeper" ({ cls := "GoodsKeeper", name := "bars", desc := "()Z" } : MethodName) ({ cls := "GoodsKeeper", name := "bars", desc := "()Z" } : MethodName) ∈ bg := bg_in 195 (by decide +kernel) (by decide +kernel)
theorem wd_196 : Cond.code ({ cls := "GoodsKeeper", name := "bars", desc := "()Z" } : MethodName) prog_1_method_29_code (3 : Nat) (Option.some FieldType.boolean) ∈ bg := bg_in 196 (by decide +kernel) (by decide +kernel)
theorem wd_197 : Cond.methodLink "GoodsKeeper" (306 : Nat) ({ cls := "GoodsKeeper", name := "weightWonBy", desc := "(LGoodsKeeper$Rule;)I" } : MethodName) ∈ bg := bg_in 197 (by decide +kernel) (by decide +kernel)
theorem wd_199 : Cond.instanceMethod ({ cls := "GoodsKeeper", name := "weightWonBy", desc := "(LGoodsKeeper$Rule;)I" } : MethodName) ∈ bg := bg_in 199 (by decide +kernel) (by decide +kernel)
theorem wd_200 : Cond.code ({ cls := "GoodsKeeper", name := "weightWonBy", desc := "(LGoodsKeeper$Rule;)I" } : MethodName) prog_1_method_31_code (4 : Nat) (Option.some FieldType.int) ∈ bg := bg_in 200 (by decide +kernel) (by decide +kernel)
theorem wd_202 : Cond.instanceMethod ({ cls := "GoodsKeeper", name := "count", desc := "(I)I" } : MethodName) ∈ bg := bg_in 202 (by decide +kernel) (by decide +kernel)
theorem wd_203 : Cond.selects "GoodsKeeper" ({ cls := "GoodsKeeper", name := "count", desc := "(I)I" } : MethodName) ({ cls := "GoodsKeeper", name := "count", desc := "(I)I" } : MethodName) ∈ bg := bg_in 203 (by decide +kernel) (by decide +kernel)
theorem wd_204 : Cond.code ({ cls := "GoodsKeeper", name := "count", desc := "(I)I" } : MethodName) prog_1_method_32_code (2 : Nat) (Option.some FieldType.int) ∈ bg := bg_in 204 (by decide +kernel) (by decide +kernel)
theorem wd_205 : Cond.methodLink "GoodsKeeper" (116 : Nat) ({ cls := "GoodsKeeper$Things", name := "size", desc := "()I" } : MethodName) ∈ bg := bg_in 205 (by decide +kernel) (by decide +kernel)
theorem wd_206 : Cond.instanceMethod ({ cls := "GoodsKeeper$Things", name := "size", desc := "()I" } : MethodName) ∈ bg := bg_in 206 (by decide +kernel) (by decide +kernel)
theorem wd_207 : Cond.selects "GoodsKeeper$Things" ({ cls := "GoodsKeeper$Things", name := "size", desc := "()I" } : MethodName) ({ cls := "GoodsKeeper$Things", name := "size", desc := "()I" } : MethodName) ∈ bg := bg_in 207 (by decide +kernel) (by decide +kernel)
theorem wd_208 : Cond.code ({ cls := "GoodsKeeper$Things", name := "size", desc := "()I" } : MethodName) prog_8_method_2_code (1 : Nat) (Option.some FieldType.int) ∈ bg := bg_in 208 (by decide +kernel) (by decide +kernel)
theorem wd_209 : Cond.methodLink "GoodsKeeper$Things" (16 : Nat) ({ cls := "java/util/ArrayList", name := "size", desc := "()I" } : MethodName) ∈ bg := bg_in 209 (by decide +kernel) (by decide +kernel)
theorem wd_210 : Cond.methodLink "GoodsKeeper" (313 : Nat) ({ cls := "GoodsKeeper$Things", name := "countBroken", desc := "()I" } : MethodName) ∈ bg := bg_in 210 (by decide +kernel) (by decide +kernel)
theorem wd_211 : Cond.instanceMethod ({ cls := "GoodsKeeper$Things", name := "countBroken", desc := "()I" } : MethodName) ∈ bg := bg_in 211 (by decide +kernel) (by decide +kernel)
theorem wd_212 : Cond.selects "GoodsKeeper$Things" ({ cls := "GoodsKeeper$Things", name := "countBroken", desc := "()I" } : MethodName) ({ cls := "GoodsKeeper$Things", name := "countBroken", desc := "()I" } : MethodName) ∈ bg := bg_in 212 (by decide +kernel) (by decide +kernel)
theorem wd_213 : Cond.code ({ cls := "GoodsKeeper$Things", name := "countBroken", desc := "()I" } : MethodName) prog_8_method_13_code (3 : Nat) (Option.some FieldType.int) ∈ bg := bg_in 213 (by decide +kernel) (by decide +kernel)
theorem wd_214 : Cond.methodLink "GoodsKeeper$Things" (31 : Nat) ({ cls := "java/util/ArrayList", name := "get", desc := "(I)Ljava/lang/Object;" } : MethodName) ∈ bg := bg_in 214 (by decide +kernel) (by decide +kernel)
theorem wd_215 : Cond.classLink "GoodsKeeper$Things" (35 : Nat) "GoodsKeeper$Single" ∈ bg := bg_in 215 (by decide +kernel) (by decide +kernel)
theorem wd_216 : Cond.methodLink "GoodsKeeper$Things" (37 : Nat) ({ cls := "GoodsKeeper$Single", name := "isBroken", desc := "()Z" } : MethodName) ∈ bg := bg_in 216 (by decide +kernel) (by decide +kernel)
theorem wd_217 : Cond.instanceMethod ({ cls := "GoodsKeeper$Single", name := "isBroken", desc := "()Z" } : MethodName) ∈ bg := bg_in 217 (by decide +kernel) (by decide +kernel)
theorem wd_218 : Cond.selects "GoodsKeeper$Single" ({ cls := "GoodsKeeper$Single", name := "isBroken", desc := "()Z" } : MethodName) ({ cls := "GoodsKeeper$Single", name := "isBroken", desc := "()Z" } : MethodName) ∈ bg := bg_in 218 (by decide +kernel) (by decide +kernel)
theorem wd_219 : Cond.code ({ cls := "GoodsKeeper$Single", name := "isBroken", desc := "()Z" } : MethodName) prog_7_method_2_code (1 : Nat) (Option.some FieldType.boolean) ∈ bg := bg_in 219 (by decide +kernel) (by decide +kernel)
theorem wd_220 : Cond.methodLink "GoodsKeeper" (316 : Nat) ({ cls := "GoodsKeeper$Things", name := "countLent", desc := "()I" } : MethodName) ∈ bg := bg_in 220 (by decide +kernel) (by decide +kernel)
theorem wd_221 : Cond.instanceMethod ({ cls := "GoodsKeeper$Things", name := "countLent", desc := "()I" } : MethodName) ∈ bg := bg_in 221 (by decide +kernel) (by decide +kernel)
theorem wd_222 : Cond.selects "GoodsKeeper$Things" ({ cls := "GoodsKeeper$Things", name := "countLent", desc := "()I" } : MethodName) ({ cls := "GoodsKeeper$Things", name := "countLent", desc := "()I" } : MethodName) ∈ bg := bg_in 222 (by decide +kernel) (by decide +kernel)
theorem wd_223 : Cond.code ({ cls := "GoodsKeeper$Things", name := "countLent", desc := "()I" } : MethodName) prog_8_method_14_code (3 : Nat) (Option.some FieldType.int) ∈ bg := bg_in 223 (by decide +kernel) (by decide +kernel)
theorem wd_224 : Cond.methodLink "GoodsKeeper$Things" (65 : Nat) ({ cls := "GoodsKeeper$Single", name := "isLent", desc := "()Z" } : MethodName) ∈ bg := bg_in 224 (by decide +kernel) (by decide +kernel)
theorem wd_225 : Cond.instanceMethod ({ cls := "GoodsKeeper$Single", name := "isLent", desc := "()Z" } : MethodName) ∈ bg := bg_in 225 (by decide +kernel) (by decide +kernel)
theorem wd_226 : Cond.selects "GoodsKeeper$Single" ({ cls := "GoodsKeeper$Single", name := "isLent", desc := "()Z" } : MethodName) ({ cls := "GoodsKeeper$Single", name := "isLent", desc := "()Z" } : MethodName) ∈ bg := bg_in 226 (by decide +kernel) (by decide +kernel)
theorem wd_227 : Cond.code ({ cls := "GoodsKeeper$Single", name := "isLent", desc := "()Z" } : MethodName) prog_7_method_3_code (1 : Nat) (Option.some FieldType.boolean) ∈ bg := bg_in 227 (by decide +kernel) (by decide +kernel)
theorem wd_228 : Cond.methodLink "GoodsKeeper" (319 : Nat) ({ cls := "GoodsKeeper", name := "countOpen", desc := "()I" } : MethodName) ∈ bg := bg_in 228 (by decide +kernel) (by decide +kernel)
theorem wd_230 : Cond.instanceMethod ({ cls := "GoodsKeeper", name := "countOpen", desc := "()I" } : MethodName) ∈ bg := bg_in 230 (by decide +kernel) (by decide +kernel)
theorem wd_231 : Cond.code ({ cls := "GoodsKeeper", name := "countOpen", desc := "()I" } : MethodName) prog_1_method_33_code (3 : Nat) (Option.some FieldType.int) ∈ bg := bg_in 231 (by decide +kernel) (by decide +kernel)
theorem wd_232 : Cond.classLink "GoodsKeeper" (226 : Nat) "GoodsKeeper$Offer" ∈ bg := bg_in 232 (by decide +kernel) (by decide +kernel)
theorem wd_310 : Cond.classLink "GoodsKeeper" (58 : Nat) "GoodsKeeper$Player" ∈ bg := bg_in 310 (by decide +kernel) (by decide +kernel)
theorem wd_313 : Cond.instanceMethod ({ cls := "GoodsKeeper$Player", name := "<init>", desc := "(I)V" } : MethodName) ∈ bg := bg_in 313 (by decide +kernel) (by decide +kernel)
theorem wd_314 : Cond.code ({ cls := "GoodsKeeper$Player", name := "<init>", desc := "(I)V" } : MethodName) prog_4_method_1_code (2 : Nat) (Option.none : Option FieldType) ∈ bg := bg_in 314 (by decide +kernel) (by decide +kernel)
theorem wd_315 : Cond.methodLink "GoodsKeeper$Player" (3 : Nat) ({ cls := "java/lang/Object", name := "<init>", desc := "()V" } : MethodName) ∈ bg := bg_in 315 (by decide +kernel) (by decide +kernel)
theorem wd_316 : Cond.fieldLink "GoodsKeeper$Player" (15 : Nat) "GoodsKeeper$Player" "number" "I" ∈ bg := bg_in 316 (by decide +kernel) (by decide +kernel)
theorem wd_317 : Cond.fieldLink "GoodsKeeper$Single" (42 : Nat) "GoodsKeeper$Player" "number" "I" ∈ bg := bg_in 317 (by decide +kernel) (by decide +kernel)
theorem wd_318 : Cond.fieldLink "GoodsKeeper" (335 : Nat) "GoodsKeeper$Player" "number" "I" ∈ bg := bg_in 318 (by decide +kernel) (by decide +kernel)
theorem wd_319 : Cond.fieldLink "GoodsKeeper$Player" (9 : Nat) "GoodsKeeper$Player" "goods" "[I" ∈ bg := bg_in 319 (by decide +kernel) (by decide +kernel)
theorem wd_320 : Cond.fieldLink "GoodsKeeper$Side" (34 : Nat) "GoodsKeeper$Player" "goods" "[I" ∈ bg := bg_in 320 (by decide +kernel) (by decide +kernel)
theorem wd_321 : Cond.fieldLink "GoodsKeeper" (110 : Nat) "GoodsKeeper$Player" "goods" "[I" ∈ bg := bg_in 321 (by decide +kernel) (by decide +kernel)
theorem wd_322 : Cond.fieldLink "GoodsKeeper" (95 : Nat) "GoodsKeeper$Player" "latestDeed" "I" ∈ bg := bg_in 322 (by decide +kernel) (by decide +kernel)
theorem wd_323 : Cond.fieldLink "GoodsKeeper" (99 : Nat) "GoodsKeeper$Player" "latestAnswer" "I" ∈ bg := bg_in 323 (by decide +kernel) (by decide +kernel)
theorem wd_387 : Cond.static ({ cls := "java/lang/Math", name := "min", desc := "(II)I" } : MethodName) ∈ bg := bg_in 387 (by decide +kernel) (by decide +kernel)
theorem wd_388 : Cond.code ({ cls := "java/lang/Math", name := "min", desc := "(II)I" } : MethodName) prog_17_method_69_code (2 : Nat) (Option.some FieldType.int) ∈ bg := bg_in 388 (by decide +kernel) (by decide +kernel)
theorem wd_404 : Cond.instanceMethod ({ cls := "GoodsKeeper$Rule", name := "<init>", desc := "(Z)V" } : MethodName) ∈ bg := bg_in 404 (by decide +kernel) (by decide +kernel)
theorem wd_405 : Cond.code ({ cls := "GoodsKeeper$Rule", name := "<init>", desc := "(Z)V" } : MethodName) prog_5_method_1_code (2 : Nat) (Option.none : Option FieldType) ∈ bg := bg_in 405 (by decide +kernel) (by decide +kernel)
theorem wd_406 : Cond.methodLink "GoodsKeeper$Rule" (3 : Nat) ({ cls := "java/lang/Object", name := "<init>", desc := "()V" } : MethodName) ∈ bg := bg_in 406 (by decide +kernel) (by decide +kernel)
theorem wd_407 : Cond.fieldLink "GoodsKeeper$Rule" (18 : Nat) "GoodsKeeper$Rule" "source" "Z" ∈ bg := bg_in 407 (by decide +kernel) (by decide +kernel)
theorem wd_408 : Cond.fieldLink "GoodsKeeper" (289 : Nat) "GoodsKeeper$Rule" "source" "Z" ∈ bg := bg_in 408 (by decide +kernel) (by decide +kernel)
theorem wd_409 : Cond.fieldLink "GoodsKeeper$Rule" (9 : Nat) "GoodsKeeper$Rule" "in" "[I" ∈ bg := bg_in 409 (by decide +kernel) (by decide +kernel)
theorem wd_410 : Cond.fieldLink "GoodsKeeper$Player" (19 : Nat) "GoodsKeeper$Rule" "in" "[I" ∈ bg := bg_in 410 (by decide +kernel) (by decide +kernel)
theorem wd_411 : Cond.fieldLink "GoodsKeeper" (88 : Nat) "GoodsKeeper$Rule" "in" "[I" ∈ bg := bg_in 411 (by decide +kernel) (by decide +kernel)
theorem wd_412 : Cond.fieldLink "GoodsKeeper$Rule" (15 : Nat) "GoodsKeeper$Rule" "out" "[I" ∈ bg := bg_in 412 (by decide +kernel) (by decide +kernel)
theorem wd_413 : Cond.fieldLink "GoodsKeeper" (85 : Nat) "GoodsKeeper$Rule" "out" "[I" ∈ bg := bg_in 413 (by decide +kernel) (by decide +kernel)
theorem wd_414 : Cond.fieldLink "GoodsKeeper" (299 : Nat) "GoodsKeeper$Rule" "times" "I" ∈ bg := bg_in 414 (by decide +kernel) (by decide +kernel)
theorem wd_430 : Cond.instanceMethod ({ cls := "GoodsKeeper", name := "part", desc := "(IIZI)V" } : MethodName) ∈ bg := bg_in 430 (by decide +kernel) (by decide +kernel)
theorem wd_431 : Cond.selects "GoodsKeeper" ({ cls := "GoodsKeeper", name := "part", desc := "(IIZI)V" } : MethodName) ({ cls := "GoodsKeeper", name := "part", desc := "(IIZI)V" } : MethodName) ∈ bg := bg_in 431 (by decide +kernel) (by decide +kernel)
theorem wd_432 : Cond.code ({ cls := "GoodsKeeper", name := "part", desc := "(IIZI)V" } : MethodName) prog_1_method_4_code (6 : Nat) (Option.none : Option FieldType) ∈ bg := bg_in 432 (by decide +kernel) (by decide +kernel)
theorem wd_433 : Cond.methodLink "GoodsKeeper" (74 : Nat) ({ cls := "GoodsKeeper", name := "ruleAt", desc := "(I)LGoodsKeeper$Rule;" } : MethodName) ∈ bg := bg_in 433 (by decide +kernel) (by decide +kernel)
theorem wd_435 : Cond.instanceMethod ({ cls := "GoodsKeeper", name := "ruleAt", desc := "(I)LGoodsKeeper$Rule;" } : MethodName) ∈ bg := bg_in 435 (by decide +kernel) (by decide +kernel)
theorem wd_436 : Cond.code ({ cls := "GoodsKeeper", name := "ruleAt", desc := "(I)LGoodsKeeper$Rule;" } : MethodName) prog_1_method_35_code (2 : Nat) (Option.some (FieldType.object "GoodsKeeper$Rule")) ∈ bg := bg_in 436 (by decide +kernel) (by decide +kernel)
theorem wd_437 : Cond.classLink "GoodsKeeper" (322 : Nat) "java/lang/IndexOutOfBoundsException" ∈ bg := bg_in 437 (by decide +kernel) (by decide +kernel)
theorem wd_453 : Cond.methodLink "GoodsKeeper" (78 : Nat) ({ cls := "GoodsKeeper", name := "checkKind", desc := "(I)V" } : MethodName) ∈ bg := bg_in 453 (by decide +kernel) (by decide +kernel)
theorem wd_454 : Cond.static ({ cls := "GoodsKeeper", name := "checkKind", desc := "(I)V" } : MethodName) ∈ bg := bg_in 454 (by decide +kernel) (by decide +kernel)
theorem wd_455 : Cond.code ({ cls := "GoodsKeeper", name := "checkKind", desc := "(I)V" } : MethodName) prog_1_method_37_code (1 : Nat) (Option.none : Option FieldType) ∈ bg := bg_in 455 (by decide +kernel) (by decide +kernel)
theorem wd_457 : Cond.methodLink "GoodsKeeper" (81 : Nat) ({ cls := "GoodsKeeper", name := "checkRange", desc := "(III)V" } : MethodName) ∈ bg := bg_in 457 (by decide +kernel) (by decide +kernel)
theorem wd_458 : Cond.static ({ cls := "GoodsKeeper", name := "checkRange", desc := "(III)V" } : MethodName) ∈ bg := bg_in 458 (by decide +kernel) (by decide +kernel)
theorem wd_459 : Cond.code ({ cls := "GoodsKeeper", name := "checkRange", desc := "(III)V" } : MethodName) prog_1_method_38_code (3 : Nat) (Option.none : Option FieldType) ∈ bg := bg_in 459 (by decide +kernel) (by decide +kernel)
theorem wd_460 : Cond.classLink "GoodsKeeper" (218 : Nat) "java/lang/IllegalArgumentException" ∈ bg := bg_in 460 (by decide +kernel) (by decide +kernel)
theorem wd_480 : Cond.instanceMethod ({ cls := "GoodsKeeper", name := "deed", desc := "(IIII)I" } : MethodName) ∈ bg := bg_in 480 (by decide +kernel) (by decide +kernel)
theorem wd_481 : Cond.selects "GoodsKeeper" ({ cls := "GoodsKeeper", name := "deed", desc := "(IIII)I" } : MethodName) ({ cls := "GoodsKeeper", name := "deed", desc := "(IIII)I" } : MethodName) ∈ bg := bg_in 481 (by decide +kernel) (by decide +kernel)
theorem wd_482 : Cond.code ({ cls := "GoodsKeeper", name := "deed", desc := "(IIII)I" } : MethodName) prog_1_method_5_code (8 : Nat) (Option.some FieldType.int) ∈ bg := bg_in 482 (by decide +kernel) (by decide +kernel)
theorem wd_483 : Cond.methodLink "GoodsKeeper" (91 : Nat) ({ cls := "GoodsKeeper", name := "playerAt", desc := "(I)LGoodsKeeper$Player;" } : MethodName) ∈ bg := bg_in 483 (by decide +kernel) (by decide +kernel)
theorem wd_485 : Cond.instanceMethod ({ cls := "GoodsKeeper", name := "playerAt", desc := "(I)LGoodsKeeper$Player;" } : MethodName) ∈ bg := bg_in 485 (by decide +kernel) (by decide +kernel)
theorem wd_486 : Cond.code ({ cls := "GoodsKeeper", name := "playerAt", desc := "(I)LGoodsKeeper$Player;" } : MethodName) prog_1_method_34_code (2 : Nat) (Option.some (FieldType.object "GoodsKeeper$Player")) ∈ bg := bg_in 486 (by decide +kernel) (by decide +kernel)
theorem wd_488 : Cond.methodLink "GoodsKeeper" (102 : Nat) ({ cls := "GoodsKeeper$Player", name := "answerTo", desc := "(LGoodsKeeper$Rule;I)I" } : MethodName) ∈ bg := bg_in 488 (by decide +kernel) (by decide +kernel)
theorem wd_489 : Cond.instanceMethod ({ cls := "GoodsKeeper$Player", name := "answerTo", desc := "(LGoodsKeeper$Rule;I)I" } : MethodName) ∈ bg := bg_in 489 (by decide +kernel) (by decide +kernel)
theorem wd_490 : Cond.selects "GoodsKeeper$Player" ({ cls := "GoodsKeeper$Player", name := "answerTo", desc := "(LGoodsKeeper$Rule;I)I" } : MethodName) ({ cls := "GoodsKeeper$Player", name := "answerTo", desc := "(LGoodsKeeper$Rule;I)I" } : MethodName) ∈ bg := bg_in 490 (by decide +kernel) (by decide +kernel)
theorem wd_491 : Cond.code ({ cls := "GoodsKeeper$Player", name := "answerTo", desc := "(LGoodsKeeper$Rule;I)I" } : MethodName) prog_4_method_2_code (4 : Nat) (Option.some FieldType.int) ∈ bg := bg_in 491 (by decide +kernel) (by decide +kernel)
theorem wd_492 : Cond.methodLink "GoodsKeeper$Player" (24 : Nat) ({ cls := "GoodsKeeper$Rule", name := "won", desc := "(I)I" } : MethodName) ∈ bg := bg_in 492 (by decide +kernel) (by decide +kernel)
theorem wd_493 : Cond.constant "GoodsKeeper$Player" (28 : Nat) (1000000000 : Int32) ∈ bg := bg_in 493 (by decide +kernel) (by decide +kernel)
theorem wd_494 : Cond.methodLink "GoodsKeeper" (106 : Nat) ({ cls := "GoodsKeeper", name := "carryOut", desc := "(LGoodsKeeper$Player;LGoodsKeeper$Rule;I)V" } : MethodName) ∈ bg := bg_in 494 (by decide +kernel) (by decide +kernel)
theorem wd_496 : Cond.instanceMethod ({ cls := "GoodsKeeper", name := "carryOut", desc := "(LGoodsKeeper$Player;LGoodsKeeper$Rule;I)V" } : MethodName) ∈ bg := bg_in 496 (by decide +kernel) (by decide +kernel)
theorem wd_497 : Cond.code ({ cls := "GoodsKeeper", name := "carryOut", desc := "(LGoodsKeeper$Player;LGoodsKeeper$Rule;I)V" } : MethodName) prog_1_method_8_code (7 : Nat) (Option.none : Option FieldType) ∈ bg := bg_in 497 (by decide +kernel) (by decide +kernel)
theorem wd_502 : Cond.instanceMethod ({ cls := "GoodsKeeper", name := "has", desc := "(II)I" } : MethodName) ∈ bg := bg_in 502 (by decide +kernel) (by decide +kernel)
theorem wd_503 : Cond.selects "GoodsKeeper" ({ cls := "GoodsKeeper", name := "has", desc := "(II)I" } : MethodName) ({ cls := "GoodsKeeper", name := "has", desc := "(II)I" } : MethodName) ∈ bg := bg_in 503 (by decide +kernel) (by decide +kernel)
theorem wd_504 : Cond.code ({ cls := "GoodsKeeper", name := "has", desc := "(II)I" } : MethodName) prog_1_method_6_code (4 : Nat) (Option.some FieldType.int) ∈ bg := bg_in 504 (by decide +kernel) (by decide +kernel)
theorem wd_509 : Cond.instanceMethod ({ cls := "GoodsKeeper", name := "sum", desc := "(IZ)J" } : MethodName) ∈ bg := bg_in 509 (by decide +kernel) (by decide +kernel)
theorem wd_510 : Cond.selects "GoodsKeeper" ({ cls := "GoodsKeeper", name := "sum", desc := "(IZ)J" } : MethodName) ({ cls := "GoodsKeeper", name := "sum", desc := "(IZ)J" } : MethodName) ∈ bg := bg_in 510 (by decide +kernel) (by decide +kernel)
theorem wd_511 : Cond.code ({ cls := "GoodsKeeper", name := "sum", desc := "(IZ)J" } : MethodName) prog_1_method_7_code (3 : Nat) (Option.some FieldType.long) ∈ bg := bg_in 511 (by decide +kernel) (by decide +kernel)
theorem wd_523 : Cond.instanceMethod ({ cls := "GoodsKeeper$Single", name := "<init>", desc := "(IZI)V" } : MethodName) ∈ bg := bg_in 523 (by decide +kernel) (by decide +kernel)
theorem wd_524 : Cond.code ({ cls := "GoodsKeeper$Single", name := "<init>", desc := "(IZI)V" } : MethodName) prog_7_method_1_code (4 : Nat) (Option.none : Option FieldType) ∈ bg := bg_in 524 (by decide +kernel) (by decide +kernel)
theorem wd_525 : Cond.methodLink "GoodsKeeper$Single" (3 : Nat) ({ cls := "java/lang/Object", name := "<init>", desc := "()V" } : MethodName) ∈ bg := bg_in 525 (by decide +kernel) (by decide +kernel)
theorem wd_526 : Cond.fieldLink "GoodsKeeper$Single" (22 : Nat) "GoodsKeeper$Single" "number" "I" ∈ bg := bg_in 526 (by decide +kernel) (by decide +kernel)
theorem wd_527 : Cond.fieldLink "GoodsKeeper" (187 : Nat) "GoodsKeeper$Single" "number" "I" ∈ bg := bg_in 527 (by decide +kernel) (by decide +kernel)
theorem wd_528 : Cond.fieldLink "GoodsKeeper$Single" (25 : Nat) "GoodsKeeper$Single" "bound" "Z" ∈ bg := bg_in 528 (by decide +kernel) (by decide +kernel)
theorem wd_529 : Cond.fieldLink "GoodsKeeper$Things" (61 : Nat) "GoodsKeeper$Single" "bound" "Z" ∈ bg := bg_in 529 (by decide +kernel) (by decide +kernel)
theorem wd_530 : Cond.fieldLink "GoodsKeeper$Single" (29 : Nat) "GoodsKeeper$Single" "room" "I" ∈ bg := bg_in 530 (by decide +kernel) (by decide +kernel)
theorem wd_531 : Cond.fieldLink "GoodsKeeper$Things" (57 : Nat) "GoodsKeeper$Single" "room" "I" ∈ bg := bg_in 531 (by decide +kernel) (by decide +kernel)
theorem wd_532 : Cond.fieldLink "GoodsKeeper$Single" (9 : Nat) "GoodsKeeper$Single" "linePlayers" "[I" ∈ bg := bg_in 532 (by decide +kernel) (by decide +kernel)
theorem wd_533 : Cond.fieldLink "GoodsKeeper" (211 : Nat) "GoodsKeeper$Single" "linePlayers" "[I" ∈ bg := bg_in 533 (by decide +kernel) (by decide +kernel)
theorem wd_534 : Cond.fieldLink "GoodsKeeper$Single" (15 : Nat) "GoodsKeeper$Single" "lineDays" "[I" ∈ bg := bg_in 534 (by decide +kernel) (by decide +kernel)
theorem wd_535 : Cond.fieldLink "GoodsKeeper" (208 : Nat) "GoodsKeeper$Single" "lineDays" "[I" ∈ bg := bg_in 535 (by decide +kernel) (by decide +kernel)
theorem wd_536 : Cond.fieldLink "GoodsKeeper$Single" (39 : Nat) "GoodsKeeper$Single" "lineLength" "I" ∈ bg := bg_in 536 (by decide +kernel) (by decide +kernel)
theorem wd_537 : Cond.fieldLink "GoodsKeeper" (200 : Nat) "GoodsKeeper$Single" "lineLength" "I" ∈ bg := bg_in 537 (by decide +kernel) (by decide +kernel)
theorem wd_538 : Cond.fieldLink "GoodsKeeper$Side" (26 : Nat) "GoodsKeeper$Single" "wear" "I" ∈ bg := bg_in 538 (by decide +kernel) (by decide +kernel)
theorem wd_539 : Cond.fieldLink "GoodsKeeper" (168 : Nat) "GoodsKeeper$Single" "wear" "I" ∈ bg := bg_in 539 (by decide +kernel) (by decide +kernel)
theorem wd_540 : Cond.fieldLink "GoodsKeeper$Single" (18 : Nat) "GoodsKeeper$Single" "lentUntil" "I" ∈ bg := bg_in 540 (by decide +kernel) (by decide +kernel)
theorem wd_541 : Cond.fieldLink "GoodsKeeper$Things" (86 : Nat) "GoodsKeeper$Single" "lentUntil" "I" ∈ bg := bg_in 541 (by decide +kernel) (by decide +kernel)
theorem wd_542 : Cond.fieldLink "GoodsKeeper" (161 : Nat) "GoodsKeeper$Single" "lentUntil" "I" ∈ bg := bg_in 542 (by decide +kernel) (by decide +kernel)
theorem wd_543 : Cond.fieldLink "GoodsKeeper$Single" (36 : Nat) "GoodsKeeper$Single" "lender" "LGoodsKeeper$Player;" ∈ bg := bg_in 543 (by decide +kernel) (by decide +kernel)
theorem wd_544 : Cond.fieldLink "GoodsKeeper$Things" (83 : Nat) "GoodsKeeper$Single" "lender" "LGoodsKeeper$Player;" ∈ bg := bg_in 544 (by decide +kernel) (by decide +kernel)
theorem wd_545 : Cond.fieldLink "GoodsKeeper" (158 : Nat) "GoodsKeeper$Single" "lender" "LGoodsKeeper$Player;" ∈ bg := bg_in 545 (by decide +kernel) (by decide +kernel)
theorem wd_546 : Cond.fieldLink "GoodsKeeper$Single" (32 : Nat) "GoodsKeeper$Single" "owner" "LGoodsKeeper$Player;" ∈ bg := bg_in 546 (by decide +kernel) (by decide +kernel)
theorem wd_547 : Cond.fieldLink "GoodsKeeper$Things" (41 : Nat) "GoodsKeeper$Single" "owner" "LGoodsKeeper$Player;" ∈ bg := bg_in 547 (by decide +kernel) (by decide +kernel)
theorem wd_548 : Cond.fieldLink "GoodsKeeper" (146 : Nat) "GoodsKeeper$Single" "owner" "LGoodsKeeper$Player;" ∈ bg := bg_in 548 (by decide +kernel) (by decide +kernel)
theorem wd_549 : Cond.fieldLink "GoodsKeeper$Things" (45 : Nat) "GoodsKeeper$Single" "holder" "LGoodsKeeper$Single;" ∈ bg := bg_in 549 (by decide +kernel) (by decide +kernel)
theorem wd_550 : Cond.fieldLink "GoodsKeeper$Single" (45 : Nat) "GoodsKeeper$Single" "holder" "LGoodsKeeper$Single;" ∈ bg := bg_in 550 (by decide +kernel) (by decide +kernel)
theorem wd_551 : Cond.fieldLink "GoodsKeeper" (142 : Nat) "GoodsKeeper$Single" "holder" "LGoodsKeeper$Single;" ∈ bg := bg_in 551 (by decide +kernel) (by decide +kernel)
theorem wd_576 : Cond.instanceMethod ({ cls := "GoodsKeeper$Single", name := "passTo", desc := "(LGoodsKeeper$Player;I)V" } : MethodName) ∈ bg := bg_in 576 (by decide +kernel) (by decide +kernel)
theorem wd_577 : Cond.selects "GoodsKeeper$Single" ({ cls := "GoodsKeeper$Single", name := "passTo", desc := "(LGoodsKeeper$Player;I)V" } : MethodName) ({ cls := "GoodsKeeper$Single", name := "passTo", desc := "(LGoodsKeeper$Player;I)V" } : MethodName) ∈ bg := bg_in 577 (by decide +kernel) (by decide +kernel)
theorem wd_578 : Cond.code ({ cls := "GoodsKeeper$Single", name := "passTo", desc := "(LGoodsKeeper$Player;I)V" } : MethodName) prog_7_method_4_code (3 : Nat) (Option.none : Option FieldType) ∈ bg := bg_in 578 (by decide +kernel) (by decide +kernel)
theorem wd_588 : Cond.instanceMethod ({ cls := "GoodsKeeper", name := "put", desc := "(II)Z" } : MethodName) ∈ bg := bg_in 588 (by decide +kernel) (by decide +kernel)
theorem wd_589 : Cond.selects "GoodsKeeper" ({ cls := "GoodsKeeper", name := "put", desc := "(II)Z" } : MethodName) ({ cls := "GoodsKeeper", name := "put", desc := "(II)Z" } : MethodName) ∈ bg := bg_in 589 (by decide +kernel) (by decide +kernel)
theorem wd_590 : Cond.code ({ cls := "GoodsKeeper", name := "put", desc := "(II)Z" } : MethodName) prog_1_method_10_code (5 : Nat) (Option.some FieldType.boolean) ∈ bg := bg_in 590 (by decide +kernel) (by decide +kernel)
theorem wd_591 : Cond.methodLink "GoodsKeeper" (134 : Nat) ({ cls := "GoodsKeeper$Things", name := "at", desc := "(I)LGoodsKeeper$Single;" } : MethodName) ∈ bg := bg_in 591 (by decide +kernel) (by decide +kernel)
theorem wd_592 : Cond.instanceMethod ({ cls := "GoodsKeeper$Things", name := "at", desc := "(I)LGoodsKeeper$Single;" } : MethodName) ∈ bg := bg_in 592 (by decide +kernel) (by decide +kernel)
theorem wd_593 : Cond.selects "GoodsKeeper$Things" ({ cls := "GoodsKeeper$Things", name := "at", desc := "(I)LGoodsKeeper$Single;" } : MethodName) ({ cls := "GoodsKeeper$Things", name := "at", desc := "(I)LGoodsKeeper$Single;" } : MethodName) ∈ bg := bg_in 593 (by decide +kernel) (by decide +kernel)
theorem wd_594 : Cond.code ({ cls := "GoodsKeeper$Things", name := "at", desc := "(I)LGoodsKeeper$Single;" } : MethodName) prog_8_method_4_code (2 : Nat) (Option.some (FieldType.object "GoodsKeeper$Single")) ∈ bg := bg_in 594 (by decide +kernel) (by decide +kernel)
theorem wd_595 : Cond.classLink "GoodsKeeper$Things" (24 : Nat) "java/lang/IndexOutOfBoundsException" ∈ bg := bg_in 595 (by decide +kernel) (by decide +kernel)
theorem wd_598 : Cond.methodLink "GoodsKeeper" (138 : Nat) ({ cls := "GoodsKeeper$Things", name := "mayLieIn", desc := "(LGoodsKeeper$Single;LGoodsKeeper$Single;)Z" } : MethodName) ∈ bg := bg_in 598 (by decide +kernel) (by decide +kernel)
theorem wd_599 : Cond.instanceMethod ({ cls := "GoodsKeeper$Things", name := "mayLieIn", desc := "(LGoodsKeeper$Single;LGoodsKeeper$Single;)Z" } : MethodName) ∈ bg := bg_in 599 (by decide +kernel) (by decide +kernel)
theorem wd_600 : Cond.selects "GoodsKeeper$Things" ({ cls := "GoodsKeeper$Things", name := "mayLieIn", desc := "(LGoodsKeeper$Single;LGoodsKeeper$Single;)Z" } : MethodName) ({ cls := "GoodsKeeper$Things", name := "mayLieIn", desc := "(LGoodsKeeper$Single;LGoodsKeeper$Single;)Z" } : MethodName) ∈ bg := bg_in 600 (by decide +kernel) (by decide +kernel)
theorem wd_601 : Cond.code ({ cls := "GoodsKeeper$Things", name := "mayLieIn", desc := "(LGoodsKeeper$Single;LGoodsKeeper$Single;)Z" } : MethodName) prog_8_method_5_code (3 : Nat) (Option.some FieldType.boolean) ∈ bg := bg_in 601 (by decide +kernel) (by decide +kernel)
theorem wd_602 : Cond.methodLink "GoodsKeeper$Things" (49 : Nat) ({ cls := "GoodsKeeper$Single", name := "liesWithin", desc := "(LGoodsKeeper$Single;)Z" } : MethodName) ∈ bg := bg_in 602 (by decide +kernel) (by decide +kernel)
theorem wd_603 : Cond.instanceMethod ({ cls := "GoodsKeeper$Single", name := "liesWithin", desc := "(LGoodsKeeper$Single;)Z" } : MethodName) ∈ bg := bg_in 603 (by decide +kernel) (by decide +kernel)
theorem wd_604 : Cond.selects "GoodsKeeper$Single" ({ cls := "GoodsKeeper$Single", name := "liesWithin", desc := "(LGoodsKeeper$Single;)Z" } : MethodName) ({ cls := "GoodsKeeper$Single", name := "liesWithin", desc := "(LGoodsKeeper$Single;)Z" } : MethodName) ∈ bg := bg_in 604 (by decide +kernel) (by decide +kernel)
theorem wd_605 : Cond.code ({ cls := "GoodsKeeper$Single", name := "liesWithin", desc := "(LGoodsKeeper$Single;)Z" } : MethodName) prog_7_method_6_code (3 : Nat) (Option.some FieldType.boolean) ∈ bg := bg_in 605 (by decide +kernel) (by decide +kernel)
theorem wd_606 : Cond.methodLink "GoodsKeeper$Things" (53 : Nat) ({ cls := "GoodsKeeper$Things", name := "rightWithin", desc := "(LGoodsKeeper$Single;)I" } : MethodName) ∈ bg := bg_in 606 (by decide +kernel) (by decide +kernel)
theorem wd_607 : Cond.instanceMethod ({ cls := "GoodsKeeper$Things", name := "rightWithin", desc := "(LGoodsKeeper$Single;)I" } : MethodName) ∈ bg := bg_in 607 (by decide +kernel) (by decide +kernel)
theorem wd_608 : Cond.selects "GoodsKeeper$Things" ({ cls := "GoodsKeeper$Things", name := "rightWithin", desc := "(LGoodsKeeper$Single;)I" } : MethodName) ({ cls := "GoodsKeeper$Things", name := "rightWithin", desc := "(LGoodsKeeper$Single;)I" } : MethodName) ∈ bg := bg_in 608 (by decide +kernel) (by decide +kernel)
theorem wd_609 : Cond.code ({ cls := "GoodsKeeper$Things", name := "rightWithin", desc := "(LGoodsKeeper$Single;)I" } : MethodName) prog_8_method_11_code (4 : Nat) (Option.some FieldType.int) ∈ bg := bg_in 609 (by decide +kernel) (by decide +kernel)
theorem wd_614 : Cond.instanceMethod ({ cls := "GoodsKeeper", name := "take", desc := "(I)Z" } : MethodName) ∈ bg := bg_in 614 (by decide +kernel) (by decide +kernel)
theorem wd_615 : Cond.selects "GoodsKeeper" ({ cls := "GoodsKeeper", name := "take", desc := "(I)Z" } : MethodName) ({ cls := "GoodsKeeper", name := "take", desc := "(I)Z" } : MethodName) ∈ bg := bg_in 615 (by decide +kernel) (by decide +kernel)
theorem wd_616 : Cond.code ({ cls := "GoodsKeeper", name := "take", desc := "(I)Z" } : MethodName) prog_1_method_11_code (3 : Nat) (Option.some FieldType.boolean) ∈ bg := bg_in 616 (by decide +kernel) (by decide +kernel)
theorem wd_621 : Cond.instanceMethod ({ cls := "GoodsKeeper", name := "give", desc := "(II)Z" } : MethodName) ∈ bg := bg_in 621 (by decide +kernel) (by decide +kernel)
theorem wd_622 : Cond.selects "GoodsKeeper" ({ cls := "GoodsKeeper", name := "give", desc := "(II)Z" } : MethodName) ({ cls := "GoodsKeeper", name := "give", desc := "(II)Z" } : MethodName) ∈ bg := bg_in 622 (by decide +kernel) (by decide +kernel)
theorem wd_623 : Cond.code ({ cls := "GoodsKeeper", name := "give", desc := "(II)Z" } : MethodName) prog_1_method_12_code (5 : Nat) (Option.some FieldType.boolean) ∈ bg := bg_in 623 (by decide +kernel) (by decide +kernel)
theorem wd_624 : Cond.methodLink "GoodsKeeper" (150 : Nat) ({ cls := "GoodsKeeper$Things", name := "mayLeave", desc := "(LGoodsKeeper$Single;)Z" } : MethodName) ∈ bg := bg_in 624 (by decide +kernel) (by decide +kernel)
theorem wd_625 : Cond.instanceMethod ({ cls := "GoodsKeeper$Things", name := "mayLeave", desc := "(LGoodsKeeper$Single;)Z" } : MethodName) ∈ bg := bg_in 625 (by decide +kernel) (by decide +kernel)
theorem wd_626 : Cond.selects "GoodsKeeper$Things" ({ cls := "GoodsKeeper$Things", name := "mayLeave", desc := "(LGoodsKeeper$Single;)Z" } : MethodName) ({ cls := "GoodsKeeper$Things", name := "mayLeave", desc := "(LGoodsKeeper$Single;)Z" } : MethodName) ∈ bg := bg_in 626 (by decide +kernel) (by decide +kernel)
theorem wd_627 : Cond.code ({ cls := "GoodsKeeper$Things", name := "mayLeave", desc := "(LGoodsKeeper$Single;)Z" } : MethodName) prog_8_method_6_code (4 : Nat) (Option.some FieldType.boolean) ∈ bg := bg_in 627 (by decide +kernel) (by decide +kernel)
theorem wd_628 : Cond.methodLink "GoodsKeeper$Things" (68 : Nat) ({ cls := "GoodsKeeper$Things", name := "goesWith", desc := "(LGoodsKeeper$Single;LGoodsKeeper$Single;)Z" } : MethodName) ∈ bg := bg_in 628 (by decide +kernel) (by decide +kernel)
theorem wd_629 : Cond.static ({ cls := "GoodsKeeper$Things", name := "goesWith", desc := "(LGoodsKeeper$Single;LGoodsKeeper$Single;)Z" } : MethodName) ∈ bg := bg_in 629 (by decide +kernel) (by decide +kernel)
theorem wd_630 : Cond.code ({ cls := "GoodsKeeper$Things", name := "goesWith", desc := "(LGoodsKeeper$Single;LGoodsKeeper$Single;)Z" } : MethodName) prog_8_method_15_code (2 : Nat) (Option.some FieldType.boolean) ∈ bg := bg_in 630 (by decide +kernel) (by decide +kernel)
theorem wd_631 : Cond.methodLink "GoodsKeeper" (154 : Nat) ({ cls := "GoodsKeeper$Things", name := "passOn", desc := "(LGoodsKeeper$Single;LGoodsKeeper$Player;I)V" } : MethodName) ∈ bg := bg_in 631 (by decide +kernel) (by decide +kernel)
theorem wd_632 : Cond.instanceMethod ({ cls := "GoodsKeeper$Things", name := "passOn", desc := "(LGoodsKeeper$Single;LGoodsKeeper$Player;I)V" } : MethodName) ∈ bg := bg_in 632 (by decide +kernel) (by decide +kernel)
theorem wd_633 : Cond.selects "GoodsKeeper$Things" ({ cls := "GoodsKeeper$Things", name := "passOn", desc := "(LGoodsKeeper$Single;LGoodsKeeper$Player;I)V" } : MethodName) ({ cls := "GoodsKeeper$Things", name := "passOn", desc := "(LGoodsKeeper$Single;LGoodsKeeper$Player;I)V" } : MethodName) ∈ bg := bg_in 633 (by decide +kernel) (by decide +kernel)
theorem wd_634 : Cond.code ({ cls := "GoodsKeeper$Things", name := "passOn", desc := "(LGoodsKeeper$Single;LGoodsKeeper$Player;I)V" } : MethodName) prog_8_method_7_code (6 : Nat) (Option.none : Option FieldType) ∈ bg := bg_in 634 (by decide +kernel) (by decide +kernel)
theorem wd_635 : Cond.methodLink "GoodsKeeper$Things" (72 : Nat) ({ cls := "GoodsKeeper$Single", name := "passTo", desc := "(LGoodsKeeper$Player;I)V" } : MethodName) ∈ bg := bg_in 635 (by decide +kernel) (by decide +kernel)
theorem wd_640 : Cond.instanceMethod ({ cls := "GoodsKeeper", name := "lend", desc := "(III)Z" } : MethodName) ∈ bg := bg_in 640 (by decide +kernel) (by decide +kernel)
theorem wd_641 : Cond.selects "GoodsKeeper" ({ cls := "GoodsKeeper", name := "lend", desc := "(III)Z" } : MethodName) ({ cls := "GoodsKeeper", name := "lend", desc := "(III)Z" } : MethodName) ∈ bg := bg_in 641 (by decide +kernel) (by decide +kernel)
theorem wd_642 : Cond.code ({ cls := "GoodsKeeper", name := "lend", desc := "(III)Z" } : MethodName) prog_1_method_13_code (6 : Nat) (Option.some FieldType.boolean) ∈ bg := bg_in 642 (by decide +kernel) (by decide +kernel)
theorem wd_647 : Cond.instanceMethod ({ cls := "GoodsKeeper", name := "wear", desc := "(II)I" } : MethodName) ∈ bg := bg_in 647 (by decide +kernel) (by decide +kernel)
theorem wd_648 : Cond.selects "GoodsKeeper" ({ cls := "GoodsKeeper", name := "wear", desc := "(II)I" } : MethodName) ({ cls := "GoodsKeeper", name := "wear", desc := "(II)I" } : MethodName) ∈ bg := bg_in 648 (by decide +kernel) (by decide +kernel)
theorem wd_649 : Cond.code ({ cls := "GoodsKeeper", name := "wear", desc := "(II)I" } : MethodName) prog_1_method_14_code (4 : Nat) (Option.some FieldType.int) ∈ bg := bg_in 649 (by decide +kernel) (by decide +kernel)
theorem wd_650 : Cond.methodLink "GoodsKeeper" (164 : Nat) ({ cls := "GoodsKeeper$Single", name := "isBroken", desc := "()Z" } : MethodName) ∈ bg := bg_in 650 (by decide +kernel) (by decide +kernel)
theorem wd_651 : Cond.methodLink "GoodsKeeper" (171 : Nat) ({ cls := "java/lang/Math", name := "min", desc := "(II)I" } : MethodName) ∈ bg := bg_in 651 (by decide +kernel) (by decide +kernel)
theorem wd_652 : Cond.methodLink "GoodsKeeper" (177 : Nat) ({ cls := "GoodsKeeper$Things", name := "breakUp", desc := "(LGoodsKeeper$Single;)V" } : MethodName) ∈ bg := bg_in 652 (by decide +kernel) (by decide +kernel)
theorem wd_653 : Cond.instanceMethod ({ cls := "GoodsKeeper$Things", name := "breakUp", desc := "(LGoodsKeeper$Single;)V" } : MethodName) ∈ bg := bg_in 653 (by decide +kernel) (by decide +kernel)
theorem wd_654 : Cond.selects "GoodsKeeper$Things" ({ cls := "GoodsKeeper$Things", name := "breakUp", desc := "(LGoodsKeeper$Single;)V" } : MethodName) ({ cls := "GoodsKeeper$Things", name := "breakUp", desc := "(LGoodsKeeper$Single;)V" } : MethodName) ∈ bg := bg_in 654 (by decide +kernel) (by decide +kernel)
theorem wd_655 : Cond.code ({ cls := "GoodsKeeper$Things", name := "breakUp", desc := "(LGoodsKeeper$Single;)V" } : MethodName) prog_8_method_8_code (4 : Nat) (Option.none : Option FieldType) ∈ bg := bg_in 655 (by decide +kernel) (by decide +kernel)
theorem wd_656 : Cond.methodLink "GoodsKeeper$Things" (76 : Nat) ({ cls := "GoodsKeeper$Single", name := "endLoan", desc := "()V" } : MethodName) ∈ bg := bg_in 656 (by decide +kernel) (by decide +kernel)
theorem wd_657 : Cond.instanceMethod ({ cls := "GoodsKeeper$Single", name := "endLoan", desc := "()V" } : MethodName) ∈ bg := bg_in 657 (by decide +kernel) (by decide +kernel)
theorem wd_658 : Cond.selects "GoodsKeeper$Single" ({ cls := "GoodsKeeper$Single", name := "endLoan", desc := "()V" } : MethodName) ({ cls := "GoodsKeeper$Single", name := "endLoan", desc := "()V" } : MethodName) ∈ bg := bg_in 658 (by decide +kernel) (by decide +kernel)
theorem wd_659 : Cond.code ({ cls := "GoodsKeeper$Single", name := "endLoan", desc := "()V" } : MethodName) prog_7_method_5_code (1 : Nat) (Option.none : Option FieldType) ∈ bg := bg_in 659 (by decide +kernel) (by decide +kernel)
theorem wd_664 : Cond.instanceMethod ({ cls := "GoodsKeeper", name := "days", desc := "(I)I" } : MethodName) ∈ bg := bg_in 664 (by decide +kernel) (by decide +kernel)
theorem wd_665 : Cond.selects "GoodsKeeper" ({ cls := "GoodsKeeper", name := "days", desc := "(I)I" } : MethodName) ({ cls := "GoodsKeeper", name := "days", desc := "(I)I" } : MethodName) ∈ bg := bg_in 665 (by decide +kernel) (by decide +kernel)
theorem wd_666 : Cond.code ({ cls := "GoodsKeeper", name := "days", desc := "(I)I" } : MethodName) prog_1_method_15_code (2 : Nat) (Option.some FieldType.int) ∈ bg := bg_in 666 (by decide +kernel) (by decide +kernel)
theorem wd_667 : Cond.methodLink "GoodsKeeper" (180 : Nat) ({ cls := "GoodsKeeper$Things", name := "bringBack", desc := "(I)V" } : MethodName) ∈ bg := bg_in 667 (by decide +kernel) (by decide +kernel)
theorem wd_668 : Cond.instanceMethod ({ cls := "GoodsKeeper$Things", name := "bringBack", desc := "(I)V" } : MethodName) ∈ bg := bg_in 668 (by decide +kernel) (by decide +kernel)
theorem wd_669 : Cond.selects "GoodsKeeper$Things" ({ cls := "GoodsKeeper$Things", name := "bringBack", desc := "(I)V" } : MethodName) ({ cls := "GoodsKeeper$Things", name := "bringBack", desc := "(I)V" } : MethodName) ∈ bg := bg_in 669 (by decide +kernel) (by decide +kernel)
theorem wd_670 : Cond.code ({ cls := "GoodsKeeper$Things", name := "bringBack", desc := "(I)V" } : MethodName) prog_8_method_9_code (6 : Nat) (Option.none : Option FieldType) ∈ bg := bg_in 670 (by decide +kernel) (by decide +kernel)
theorem wd_671 : Cond.methodLink "GoodsKeeper$Things" (79 : Nat) ({ cls := "GoodsKeeper$Things", name := "nextDue", desc := "(I)LGoodsKeeper$Single;" } : MethodName) ∈ bg := bg_in 671 (by decide +kernel) (by decide +kernel)
theorem wd_673 : Cond.instanceMethod ({ cls := "GoodsKeeper$Things", name := "nextDue", desc := "(I)LGoodsKeeper$Single;" } : MethodName) ∈ bg := bg_in 673 (by decide +kernel) (by decide +kernel)
theorem wd_674 : Cond.code ({ cls := "GoodsKeeper$Things", name := "nextDue", desc := "(I)LGoodsKeeper$Single;" } : MethodName) prog_8_method_10_code (5 : Nat) (Option.some (FieldType.object "GoodsKeeper$Single")) ∈ bg := bg_in 674 (by decide +kernel) (by decide +kernel)
theorem wd_675 : Cond.methodLink "GoodsKeeper$Things" (89 : Nat) ({ cls := "GoodsKeeper$Things", name := "passOn", desc := "(LGoodsKeeper$Single;LGoodsKeeper$Player;I)V" } : MethodName) ∈ bg := bg_in 675 (by decide +kernel) (by decide +kernel)
theorem wd_681 : Cond.instanceMethod ({ cls := "GoodsKeeper", name := "look", desc := "(II)I" } : MethodName) ∈ bg := bg_in 681 (by decide +kernel) (by decide +kernel)
theorem wd_682 : Cond.selects "GoodsKeeper" ({ cls := "GoodsKeeper", name := "look", desc := "(II)I" } : MethodName) ({ cls := "GoodsKeeper", name := "look", desc := "(II)I" } : MethodName) ∈ bg := bg_in 682 (by decide +kernel) (by decide +kernel)
theorem wd_683 : Cond.code ({ cls := "GoodsKeeper", name := "look", desc := "(II)I" } : MethodName) prog_1_method_16_code (4 : Nat) (Option.some FieldType.int) ∈ bg := bg_in 683 (by decide +kernel) (by decide +kernel)
theorem wd_684 : Cond.methodLink "GoodsKeeper" (183 : Nat) ({ cls := "GoodsKeeper", name := "numberOf", desc := "(LGoodsKeeper$Player;)I" } : MethodName) ∈ bg := bg_in 684 (by decide +kernel) (by decide +kernel)
theorem wd_685 : Cond.static ({ cls := "GoodsKeeper", name := "numberOf", desc := "(LGoodsKeeper$Player;)I" } : MethodName) ∈ bg := bg_in 685 (by decide +kernel) (by decide +kernel)
theorem wd_686 : Cond.code ({ cls := "GoodsKeeper", name := "numberOf", desc := "(LGoodsKeeper$Player;)I" } : MethodName) prog_1_method_39_code (1 : Nat) (Option.some FieldType.int) ∈ bg := bg_in 686 (by decide +kernel) (by decide +kernel)
theorem wd_687 : Cond.methodLink "GoodsKeeper" (190 : Nat) ({ cls := "GoodsKeeper$Things", name := "rightWithin", desc := "(LGoodsKeeper$Single;)I" } : MethodName) ∈ bg := bg_in 687 (by decide +kernel) (by decide +kernel)
theorem wd_688 : Cond.methodLink "GoodsKeeper" (194 : Nat) ({ cls := "GoodsKeeper$Things", name := "allWithin", desc := "(LGoodsKeeper$Single;)I" } : MethodName) ∈ bg := bg_in 688 (by decide +kernel) (by decide +kernel)
theorem wd_689 : Cond.instanceMethod ({ cls := "GoodsKeeper$Things", name := "allWithin", desc := "(LGoodsKeeper$Single;)I" } : MethodName) ∈ bg := bg_in 689 (by decide +kernel) (by decide +kernel)
theorem wd_690 : Cond.selects "GoodsKeeper$Things" ({ cls := "GoodsKeeper$Things", name := "allWithin", desc := "(LGoodsKeeper$Single;)I" } : MethodName) ({ cls := "GoodsKeeper$Things", name := "allWithin", desc := "(LGoodsKeeper$Single;)I" } : MethodName) ∈ bg := bg_in 690 (by decide +kernel) (by decide +kernel)
theorem wd_691 : Cond.code ({ cls := "GoodsKeeper$Things", name := "allWithin", desc := "(LGoodsKeeper$Single;)I" } : MethodName) prog_8_method_12_code (4 : Nat) (Option.some FieldType.int) ∈ bg := bg_in 691 (by decide +kernel) (by decide +kernel)
theorem wd_692 : Cond.methodLink "GoodsKeeper" (197 : Nat) ({ cls := "GoodsKeeper$Single", name := "isLent", desc := "()Z" } : MethodName) ∈ bg := bg_in 692 (by decide +kernel) (by decide +kernel)
theorem wd_693 : Cond.classLink "GoodsKeeper" (203 : Nat) "java/util/NoSuchElementException" ∈ bg := bg_in 693 (by decide +kernel) (by decide +kernel)
theorem wd_713 : Cond.instanceMethod ({ cls := "GoodsKeeper", name := "line", desc := "(IIZ)I" } : MethodName) ∈ bg := bg_in 713 (by decide +kernel) (by decide +kernel)
theorem wd_714 : Cond.selects "GoodsKeeper" ({ cls := "GoodsKeeper", name := "line", desc := "(IIZ)I" } : MethodName) ({ cls := "GoodsKeeper", name := "line", desc := "(IIZ)I" } : MethodName) ∈ bg := bg_in 714 (by decide +kernel) (by decide +kernel)
theorem wd_715 : Cond.code ({ cls := "GoodsKeeper", name := "line", desc := "(IIZ)I" } : MethodName) prog_1_method_17_code (5 : Nat) (Option.some FieldType.int) ∈ bg := bg_in 715 (by decide +kernel) (by decide +kernel)
theorem wd_725 : Cond.instanceMethod ({ cls := "GoodsKeeper", name := "sideOf", desc := "(IIII)LGoodsKeeper$Side;" } : MethodName) ∈ bg := bg_in 725 (by decide +kernel) (by decide +kernel)
theorem wd_726 : Cond.code ({ cls := "GoodsKeeper", name := "sideOf", desc := "(IIII)LGoodsKeeper$Side;" } : MethodName) prog_1_method_21_code (7 : Nat) (Option.some (FieldType.object "GoodsKeeper$Side")) ∈ bg := bg_in 726 (by decide +kernel) (by decide +kernel)
theorem wd_727 : Cond.classLink "GoodsKeeper" (252 : Nat) "GoodsKeeper$Side" ∈ bg := bg_in 727 (by decide +kernel) (by decide +kernel)
theorem wd_728 : Cond.instantiable "GoodsKeeper$Side" (5 : Nat) ∈ bg := bg_in 728 (by decide +kernel) (by decide +kernel)
theorem wd_729 : Cond.methodLink "GoodsKeeper" (254 : Nat) ({ cls := "GoodsKeeper$Side", name := "<init>", desc := "(LGoodsKeeper$Player;IILGoodsKeeper$Single;)V" } : MethodName) ∈ bg := bg_in 729 (by decide +kernel) (by decide +kernel)
theorem wd_730 : Cond.instanceMethod ({ cls := "GoodsKeeper$Side", name := "<init>", desc := "(LGoodsKeeper$Player;IILGoodsKeeper$Single;)V" } : MethodName) ∈ bg := bg_in 730 (by decide +kernel) (by decide +kernel)
theorem wd_731 : Cond.code ({ cls := "GoodsKeeper$Side", name := "<init>", desc := "(LGoodsKeeper$Player;IILGoodsKeeper$Single;)V" } : MethodName) prog_6_method_1_code (5 : Nat) (Option.none : Option FieldType) ∈ bg := bg_in 731 (by decide +kernel) (by decide +kernel)
theorem wd_732 : Cond.methodLink "GoodsKeeper$Side" (3 : Nat) ({ cls := "java/lang/Object", name := "<init>", desc := "()V" } : MethodName) ∈ bg := bg_in 732 (by decide +kernel) (by decide +kernel)
theorem wd_733 : Cond.fieldLink "GoodsKeeper$Side" (9 : Nat) "GoodsKeeper$Side" "giver" "LGoodsKeeper$Player;" ∈ bg := bg_in 733 (by decide +kernel) (by decide +kernel)
theorem wd_734 : Cond.fieldLink "GoodsKeeper" (273 : Nat) "GoodsKeeper$Side" "giver" "LGoodsKeeper$Player;" ∈ bg := bg_in 734 (by decide +kernel) (by decide +kernel)
theorem wd_735 : Cond.fieldLink "GoodsKeeper$Side" (15 : Nat) "GoodsKeeper$Side" "many" "I" ∈ bg := bg_in 735 (by decide +kernel) (by decide +kernel)
theorem wd_736 : Cond.fieldLink "GoodsKeeper" (279 : Nat) "GoodsKeeper$Side" "many" "I" ∈ bg := bg_in 736 (by decide +kernel) (by decide +kernel)
theorem wd_737 : Cond.fieldLink "GoodsKeeper$Side" (19 : Nat) "GoodsKeeper$Side" "kind" "I" ∈ bg := bg_in 737 (by decide +kernel) (by decide +kernel)
theorem wd_738 : Cond.fieldLink "GoodsKeeper" (276 : Nat) "GoodsKeeper$Side" "kind" "I" ∈ bg := bg_in 738 (by decide +kernel) (by decide +kernel)
theorem wd_739 : Cond.fieldLink "GoodsKeeper$Side" (22 : Nat) "GoodsKeeper$Side" "thing" "LGoodsKeeper$Single;" ∈ bg := bg_in 739 (by decide +kernel) (by decide +kernel)
theorem wd_740 : Cond.fieldLink "GoodsKeeper" (270 : Nat) "GoodsKeeper$Side" "thing" "LGoodsKeeper$Single;" ∈ bg := bg_in 740 (by decide +kernel) (by decide +kernel)
theorem wd_741 : Cond.fieldLink "GoodsKeeper$Side" (31 : Nat) "GoodsKeeper$Side" "notedWear" "I" ∈ bg := bg_in 741 (by decide +kernel) (by decide +kernel)
theorem wd_758 : Cond.instanceMethod ({ cls := "GoodsKeeper$Offer", name := "<init>", desc := "(LGoodsKeeper$Side;LGoodsKeeper$Side;)V" } : MethodName) ∈ bg := bg_in 758 (by decide +kernel) (by decide +kernel)
theorem wd_759 : Cond.code ({ cls := "GoodsKeeper$Offer", name := "<init>", desc := "(LGoodsKeeper$Side;LGoodsKeeper$Side;)V" } : MethodName) prog_3_method_1_code (3 : Nat) (Option.none : Option FieldType) ∈ bg := bg_in 759 (by decide +kernel) (by decide +kernel)
theorem wd_760 : Cond.methodLink "GoodsKeeper$Offer" (1 : Nat) ({ cls := "java/lang/Object", name := "<init>", desc := "()V" } : MethodName) ∈ bg := bg_in 760 (by decide +kernel) (by decide +kernel)
theorem wd_761 : Cond.fieldLink "GoodsKeeper$Offer" (13 : Nat) "GoodsKeeper$Offer" "first" "LGoodsKeeper$Side;" ∈ bg := bg_in 761 (by decide +kernel) (by decide +kernel)
theorem wd_762 : Cond.fieldLink "GoodsKeeper" (238 : Nat) "GoodsKeeper$Offer" "first" "LGoodsKeeper$Side;" ∈ bg := bg_in 762 (by decide +kernel) (by decide +kernel)
theorem wd_763 : Cond.fieldLink "GoodsKeeper$Offer" (17 : Nat) "GoodsKeeper$Offer" "second" "LGoodsKeeper$Side;" ∈ bg := bg_in 763 (by decide +kernel) (by decide +kernel)
theorem wd_764 : Cond.fieldLink "GoodsKeeper" (242 : Nat) "GoodsKeeper$Offer" "second" "LGoodsKeeper$Side;" ∈ bg := bg_in 764 (by decide +kernel) (by decide +kernel)
theorem wd_765 : Cond.fieldLink "GoodsKeeper$Offer" (7 : Nat) "GoodsKeeper$Offer" "open" "Z" ∈ bg := bg_in 765 (by decide +kernel) (by decide +kernel)
theorem wd_766 : Cond.fieldLink "GoodsKeeper" (248 : Nat) "GoodsKeeper$Offer" "open" "Z" ∈ bg := bg_in 766 (by decide +kernel) (by decide +kernel)
theorem wd_778 : Cond.instanceMethod ({ cls := "GoodsKeeper", name := "agree", desc := "(I)I" } : MethodName) ∈ bg := bg_in 778 (by decide +kernel) (by decide +kernel)
theorem wd_779 : Cond.selects "GoodsKeeper" ({ cls := "GoodsKeeper", name := "agree", desc := "(I)I" } : MethodName) ({ cls := "GoodsKeeper", name := "agree", desc := "(I)I" } : MethodName) ∈ bg := bg_in 779 (by decide +kernel) (by decide +kernel)
theorem wd_780 : Cond.code ({ cls := "GoodsKeeper", name := "agree", desc := "(I)I" } : MethodName) prog_1_method_19_code (4 : Nat) (Option.some FieldType.int) ∈ bg := bg_in 780 (by decide +kernel) (by decide +kernel)
theorem wd_781 : Cond.methodLink "GoodsKeeper" (231 : Nat) ({ cls := "GoodsKeeper", name := "offerAt", desc := "(I)LGoodsKeeper$Offer;" } : MethodName) ∈ bg := bg_in 781 (by decide +kernel) (by decide +kernel)
theorem wd_783 : Cond.instanceMethod ({ cls := "GoodsKeeper", name := "offerAt", desc := "(I)LGoodsKeeper$Offer;" } : MethodName) ∈ bg := bg_in 783 (by decide +kernel) (by decide +kernel)
theorem wd_784 : Cond.code ({ cls := "GoodsKeeper", name := "offerAt", desc := "(I)LGoodsKeeper$Offer;" } : MethodName) prog_1_method_36_code (2 : Nat) (Option.some (FieldType.object "GoodsKeeper$Offer")) ∈ bg := bg_in 784 (by decide +kernel) (by decide +kernel)
theorem wd_786 : Cond.methodLink "GoodsKeeper" (235 : Nat) ({ cls := "GoodsKeeper", name := "answerTo", desc := "(LGoodsKeeper$Offer;)I" } : MethodName) ∈ bg := bg_in 786 (by decide +kernel) (by decide +kernel)
theorem wd_788 : Cond.instanceMethod ({ cls := "GoodsKeeper", name := "answerTo", desc := "(LGoodsKeeper$Offer;)I" } : MethodName) ∈ bg := bg_in 788 (by decide +kernel) (by decide +kernel)
theorem wd_789 : Cond.code ({ cls := "GoodsKeeper", name := "answerTo", desc := "(LGoodsKeeper$Offer;)I" } : MethodName) prog_1_method_22_code (4 : Nat) (Option.some FieldType.int) ∈ bg := bg_in 789 (by decide +kernel) (by decide +kernel)
theorem wd_790 : Cond.methodLink "GoodsKeeper" (257 : Nat) ({ cls := "GoodsKeeper$Side", name := "hasTooFew", desc := "()Z" } : MethodName) ∈ bg := bg_in 790 (by decide +kernel) (by decide +kernel)
theorem wd_791 : Cond.instanceMethod ({ cls := "GoodsKeeper$Side", name := "hasTooFew", desc := "()Z" } : MethodName) ∈ bg := bg_in 791 (by decide +kernel) (by decide +kernel)
theorem wd_792 : Cond.selects "GoodsKeeper$Side" ({ cls := "GoodsKeeper$Side", name := "hasTooFew", desc := "()Z" } : MethodName) ({ cls := "GoodsKeeper$Side", name := "hasTooFew", desc := "()Z" } : MethodName) ∈ bg := bg_in 792 (by decide +kernel) (by decide +kernel)
theorem wd_793 : Cond.code ({ cls := "GoodsKeeper$Side", name := "hasTooFew", desc := "()Z" } : MethodName) prog_6_method_2_code (1 : Nat) (Option.some FieldType.boolean) ∈ bg := bg_in 793 (by decide +kernel) (by decide +kernel)
theorem wd_794 : Cond.methodLink "GoodsKeeper" (260 : Nat) ({ cls := "GoodsKeeper$Side", name := "wouldHaveTooMany", desc := "(LGoodsKeeper$Side;)Z" } : MethodName) ∈ bg := bg_in 794 (by decide +kernel) (by decide +kernel)
theorem wd_795 : Cond.instanceMethod ({ cls := "GoodsKeeper$Side", name := "wouldHaveTooMany", desc := "(LGoodsKeeper$Side;)Z" } : MethodName) ∈ bg := bg_in 795 (by decide +kernel) (by decide +kernel)
theorem wd_796 : Cond.selects "GoodsKeeper$Side" ({ cls := "GoodsKeeper$Side", name := "wouldHaveTooMany", desc := "(LGoodsKeeper$Side;)Z" } : MethodName) ({ cls := "GoodsKeeper$Side", name := "wouldHaveTooMany", desc := "(LGoodsKeeper$Side;)Z" } : MethodName) ∈ bg := bg_in 796 (by decide +kernel) (by decide +kernel)
theorem wd_797 : Cond.code ({ cls := "GoodsKeeper$Side", name := "wouldHaveTooMany", desc := "(LGoodsKeeper$Side;)Z" } : MethodName) prog_6_method_3_code (3 : Nat) (Option.some FieldType.boolean) ∈ bg := bg_in 797 (by decide +kernel) (by decide +kernel)
theorem wd_798 : Cond.constant "GoodsKeeper$Side" (40 : Nat) (1000000000 : Int32) ∈ bg := bg_in 798 (by decide +kernel) (by decide +kernel)
theorem wd_799 : Cond.methodLink "GoodsKeeper" (264 : Nat) ({ cls := "GoodsKeeper", name := "mayHandOver", desc := "(LGoodsKeeper$Side;)Z" } : MethodName) ∈ bg := bg_in 799 (by decide +kernel) (by decide +kernel)
theorem wd_801 : Cond.instanceMethod ({ cls := "GoodsKeeper", name := "mayHandOver", desc := "(LGoodsKeeper$Side;)Z" } : MethodName) ∈ bg := bg_in 801 (by decide +kernel) (by decide +kernel)
theorem wd_802 : Cond.code ({ cls := "GoodsKeeper", name := "mayHandOver", desc := "(LGoodsKeeper$Side;)Z" } : MethodName) prog_1_method_23_code (2 : Nat) (Option.some FieldType.boolean) ∈ bg := bg_in 802 (by decide +kernel) (by decide +kernel)
theorem wd_803 : Cond.methodLink "GoodsKeeper" (267 : Nat) ({ cls := "GoodsKeeper$Side", name := "isWornSince", desc := "()Z" } : MethodName) ∈ bg := bg_in 803 (by decide +kernel) (by decide +kernel)
theorem wd_804 : Cond.instanceMethod ({ cls := "GoodsKeeper$Side", name := "isWornSince", desc := "()Z" } : MethodName) ∈ bg := bg_in 804 (by decide +kernel) (by decide +kernel)
theorem wd_805 : Cond.selects "GoodsKeeper$Side" ({ cls := "GoodsKeeper$Side", name := "isWornSince", desc := "()Z" } : MethodName) ({ cls := "GoodsKeeper$Side", name := "isWornSince", desc := "()Z" } : MethodName) ∈ bg := bg_in 805 (by decide +kernel) (by decide +kernel)
theorem wd_806 : Cond.code ({ cls := "GoodsKeeper$Side", name := "isWornSince", desc := "()Z" } : MethodName) prog_6_method_4_code (1 : Nat) (Option.some FieldType.boolean) ∈ bg := bg_in 806 (by decide +kernel) (by decide +kernel)
theorem wd_807 : Cond.methodLink "GoodsKeeper" (245 : Nat) ({ cls := "GoodsKeeper", name := "trade", desc := "(LGoodsKeeper$Side;LGoodsKeeper$Side;)V" } : MethodName) ∈ bg := bg_in 807 (by decide +kernel) (by decide +kernel)
theorem wd_809 : Cond.instanceMethod ({ cls := "GoodsKeeper", name := "trade", desc := "(LGoodsKeeper$Side;LGoodsKeeper$Side;)V" } : MethodName) ∈ bg := bg_in 809 (by decide +kernel) (by decide +kernel)
theorem wd_810 : Cond.code ({ cls := "GoodsKeeper", name := "trade", desc := "(LGoodsKeeper$Side;LGoodsKeeper$Side;)V" } : MethodName) prog_1_method_24_code (3 : Nat) (Option.none : Option FieldType) ∈ bg := bg_in 810 (by decide +kernel) (by decide +kernel)
theorem wd_815 : Cond.instanceMethod ({ cls := "GoodsKeeper", name := "withdraw", desc := "(I)Z" } : MethodName) ∈ bg := bg_in 815 (by decide +kernel) (by decide +kernel)
theorem wd_816 : Cond.selects "GoodsKeeper" ({ cls := "GoodsKeeper", name := "withdraw", desc := "(I)Z" } : MethodName) ({ cls := "GoodsKeeper", name := "withdraw", desc := "(I)Z" } : MethodName) ∈ bg := bg_in 816 (by decide +kernel) (by decide +kernel)
theorem wd_817 : Cond.code ({ cls := "GoodsKeeper", name := "withdraw", desc := "(I)Z" } : MethodName) prog_1_method_20_code (4 : Nat) (Option.some FieldType.boolean) ∈ bg := bg_in 817 (by decide +kernel) (by decide +kernel)
theorem wd_822 : Cond.instanceMethod ({ cls := "GoodsKeeper", name := "times", desc := "(II)V" } : MethodName) ∈ bg := bg_in 822 (by decide +kernel) (by decide +kernel)
theorem wd_823 : Cond.selects "GoodsKeeper" ({ cls := "GoodsKeeper", name := "times", desc := "(II)V" } : MethodName) ({ cls := "GoodsKeeper", name := "times", desc := "(II)V" } : MethodName) ∈ bg := bg_in 823 (by decide +kernel) (by decide +kernel)
theorem wd_824 : Cond.code ({ cls := "GoodsKeeper", name := "times", desc := "(II)V" } : MethodName) prog_1_method_26_code (4 : Nat) (Option.none : Option FieldType) ∈ bg := bg_in 824 (by decide +kernel) (by decide +kernel)
theorem wd_829 : Cond.instanceMethod ({ cls := "GoodsKeeper", name := "weigh", desc := "(II)V" } : MethodName) ∈ bg := bg_in 829 (by decide +kernel) (by decide +kernel)
theorem wd_830 : Cond.selects "GoodsKeeper" ({ cls := "GoodsKeeper", name := "weigh", desc := "(II)V" } : MethodName) ({ cls := "GoodsKeeper", name := "weigh", desc := "(II)V" } : MethodName) ∈ bg := bg_in 830 (by decide +kernel) (by decide +kernel)
theorem wd_831 : Cond.code ({ cls := "GoodsKeeper", name := "weigh", desc := "(II)V" } : MethodName) prog_1_method_28_code (3 : Nat) (Option.none : Option FieldType) ∈ bg := bg_in 831 (by decide +kernel) (by decide +kernel)
theorem wd_835 : Cond.instanceMethod ({ cls := "GoodsKeeperModel", name := "<init>", desc := "()V" } : MethodName) ∈ bg := bg_in 835 (by decide +kernel) (by decide +kernel)
theorem wd_836 : Cond.code ({ cls := "GoodsKeeperModel", name := "<init>", desc := "()V" } : MethodName) prog_10_method_1_code (1 : Nat) (Option.none : Option FieldType) ∈ bg := bg_in 836 (by decide +kernel) (by decide +kernel)
theorem wd_837 : Cond.methodLink "GoodsKeeperModel" (1 : Nat) ({ cls := "java/lang/Object", name := "<init>", desc := "()V" } : MethodName) ∈ bg := bg_in 837 (by decide +kernel) (by decide +kernel)
theorem wd_838 : Cond.fieldLink "GoodsKeeperModel" (87 : Nat) "GoodsKeeperModel" "thrown" "I" ∈ bg := bg_in 838 (by decide +kernel) (by decide +kernel)
theorem wd_839 : Cond.fieldLink "GoodsKeeperModel" (133 : Nat) "GoodsKeeperModel" "today" "I" ∈ bg := bg_in 839 (by decide +kernel) (by decide +kernel)
theorem wd_840 : Cond.fieldLink "GoodsKeeperModel" (9 : Nat) "GoodsKeeperModel" "goods" "[I" ∈ bg := bg_in 840 (by decide +kernel) (by decide +kernel)
theorem wd_841 : Cond.fieldLink "GoodsKeeperModel" (13 : Nat) "GoodsKeeperModel" "latest" "[I" ∈ bg := bg_in 841 (by decide +kernel) (by decide +kernel)
theorem wd_842 : Cond.fieldLink "GoodsKeeperModel" (16 : Nat) "GoodsKeeperModel" "answer" "[I" ∈ bg := bg_in 842 (by decide +kernel) (by decide +kernel)
theorem wd_843 : Cond.fieldLink "GoodsKeeperModel" (91 : Nat) "GoodsKeeperModel" "players" "I" ∈ bg := bg_in 843 (by decide +kernel) (by decide +kernel)
theorem wd_844 : Cond.fieldLink "GoodsKeeperModel" (121 : Nat) "GoodsKeeperModel" "done" "I" ∈ bg := bg_in 844 (by decide +kernel) (by decide +kernel)
theorem wd_845 : Cond.fieldLink "GoodsKeeperModel" (19 : Nat) "GoodsKeeperModel" "takes" "[I" ∈ bg := bg_in 845 (by decide +kernel) (by decide +kernel)
theorem wd_846 : Cond.fieldLink "GoodsKeeperModel" (22 : Nat) "GoodsKeeperModel" "gives" "[I" ∈ bg := bg_in 846 (by decide +kernel) (by decide +kernel)
theorem wd_847 : Cond.fieldLink "GoodsKeeperModel" (25 : Nat) "GoodsKeeperModel" "isSource" "[Z" ∈ bg := bg_in 847 (by decide +kernel) (by decide +kernel)
theorem wd_848 : Cond.fieldLink "GoodsKeeperModel" (29 : Nat) "GoodsKeeperModel" "times" "[I" ∈ bg := bg_in 848 (by decide +kernel) (by decide +kernel)
theorem wd_849 : Cond.fieldLink "GoodsKeeperModel" (32 : Nat) "GoodsKeeperModel" "weight" "[I" ∈ bg := bg_in 849 (by decide +kernel) (by decide +kernel)
theorem wd_850 : Cond.fieldLink "GoodsKeeperModel" (98 : Nat) "GoodsKeeperModel" "rules" "I" ∈ bg := bg_in 850 (by decide +kernel) (by decide +kernel)
theorem wd_851 : Cond.fieldLink "GoodsKeeperModel" (35 : Nat) "GoodsKeeperModel" "made" "[J" ∈ bg := bg_in 851 (by decide +kernel) (by decide +kernel)
theorem wd_852 : Cond.fieldLink "GoodsKeeperModel" (39 : Nat) "GoodsKeeperModel" "broke" "[J" ∈ bg := bg_in 852 (by decide +kernel) (by decide +kernel)
theorem wd_853 : Cond.fieldLink "GoodsKeeperModel" (42 : Nat) "GoodsKeeperModel" "wear" "[I" ∈ bg := bg_in 853 (by decide +kernel) (by decide +kernel)
theorem wd_854 : Cond.fieldLink "GoodsKeeperModel" (45 : Nat) "GoodsKeeperModel" "isBound" "[Z" ∈ bg := bg_in 854 (by decide +kernel) (by decide +kernel)
theorem wd_855 : Cond.fieldLink "GoodsKeeperModel" (48 : Nat) "GoodsKeeperModel" "room" "[I" ∈ bg := bg_in 855 (by decide +kernel) (by decide +kernel)
theorem wd_856 : Cond.fieldLink "GoodsKeeperModel" (51 : Nat) "GoodsKeeperModel" "holder" "[I" ∈ bg := bg_in 856 (by decide +kernel) (by decide +kernel)
theorem wd_857 : Cond.fieldLink "GoodsKeeperModel" (54 : Nat) "GoodsKeeperModel" "owner" "[I" ∈ bg := bg_in 857 (by decide +kernel) (by decide +kernel)
theorem wd_858 : Cond.fieldLink "GoodsKeeperModel" (57 : Nat) "GoodsKeeperModel" "until" "[I" ∈ bg := bg_in 858 (by decide +kernel) (by decide +kernel)
theorem wd_859 : Cond.fieldLink "GoodsKeeperModel" (60 : Nat) "GoodsKeeperModel" "lender" "[I" ∈ bg := bg_in 859 (by decide +kernel) (by decide +kernel)
theorem wd_860 : Cond.fieldLink "GoodsKeeperModel" (63 : Nat) "GoodsKeeperModel" "lineWho" "[I" ∈ bg := bg_in 860 (by decide +kernel) (by decide +kernel)
theorem wd_861 : Cond.fieldLink "GoodsKeeperModel" (66 : Nat) "GoodsKeeperModel" "lineDay" "[I" ∈ bg := bg_in 861 (by decide +kernel) (by decide +kernel)
theorem wd_862 : Cond.fieldLink "GoodsKeeperModel" (69 : Nat) "GoodsKeeperModel" "lineMany" "[I" ∈ bg := bg_in 862 (by decide +kernel) (by decide +kernel)
theorem wd_863 : Cond.fieldLink "GoodsKeeperModel" (101 : Nat) "GoodsKeeperModel" "singles" "I" ∈ bg := bg_in 863 (by decide +kernel) (by decide +kernel)
theorem wd_864 : Cond.fieldLink "GoodsKeeperModel" (72 : Nat) "GoodsKeeperModel" "offer" "[I" ∈ bg := bg_in 864 (by decide +kernel) (by decide +kernel)
theorem wd_865 : Cond.fieldLink "GoodsKeeperModel" (75 : Nat) "GoodsKeeperModel" "isOpen" "[Z" ∈ bg := bg_in 865 (by decide +kernel) (by decide +kernel)
theorem wd_866 : Cond.fieldLink "GoodsKeeperModel" (175 : Nat) "GoodsKeeperModel" "offers" "I" ∈ bg := bg_in 866 (by decide +kernel) (by decide +kernel)
theorem wd_867 : Cond.fieldLink "GoodsKeeperModel" (78 : Nat) "GoodsKeeperModel" "some" "[I" ∈ bg := bg_in 867 (by decide +kernel) (by decide +kernel)
theorem wd_868 : Cond.fieldLink "GoodsKeeperModel" (186 : Nat) "GoodsKeeperModel" "someMany" "I" ∈ bg := bg_in 868 (by decide +kernel) (by decide +kernel)
theorem wd_869 : Cond.fieldLink "GoodsKeeperModel" (81 : Nat) "GoodsKeeperModel" "bound" "[I" ∈ bg := bg_in 869 (by decide +kernel) (by decide +kernel)
theorem wd_870 : Cond.fieldLink "GoodsKeeperModel" (84 : Nat) "GoodsKeeperModel" "ray" "[J" ∈ bg := bg_in 870 (by decide +kernel) (by decide +kernel)
theorem wd_938 : Cond.arrayClass FieldType.boolean ∈ bg := bg_in 938 (by decide +kernel) (by decide +kernel)
theorem wd_940 : Cond.instanceMethod ({ cls := "GoodsKeeperModel", name := "thrown", desc := "()I" } : MethodName) ∈ bg := bg_in 940 (by decide +kernel) (by decide +kernel)
theorem wd_941 : Cond.selects "GoodsKeeperModel" ({ cls := "GoodsKeeperModel", name := "thrown", desc := "()I" } : MethodName) ({ cls := "GoodsKeeperModel", name := "thrown", desc := "()I" } : MethodName) ∈ bg := bg_in 941 (by decide +kernel) (by decide +kernel)
theorem wd_942 : Cond.code ({ cls := "GoodsKeeperModel", name := "thrown", desc := "()I" } : MethodName) prog_10_method_2_code (1 : Nat) (Option.some FieldType.int) ∈ bg := bg_in 942 (by decide +kernel) (by decide +kernel)
theorem wd_944 : Cond.instanceMethod ({ cls := "GoodsKeeperModel", name := "player", desc := "()I" } : MethodName) ∈ bg := bg_in 944 (by decide +kernel) (by decide +kernel)
theorem wd_945 : Cond.selects "GoodsKeeperModel" ({ cls := "GoodsKeeperModel", name := "player", desc := "()I" } : MethodName) ({ cls := "GoodsKeeperModel", name := "player", desc := "()I" } : MethodName) ∈ bg := bg_in 945 (by decide +kernel) (by decide +kernel)
theorem wd_946 : Cond.code ({ cls := "GoodsKeeperModel", name := "player", desc := "()I" } : MethodName) prog_10_method_9_code (1 : Nat) (Option.some FieldType.int) ∈ bg := bg_in 946 (by decide +kernel) (by decide +kernel)
theorem wd_947 : Cond.methodLink "GoodsKeeperModel" (106 : Nat) ({ cls := "GoodsKeeperModel", name := "throwsIf", desc := "(ZI)Z" } : MethodName) ∈ bg := bg_in 947 (by decide +kernel) (by decide +kernel)
theorem wd_949 : Cond.instanceMethod ({ cls := "GoodsKeeperModel", name := "throwsIf", desc := "(ZI)Z" } : MethodName) ∈ bg := bg_in 949 (by decide +kernel) (by decide +kernel)
theorem wd_950 : Cond.code ({ cls := "GoodsKeeperModel", name := "throwsIf", desc := "(ZI)Z" } : MethodName) prog_10_method_3_code (3 : Nat) (Option.some FieldType.boolean) ∈ bg := bg_in 950 (by decide +kernel) (by decide +kernel)
theorem wd_952 : Cond.instanceMethod ({ cls := "GoodsKeeperModel", name := "rule", desc := "(Z)I" } : MethodName) ∈ bg := bg_in 952 (by decide +kernel) (by decide +kernel)
theorem wd_953 : Cond.selects "GoodsKeeperModel" ({ cls := "GoodsKeeperModel", name := "rule", desc := "(Z)I" } : MethodName) ({ cls := "GoodsKeeperModel", name := "rule", desc := "(Z)I" } : MethodName) ∈ bg := bg_in 953 (by decide +kernel) (by decide +kernel)
theorem wd_954 : Cond.code ({ cls := "GoodsKeeperModel", name := "rule", desc := "(Z)I" } : MethodName) prog_10_method_10_code (2 : Nat) (Option.some FieldType.int) ∈ bg := bg_in 954 (by decide +kernel) (by decide +kernel)
theorem wd_956 : Cond.instanceMethod ({ cls := "GoodsKeeperModel", name := "part", desc := "(IIZI)V" } : MethodName) ∈ bg := bg_in 956 (by decide +kernel) (by decide +kernel)
theorem wd_957 : Cond.selects "GoodsKeeperModel" ({ cls := "GoodsKeeperModel", name := "part", desc := "(IIZI)V" } : MethodName) ({ cls := "GoodsKeeperModel", name := "part", desc := "(IIZI)V" } : MethodName) ∈ bg := bg_in 957 (by decide +kernel) (by decide +kernel)
theorem wd_958 : Cond.code ({ cls := "GoodsKeeperModel", name := "part", desc := "(IIZI)V" } : MethodName) prog_10_method_11_code (5 : Nat) (Option.none : Option FieldType) ∈ bg := bg_in 958 (by decide +kernel) (by decide +kernel)
theorem wd_959 : Cond.methodLink "GoodsKeeperModel" (110 : Nat) ({ cls := "GoodsKeeperModel", name := "noRule", desc := "(I)Z" } : MethodName) ∈ bg := bg_in 959 (by decide +kernel) (by decide +kernel)
theorem wd_961 : Cond.instanceMethod ({ cls := "GoodsKeeperModel", name := "noRule", desc := "(I)Z" } : MethodName) ∈ bg := bg_in 961 (by decide +kernel) (by decide +kernel)
theorem wd_962 : Cond.code ({ cls := "GoodsKeeperModel", name := "noRule", desc := "(I)Z" } : MethodName) prog_10_method_6_code (2 : Nat) (Option.some FieldType.boolean) ∈ bg := bg_in 962 (by decide +kernel) (by decide +kernel)
theorem wd_963 : Cond.methodLink "GoodsKeeperModel" (94 : Nat) ({ cls := "GoodsKeeperModel", name := "in", desc := "(JJJ)Z" } : MethodName) ∈ bg := bg_in 963 (by decide +kernel) (by decide +kernel)
theorem wd_964 : Cond.static ({ cls := "GoodsKeeperModel", name := "in", desc := "(JJJ)Z" } : MethodName) ∈ bg := bg_in 964 (by decide +kernel) (by decide +kernel)
theorem wd_965 : Cond.code ({ cls := "GoodsKeeperModel", name := "in", desc := "(JJJ)Z" } : MethodName) prog_10_method_4_code (6 : Nat) (Option.some FieldType.boolean) ∈ bg := bg_in 965 (by decide +kernel) (by decide +kernel)
theorem wd_966 : Cond.methodLink "GoodsKeeperModel" (114 : Nat) ({ cls := "GoodsKeeperModel", name := "noKind", desc := "(I)Z" } : MethodName) ∈ bg := bg_in 966 (by decide +kernel) (by decide +kernel)
theorem wd_967 : Cond.static ({ cls := "GoodsKeeperModel", name := "noKind", desc := "(I)Z" } : MethodName) ∈ bg := bg_in 967 (by decide +kernel) (by decide +kernel)
theorem wd_968 : Cond.code ({ cls := "GoodsKeeperModel", name := "noKind", desc := "(I)Z" } : MethodName) prog_10_method_8_code (1 : Nat) (Option.some FieldType.boolean) ∈ bg := bg_in 968 (by decide +kernel) (by decide +kernel)
theorem wd_969 : Cond.constantLong "GoodsKeeperModel" (104 : Nat) (3 : Int64) ∈ bg := bg_in 969 (by decide +kernel) (by decide +kernel)
theorem wd_970 : Cond.constantLong "GoodsKeeperModel" (117 : Nat) (9 : Int64) ∈ bg := bg_in 970 (by decide +kernel) (by decide +kernel)
theorem wd_972 : Cond.instanceMethod ({ cls := "GoodsKeeperModel", name := "deed", desc := "(IIII)I" } : MethodName) ∈ bg := bg_in 972 (by decide +kernel) (by decide +kernel)
theorem wd_973 : Cond.selects "GoodsKeeperModel" ({ cls := "GoodsKeeperModel", name := "deed", desc := "(IIII)I" } : MethodName) ({ cls := "GoodsKeeperModel", name := "deed", desc := "(IIII)I" } : MethodName) ∈ bg := bg_in 973 (by decide +kernel) (by decide +kernel)
theorem wd_974 : Cond.code ({ cls := "GoodsKeeperModel", name := "deed", desc := "(IIII)I" } : MethodName) prog_10_method_13_code (5 : Nat) (Option.some FieldType.int) ∈ bg := bg_in 974 (by decide +kernel) (by decide +kernel)
theorem wd_975 : Cond.methodLink "GoodsKeeperModel" (124 : Nat) ({ cls := "GoodsKeeperModel", name := "noPlayer", desc := "(I)Z" } : MethodName) ∈ bg := bg_in 975 (by decide +kernel) (by decide +kernel)
theorem wd_977 : Cond.instanceMethod ({ cls := "GoodsKeeperModel", name := "noPlayer", desc := "(I)Z" } : MethodName) ∈ bg := bg_in 977 (by decide +kernel) (by decide +kernel)
theorem wd_978 : Cond.code ({ cls := "GoodsKeeperModel", name := "noPlayer", desc := "(I)Z" } : MethodName) prog_10_method_5_code (2 : Nat) (Option.some FieldType.boolean) ∈ bg := bg_in 978 (by decide +kernel) (by decide +kernel)
theorem wd_979 : Cond.constantLong "GoodsKeeperModel" (127 : Nat) (1000 : Int64) ∈ bg := bg_in 979 (by decide +kernel) (by decide +kernel)
theorem wd_980 : Cond.methodLink "GoodsKeeperModel" (129 : Nat) ({ cls := "GoodsKeeperModel", name := "does", desc := "(III)I" } : MethodName) ∈ bg := bg_in 980 (by decide +kernel) (by decide +kernel)
theorem wd_982 : Cond.instanceMethod ({ cls := "GoodsKeeperModel", name := "does", desc := "(III)I" } : MethodName) ∈ bg := bg_in 982 (by decide +kernel) (by decide +kernel)
theorem wd_983 : Cond.code ({ cls := "GoodsKeeperModel", name := "does", desc := "(III)I" } : MethodName) prog_10_method_12_code (11 : Nat) (Option.some FieldType.int) ∈ bg := bg_in 983 (by decide +kernel) (by decide +kernel)
theorem wd_984 : Cond.constantLong "GoodsKeeperModel" (119 : Nat) (1000000000 : Int64) ∈ bg := bg_in 984 (by decide +kernel) (by decide +kernel)
theorem wd_986 : Cond.instanceMethod ({ cls := "GoodsKeeperModel", name := "has", desc := "(II)I" } : MethodName) ∈ bg := bg_in 986 (by decide +kernel) (by decide +kernel)
theorem wd_987 : Cond.selects "GoodsKeeperModel" ({ cls := "GoodsKeeperModel", name := "has", desc := "(II)I" } : MethodName) ({ cls := "GoodsKeeperModel", name := "has", desc := "(II)I" } : MethodName) ∈ bg := bg_in 987 (by decide +kernel) (by decide +kernel)
theorem wd_988 : Cond.code ({ cls := "GoodsKeeperModel", name := "has", desc := "(II)I" } : MethodName) prog_10_method_14_code (3 : Nat) (Option.some FieldType.int) ∈ bg := bg_in 988 (by decide +kernel) (by decide +kernel)
theorem wd_990 : Cond.instanceMethod ({ cls := "GoodsKeeperModel", name := "sum", desc := "(IZ)J" } : MethodName) ∈ bg := bg_in 990 (by decide +kernel) (by decide +kernel)
theorem wd_991 : Cond.selects "GoodsKeeperModel" ({ cls := "GoodsKeeperModel", name := "sum", desc := "(IZ)J" } : MethodName) ({ cls := "GoodsKeeperModel", name := "sum", desc := "(IZ)J" } : MethodName) ∈ bg := bg_in 991 (by decide +kernel) (by decide +kernel)
theorem wd_992 : Cond.code ({ cls := "GoodsKeeperModel", name := "sum", desc := "(IZ)J" } : MethodName) prog_10_method_15_code (3 : Nat) (Option.some FieldType.long) ∈ bg := bg_in 992 (by decide +kernel) (by decide +kernel)
theorem wd_994 : Cond.instanceMethod ({ cls := "GoodsKeeperModel", name := "single", desc := "(IZI)I" } : MethodName) ∈ bg := bg_in 994 (by decide +kernel) (by decide +kernel)
theorem wd_995 : Cond.selects "GoodsKeeperModel" ({ cls := "GoodsKeeperModel", name := "single", desc := "(IZI)I" } : MethodName) ({ cls := "GoodsKeeperModel", name := "single", desc := "(IZI)I" } : MethodName) ∈ bg := bg_in 995 (by decide +kernel) (by decide +kernel)
theorem wd_996 : Cond.code ({ cls := "GoodsKeeperModel", name := "single", desc := "(IZI)I" } : MethodName) prog_10_method_21_code (5 : Nat) (Option.some FieldType.int) ∈ bg := bg_in 996 (by decide +kernel) (by decide +kernel)
theorem wd_997 : Cond.constantLong "GoodsKeeperModel" (136 : Nat) (8 : Int64) ∈ bg := bg_in 997 (by decide +kernel) (by decide +kernel)
theorem wd_998 : Cond.methodLink "GoodsKeeperModel" (138 : Nat) ({ cls := "GoodsKeeperModel", name := "lines", desc := "(II)V" } : MethodName) ∈ bg := bg_in 998 (by decide +kernel) (by decide +kernel)
theorem wd_1000 : Cond.instanceMethod ({ cls := "GoodsKeeperModel", name := "lines", desc := "(II)V" } : MethodName) ∈ bg := bg_in 1000 (by decide +kernel) (by decide +kernel)
theorem wd_1001 : Cond.code ({ cls := "GoodsKeeperModel", name := "lines", desc := "(II)V" } : MethodName) prog_10_method_20_code (3 : Nat) (Option.none : Option FieldType) ∈ bg := bg_in 1001 (by decide +kernel) (by decide +kernel)
theorem wd_1003 : Cond.instanceMethod ({ cls := "GoodsKeeperModel", name := "put", desc := "(II)Z" } : MethodName) ∈ bg := bg_in 1003 (by decide +kernel) (by decide +kernel)
theorem wd_1004 : Cond.selects "GoodsKeeperModel" ({ cls := "GoodsKeeperModel", name := "put", desc := "(II)Z" } : MethodName) ({ cls := "GoodsKeeperModel", name := "put", desc := "(II)Z" } : MethodName) ∈ bg := bg_in 1004 (by decide +kernel) (by decide +kernel)
theorem wd_1005 : Cond.code ({ cls := "GoodsKeeperModel", name := "put", desc := "(II)Z" } : MethodName) prog_10_method_22_code (3 : Nat) (Option.some FieldType.boolean) ∈ bg := bg_in 1005 (by decide +kernel) (by decide +kernel)
theorem wd_1006 : Cond.methodLink "GoodsKeeperModel" (142 : Nat) ({ cls := "GoodsKeeperModel", name := "noSingle", desc := "(I)Z" } : MethodName) ∈ bg := bg_in 1006 (by decide +kernel) (by decide +kernel)
theorem wd_1008 : Cond.instanceMethod ({ cls := "GoodsKeeperModel", name := "noSingle", desc := "(I)Z" } : MethodName) ∈ bg := bg_in 1008 (by decide +kernel) (by decide +kernel)
theorem wd_1009 : Cond.code ({ cls := "GoodsKeeperModel", name := "noSingle", desc := "(I)Z" } : MethodName) prog_10_method_7_code (2 : Nat) (Option.some FieldType.boolean) ∈ bg := bg_in 1009 (by decide +kernel) (by decide +kernel)
theorem wd_1010 : Cond.methodLink "GoodsKeeperModel" (145 : Nat) ({ cls := "GoodsKeeperModel", name := "isBroken", desc := "(I)Z" } : MethodName) ∈ bg := bg_in 1010 (by decide +kernel) (by decide +kernel)
theorem wd_1012 : Cond.instanceMethod ({ cls := "GoodsKeeperModel", name := "isBroken", desc := "(I)Z" } : MethodName) ∈ bg := bg_in 1012 (by decide +kernel) (by decide +kernel)
theorem wd_1013 : Cond.code ({ cls := "GoodsKeeperModel", name := "isBroken", desc := "(I)Z" } : MethodName) prog_10_method_18_code (2 : Nat) (Option.some FieldType.boolean) ∈ bg := bg_in 1013 (by decide +kernel) (by decide +kernel)
theorem wd_1014 : Cond.methodLink "GoodsKeeperModel" (148 : Nat) ({ cls := "GoodsKeeperModel", name := "isWithin", desc := "(II)Z" } : MethodName) ∈ bg := bg_in 1014 (by decide +kernel) (by decide +kernel)
theorem wd_1016 : Cond.instanceMethod ({ cls := "GoodsKeeperModel", name := "isWithin", desc := "(II)Z" } : MethodName) ∈ bg := bg_in 1016 (by decide +kernel) (by decide +kernel)
theorem wd_1017 : Cond.code ({ cls := "GoodsKeeperModel", name := "isWithin", desc := "(II)Z" } : MethodName) prog_10_method_16_code (4 : Nat) (Option.some FieldType.boolean) ∈ bg := bg_in 1017 (by decide +kernel) (by decide +kernel)
theorem wd_1018 : Cond.methodLink "GoodsKeeperModel" (152 : Nat) ({ cls := "GoodsKeeperModel", name := "right", desc := "(I)I" } : MethodName) ∈ bg := bg_in 1018 (by decide +kernel) (by decide +kernel)
theorem wd_1020 : Cond.instanceMethod ({ cls := "GoodsKeeperModel", name := "right", desc := "(I)I" } : MethodName) ∈ bg := bg_in 1020 (by decide +kernel) (by decide +kernel)
theorem wd_1021 : Cond.code ({ cls := "GoodsKeeperModel", name := "right", desc := "(I)I" } : MethodName) prog_10_method_17_code (4 : Nat) (Option.some FieldType.int) ∈ bg := bg_in 1021 (by decide +kernel) (by decide +kernel)
theorem wd_1023 : Cond.instanceMethod ({ cls := "GoodsKeeperModel", name := "take", desc := "(I)Z" } : MethodName) ∈ bg := bg_in 1023 (by decide +kernel) (by decide +kernel)
theorem wd_1024 : Cond.selects "GoodsKeeperModel" ({ cls := "GoodsKeeperModel", name := "take", desc := "(I)Z" } : MethodName) ({ cls := "GoodsKeeperModel", name := "take", desc := "(I)Z" } : MethodName) ∈ bg := bg_in 1024 (by decide +kernel) (by decide +kernel)
theorem wd_1025 : Cond.code ({ cls := "GoodsKeeperModel", name := "take", desc := "(I)Z" } : MethodName) prog_10_method_23_code (2 : Nat) (Option.some FieldType.boolean) ∈ bg := bg_in 1025 (by decide +kernel) (by decide +kernel)
theorem wd_1027 : Cond.instanceMethod ({ cls := "GoodsKeeperModel", name := "give", desc := "(II)Z" } : MethodName) ∈ bg := bg_in 1027 (by decide +kernel) (by decide +kernel)
theorem wd_1028 : Cond.selects "GoodsKeeperModel" ({ cls := "GoodsKeeperModel", name := "give", desc := "(II)Z" } : MethodName) ({ cls := "GoodsKeeperModel", name := "give", desc := "(II)Z" } : MethodName) ∈ bg := bg_in 1028 (by decide +kernel) (by decide +kernel)
theorem wd_1029 : Cond.code ({ cls := "GoodsKeeperModel", name := "give", desc := "(II)Z" } : MethodName) prog_10_method_26_code (3 : Nat) (Option.some FieldType.boolean) ∈ bg := bg_in 1029 (by decide +kernel) (by decide +kernel)
theorem wd_1030 : Cond.methodLink "GoodsKeeperModel" (159 : Nat) ({ cls := "GoodsKeeperModel", name := "mayGo", desc := "(I)Z" } : MethodName) ∈ bg := bg_in 1030 (by decide +kernel) (by decide +kernel)
theorem wd_1032 : Cond.instanceMethod ({ cls := "GoodsKeeperModel", name := "mayGo", desc := "(I)Z" } : MethodName) ∈ bg := bg_in 1032 (by decide +kernel) (by decide +kernel)
theorem wd_1033 : Cond.code ({ cls := "GoodsKeeperModel", name := "mayGo", desc := "(I)Z" } : MethodName) prog_10_method_24_code (4 : Nat) (Option.some FieldType.boolean) ∈ bg := bg_in 1033 (by decide +kernel) (by decide +kernel)
theorem wd_1034 : Cond.methodLink "GoodsKeeperModel" (156 : Nat) ({ cls := "GoodsKeeperModel", name := "isLent", desc := "(I)Z" } : MethodName) ∈ bg := bg_in 1034 (by decide +kernel) (by decide +kernel)
theorem wd_1036 : Cond.instanceMethod ({ cls := "GoodsKeeperModel", name := "isLent", desc := "(I)Z" } : MethodName) ∈ bg := bg_in 1036 (by decide +kernel) (by decide +kernel)
theorem wd_1037 : Cond.code ({ cls := "GoodsKeeperModel", name := "isLent", desc := "(I)Z" } : MethodName) prog_10_method_19_code (2 : Nat) (Option.some FieldType.boolean) ∈ bg := bg_in 1037 (by decide +kernel) (by decide +kernel)
theorem wd_1038 : Cond.methodLink "GoodsKeeperModel" (162 : Nat) ({ cls := "GoodsKeeperModel", name := "goes", desc := "(II)V" } : MethodName) ∈ bg := bg_in 1038 (by decide +kernel) (by decide +kernel)
theorem wd_1040 : Cond.instanceMethod ({ cls := "GoodsKeeperModel", name := "goes", desc := "(II)V" } : MethodName) ∈ bg := bg_in 1040 (by decide +kernel) (by decide +kernel)
theorem wd_1041 : Cond.code ({ cls := "GoodsKeeperModel", name := "goes", desc := "(II)V" } : MethodName) prog_10_method_25_code (4 : Nat) (Option.none : Option FieldType) ∈ bg := bg_in 1041 (by decide +kernel) (by decide +kernel)
theorem wd_1043 : Cond.instanceMethod ({ cls := "GoodsKeeperModel", name := "lend", desc := "(III)Z" } : MethodName) ∈ bg := bg_in 1043 (by decide +kernel) (by decide +kernel)
theorem wd_1044 : Cond.selects "GoodsKeeperModel" ({ cls := "GoodsKeeperModel", name := "lend", desc := "(III)Z" } : MethodName) ({ cls := "GoodsKeeperModel", name := "lend", desc := "(III)Z" } : MethodName) ∈ bg := bg_in 1044 (by decide +kernel) (by decide +kernel)
theorem wd_1045 : Cond.code ({ cls := "GoodsKeeperModel", name := "lend", desc := "(III)Z" } : MethodName) prog_10_method_27_code (4 : Nat) (Option.some FieldType.boolean) ∈ bg := bg_in 1045 (by decide +kernel) (by decide +kernel)
theorem wd_1047 : Cond.instanceMethod ({ cls := "GoodsKeeperModel", name := "wear", desc := "(II)I" } : MethodName) ∈ bg := bg_in 1047 (by decide +kernel) (by decide +kernel)
theorem wd_1048 : Cond.selects "GoodsKeeperModel" ({ cls := "GoodsKeeperModel", name := "wear", desc := "(II)I" } : MethodName) ({ cls := "GoodsKeeperModel", name := "wear", desc := "(II)I" } : MethodName) ∈ bg := bg_in 1048 (by decide +kernel) (by decide +kernel)
theorem wd_1049 : Cond.code ({ cls := "GoodsKeeperModel", name := "wear", desc := "(II)I" } : MethodName) prog_10_method_28_code (4 : Nat) (Option.some FieldType.int) ∈ bg := bg_in 1049 (by decide +kernel) (by decide +kernel)
theorem wd_1050 : Cond.constantLong "GoodsKeeperModel" (165 : Nat) (100 : Int64) ∈ bg := bg_in 1050 (by decide +kernel) (by decide +kernel)
theorem wd_1051 : Cond.methodLink "GoodsKeeperModel" (167 : Nat) ({ cls := "java/lang/Math", name := "min", desc := "(II)I" } : MethodName) ∈ bg := bg_in 1051 (by decide +kernel) (by decide +kernel)
theorem wd_1053 : Cond.instanceMethod ({ cls := "GoodsKeeperModel", name := "days", desc := "(I)I" } : MethodName) ∈ bg := bg_in 1053 (by decide +kernel) (by decide +kernel)
theorem wd_1054 : Cond.selects "GoodsKeeperModel" ({ cls := "GoodsKeeperModel", name := "days", desc := "(I)I" } : MethodName) ({ cls := "GoodsKeeperModel", name := "days", desc := "(I)I" } : MethodName) ∈ bg := bg_in 1054 (by decide +kernel) (by decide +kernel)
theorem wd_1055 : Cond.code ({ cls := "GoodsKeeperModel", name := "days", desc := "(I)I" } : MethodName) prog_10_method_29_code (5 : Nat) (Option.some FieldType.int) ∈ bg := bg_in 1055 (by decide +kernel) (by decide +kernel)
theorem wd_1057 : Cond.instanceMethod ({ cls := "GoodsKeeperModel", name := "look", desc := "(II)I" } : MethodName) ∈ bg := bg_in 1057 (by decide +kernel) (by decide +kernel)
theorem wd_1058 : Cond.selects "GoodsKeeperModel" ({ cls := "GoodsKeeperModel", name := "look", desc := "(II)I" } : MethodName) ({ cls := "GoodsKeeperModel", name := "look", desc := "(II)I" } : MethodName) ∈ bg := bg_in 1058 (by decide +kernel) (by decide +kernel)
theorem wd_1059 : Cond.code ({ cls := "GoodsKeeperModel", name := "look", desc := "(II)I" } : MethodName) prog_10_method_30_code (5 : Nat) (Option.some FieldType.int) ∈ bg := bg_in 1059 (by decide +kernel) (by decide +kernel)
theorem wd_1061 : Cond.instanceMethod ({ cls := "GoodsKeeperModel", name := "line", desc := "(IIZ)I" } : MethodName) ∈ bg := bg_in 1061 (by decide +kernel) (by decide +kernel)
theorem wd_1062 : Cond.selects "GoodsKeeperModel" ({ cls := "GoodsKeeperModel", name := "line", desc := "(IIZ)I" } : MethodName) ({ cls := "GoodsKeeperModel", name := "line", desc := "(IIZ)I" } : MethodName) ∈ bg := bg_in 1062 (by decide +kernel) (by decide +kernel)
theorem wd_1063 : Cond.code ({ cls := "GoodsKeeperModel", name := "line", desc := "(IIZ)I" } : MethodName) prog_10_method_31_code (4 : Nat) (Option.some FieldType.int) ∈ bg := bg_in 1063 (by decide +kernel) (by decide +kernel)
theorem wd_1065 : Cond.instanceMethod ({ cls := "GoodsKeeperModel", name := "offer", desc := "(IIIIIIII)I" } : MethodName) ∈ bg := bg_in 1065 (by decide +kernel) (by decide +kernel)
theorem wd_1066 : Cond.selects "GoodsKeeperModel" ({ cls := "GoodsKeeperModel", name := "offer", desc := "(IIIIIIII)I" } : MethodName) ({ cls := "GoodsKeeperModel", name := "offer", desc := "(IIIIIIII)I" } : MethodName) ∈ bg := bg_in 1066 (by decide +kernel) (by decide +kernel)
theorem wd_1067 : Cond.code ({ cls := "GoodsKeeperModel", name := "offer", desc := "(IIIIIIII)I" } : MethodName) prog_10_method_32_code (11 : Nat) (Option.some FieldType.int) ∈ bg := bg_in 1067 (by decide +kernel) (by decide +kernel)
theorem wd_1068 : Cond.constantLong "GoodsKeeperModel" (173 : Nat) (1000000 : Int64) ∈ bg := bg_in 1068 (by decide +kernel) (by decide +kernel)
theorem wd_1070 : Cond.instanceMethod ({ cls := "GoodsKeeperModel", name := "agree", desc := "(I)I" } : MethodName) ∈ bg := bg_in 1070 (by decide +kernel) (by decide +kernel)
theorem wd_1071 : Cond.selects "GoodsKeeperModel" ({ cls := "GoodsKeeperModel", name := "agree", desc := "(I)I" } : MethodName) ({ cls := "GoodsKeeperModel", name := "agree", desc := "(I)I" } : MethodName) ∈ bg := bg_in 1071 (by decide +kernel) (by decide +kernel)
theorem wd_1072 : Cond.code ({ cls := "GoodsKeeperModel", name := "agree", desc := "(I)I" } : MethodName) prog_10_method_35_code (6 : Nat) (Option.some FieldType.int) ∈ bg := bg_in 1072 (by decide +kernel) (by decide +kernel)
theorem wd_1073 : Cond.methodLink "GoodsKeeperModel" (183 : Nat) ({ cls := "GoodsKeeperModel", name := "against", desc := "(I)I" } : MethodName) ∈ bg := bg_in 1073 (by decide +kernel) (by decide +kernel)
theorem wd_1075 : Cond.instanceMethod ({ cls := "GoodsKeeperModel", name := "against", desc := "(I)I" } : MethodName) ∈ bg := bg_in 1075 (by decide +kernel) (by decide +kernel)
theorem wd_1076 : Cond.code ({ cls := "GoodsKeeperModel", name := "against", desc := "(I)I" } : MethodName) prog_10_method_34_code (6 : Nat) (Option.some FieldType.int) ∈ bg := bg_in 1076 (by decide +kernel) (by decide +kernel)
theorem wd_1077 : Cond.methodLink "GoodsKeeperModel" (179 : Nat) ({ cls := "GoodsKeeperModel", name := "after", desc := "(IIIII)I" } : MethodName) ∈ bg := bg_in 1077 (by decide +kernel) (by decide +kernel)
theorem wd_1079 : Cond.instanceMethod ({ cls := "GoodsKeeperModel", name := "after", desc := "(IIIII)I" } : MethodName) ∈ bg := bg_in 1079 (by decide +kernel) (by decide +kernel)
theorem wd_1080 : Cond.code ({ cls := "GoodsKeeperModel", name := "after", desc := "(IIIII)I" } : MethodName) prog_10_method_33_code (7 : Nat) (Option.some FieldType.int) ∈ bg := bg_in 1080 (by decide +kernel) (by decide +kernel)
theorem wd_1081 : Cond.constant "GoodsKeeperModel" (178 : Nat) (1000000000 : Int32) ∈ bg := bg_in 1081 (by decide +kernel) (by decide +kernel)
theorem wd_1083 : Cond.instanceMethod ({ cls := "GoodsKeeperModel", name := "withdraw", desc := "(I)Z" } : MethodName) ∈ bg := bg_in 1083 (by decide +kernel) (by decide +kernel)
theorem wd_1084 : Cond.selects "GoodsKeeperModel" ({ cls := "GoodsKeeperModel", name := "withdraw", desc := "(I)Z" } : MethodName) ({ cls := "GoodsKeeperModel", name := "withdraw", desc := "(I)Z" } : MethodName) ∈ bg := bg_in 1084 (by decide +kernel) (by decide +kernel)
theorem wd_1085 : Cond.code ({ cls := "GoodsKeeperModel", name := "withdraw", desc := "(I)Z" } : MethodName) prog_10_method_36_code (3 : Nat) (Option.some FieldType.boolean) ∈ bg := bg_in 1085 (by decide +kernel) (by decide +kernel)
theorem wd_1096 : Cond.instanceMethod ({ cls := "GoodsKeeperModel", name := "gainsWithSome", desc := "()Z" } : MethodName) ∈ bg := bg_in 1096 (by decide +kernel) (by decide +kernel)
theorem wd_1097 : Cond.code ({ cls := "GoodsKeeperModel", name := "gainsWithSome", desc := "()Z" } : MethodName) prog_10_method_43_code (5 : Nat) (Option.some FieldType.boolean) ∈ bg := bg_in 1097 (by decide +kernel) (by decide +kernel)
theorem wd_1098 : Cond.methodLink "GoodsKeeperModel" (202 : Nat) ({ cls := "GoodsKeeperModel", name := "bounds", desc := "()V" } : MethodName) ∈ bg := bg_in 1098 (by decide +kernel) (by decide +kernel)
theorem wd_1100 : Cond.instanceMethod ({ cls := "GoodsKeeperModel", name := "bounds", desc := "()V" } : MethodName) ∈ bg := bg_in 1100 (by decide +kernel) (by decide +kernel)
theorem wd_1101 : Cond.code ({ cls := "GoodsKeeperModel", name := "bounds", desc := "()V" } : MethodName) prog_10_method_38_code (3 : Nat) (Option.none : Option FieldType) ∈ bg := bg_in 1101 (by decide +kernel) (by decide +kernel)
theorem wd_1102 : Cond.methodLink "GoodsKeeperModel" (189 : Nat) ({ cls := "GoodsKeeperModel", name := "leaves", desc := "(II)I" } : MethodName) ∈ bg := bg_in 1102 (by decide +kernel) (by decide +kernel)
theorem wd_1104 : Cond.instanceMethod ({ cls := "GoodsKeeperModel", name := "leaves", desc := "(II)I" } : MethodName) ∈ bg := bg_in 1104 (by decide +kernel) (by decide +kernel)
theorem wd_1105 : Cond.code ({ cls := "GoodsKeeperModel", name := "leaves", desc := "(II)I" } : MethodName) prog_10_method_37_code (3 : Nat) (Option.some FieldType.int) ∈ bg := bg_in 1105 (by decide +kernel) (by decide +kernel)
theorem wd_1106 : Cond.methodLink "GoodsKeeperModel" (205 : Nat) ({ cls := "GoodsKeeperModel", name := "isGain", desc := "()Z" } : MethodName) ∈ bg := bg_in 1106 (by decide +kernel) (by decide +kernel)
theorem wd_1108 : Cond.instanceMethod ({ cls := "GoodsKeeperModel", name := "isGain", desc := "()Z" } : MethodName) ∈ bg := bg_in 1108 (by decide +kernel) (by decide +kernel)
theorem wd_1109 : Cond.code ({ cls := "GoodsKeeperModel", name := "isGain", desc := "()Z" } : MethodName) prog_10_method_41_code (1 : Nat) (Option.some FieldType.boolean) ∈ bg := bg_in 1109 (by decide +kernel) (by decide +kernel)
theorem wd_1110 : Cond.methodLink "GoodsKeeperModel" (196 : Nat) ({ cls := "GoodsKeeperModel", name := "isGain", desc := "(J)Z" } : MethodName) ∈ bg := bg_in 1110 (by decide +kernel) (by decide +kernel)
theorem wd_1112 : Cond.instanceMethod ({ cls := "GoodsKeeperModel", name := "isGain", desc := "(J)Z" } : MethodName) ∈ bg := bg_in 1112 (by decide +kernel) (by decide +kernel)
theorem wd_1113 : Cond.code ({ cls := "GoodsKeeperModel", name := "isGain", desc := "(J)Z" } : MethodName) prog_10_method_42_code (9 : Nat) (Option.some FieldType.boolean) ∈ bg := bg_in 1113 (by decide +kernel) (by decide +kernel)
theorem wd_1114 : Cond.constantLong "GoodsKeeperModel" (200 : Nat) (-1 : Int64) ∈ bg := bg_in 1114 (by decide +kernel) (by decide +kernel)
theorem wd_1115 : Cond.methodLink "GoodsKeeperModel" (192 : Nat) ({ cls := "GoodsKeeperModel", name := "two", desc := "(IIII)J" } : MethodName) ∈ bg := bg_in 1115 (by decide +kernel) (by decide +kernel)
theorem wd_1117 : Cond.instanceMethod ({ cls := "GoodsKeeperModel", name := "two", desc := "(IIII)J" } : MethodName) ∈ bg := bg_in 1117 (by decide +kernel) (by decide +kernel)
theorem wd_1118 : Cond.code ({ cls := "GoodsKeeperModel", name := "two", desc := "(IIII)J" } : MethodName) prog_10_method_39_code (5 : Nat) (Option.some FieldType.long) ∈ bg := bg_in 1118 (by decide +kernel) (by decide +kernel)
theorem wd_1119 : Cond.methodLink "GoodsKeeperModel" (208 : Nat) ({ cls := "GoodsKeeperModel", name := "three", desc := "(IIIIII)J" } : MethodName) ∈ bg := bg_in 1119 (by decide +kernel) (by decide +kernel)
theorem wd_1121 : Cond.instanceMethod ({ cls := "GoodsKeeperModel", name := "three", desc := "(IIIIII)J" } : MethodName) ∈ bg := bg_in 1121 (by decide +kernel) (by decide +kernel)
theorem wd_1122 : Cond.code ({ cls := "GoodsKeeperModel", name := "three", desc := "(IIIIII)J" } : MethodName) prog_10_method_40_code (7 : Nat) (Option.some FieldType.long) ∈ bg := bg_in 1122 (by decide +kernel) (by decide +kernel)
theorem wd_1124 : Cond.instanceMethod ({ cls := "GoodsKeeperModel", name := "times", desc := "(II)V" } : MethodName) ∈ bg := bg_in 1124 (by decide +kernel) (by decide +kernel)
theorem wd_1125 : Cond.selects "GoodsKeeperModel" ({ cls := "GoodsKeeperModel", name := "times", desc := "(II)V" } : MethodName) ({ cls := "GoodsKeeperModel", name := "times", desc := "(II)V" } : MethodName) ∈ bg := bg_in 1125 (by decide +kernel) (by decide +kernel)
theorem wd_1126 : Cond.code ({ cls := "GoodsKeeperModel", name := "times", desc := "(II)V" } : MethodName) prog_10_method_46_code (3 : Nat) (Option.none : Option FieldType) ∈ bg := bg_in 1126 (by decide +kernel) (by decide +kernel)
theorem wd_1128 : Cond.instanceMethod ({ cls := "GoodsKeeperModel", name := "earns", desc := "()Z" } : MethodName) ∈ bg := bg_in 1128 (by decide +kernel) (by decide +kernel)
theorem wd_1129 : Cond.selects "GoodsKeeperModel" ({ cls := "GoodsKeeperModel", name := "earns", desc := "()Z" } : MethodName) ({ cls := "GoodsKeeperModel", name := "earns", desc := "()Z" } : MethodName) ∈ bg := bg_in 1129 (by decide +kernel) (by decide +kernel)
theorem wd_1130 : Cond.code ({ cls := "GoodsKeeperModel", name := "earns", desc := "()Z" } : MethodName) prog_10_method_47_code (6 : Nat) (Option.some FieldType.boolean) ∈ bg := bg_in 1130 (by decide +kernel) (by decide +kernel)
theorem wd_1132 : Cond.instanceMethod ({ cls := "GoodsKeeperModel", name := "weigh", desc := "(II)V" } : MethodName) ∈ bg := bg_in 1132 (by decide +kernel) (by decide +kernel)
theorem wd_1133 : Cond.selects "GoodsKeeperModel" ({ cls := "GoodsKeeperModel", name := "weigh", desc := "(II)V" } : MethodName) ({ cls := "GoodsKeeperModel", name := "weigh", desc := "(II)V" } : MethodName) ∈ bg := bg_in 1133 (by decide +kernel) (by decide +kernel)
theorem wd_1134 : Cond.code ({ cls := "GoodsKeeperModel", name := "weigh", desc := "(II)V" } : MethodName) prog_10_method_48_code (3 : Nat) (Option.none : Option FieldType) ∈ bg := bg_in 1134 (by decide +kernel) (by decide +kernel)
theorem wd_1136 : Cond.instanceMethod ({ cls := "GoodsKeeperModel", name := "bars", desc := "()Z" } : MethodName) ∈ bg := bg_in 1136 (by decide +kernel) (by decide +kernel)
theorem wd_1137 : Cond.selects "GoodsKeeperModel" ({ cls := "GoodsKeeperModel", name := "bars", desc := "()Z" } : MethodName) ({ cls := "GoodsKeeperModel", name := "bars", desc := "()Z" } : MethodName) ∈ bg := bg_in 1137 (by decide +kernel) (by decide +kernel)
theorem wd_1138 : Cond.code ({ cls := "GoodsKeeperModel", name := "bars", desc := "()Z" } : MethodName) prog_10_method_49_code (5 : Nat) (Option.some FieldType.boolean) ∈ bg := bg_in 1138 (by decide +kernel) (by decide +kernel)
theorem wd_1140 : Cond.instanceMethod ({ cls := "GoodsKeeperModel", name := "count", desc := "(I)I" } : MethodName) ∈ bg := bg_in 1140 (by decide +kernel) (by decide +kernel)
theorem wd_1141 : Cond.selects "GoodsKeeperModel" ({ cls := "GoodsKeeperModel", name := "count", desc := "(I)I" } : MethodName) ({ cls := "GoodsKeeperModel", name := "count", desc := "(I)I" } : MethodName) ∈ bg := bg_in 1141 (by decide +kernel) (by decide +kernel)
theorem wd_1142 : Cond.code ({ cls := "GoodsKeeperModel", name := "count", desc := "(I)I" } : MethodName) prog_10_method_50_code (4 : Nat) (Option.some FieldType.int) ∈ bg := bg_in 1142 (by decide +kernel) (by decide +kernel)
theorem wp_0 : Cond.selects "GoodsKeeper$Hunt" ⟨"GoodsKeeper$Hunt", "risingColumn", "()I"⟩ ⟨"GoodsKeeper$Hunt", "risingColumn", "()I"⟩ ∈ bg := bg_sel 0 (by decide +kernel) (by decide +kernel)
theorem wp_1 : Cond.selects "GoodsKeeper$Hunt" ⟨"GoodsKeeper$Hunt", "hinderingRow", "(I)I"⟩ ⟨"GoodsKeeper$Hunt", "hinderingRow", "(I)I"⟩ ∈ bg := bg_sel 1 (by decide +kernel) (by decide +kernel)
theorem wp_2 : Cond.selects "GoodsKeeper$Hunt" ⟨"GoodsKeeper$Hunt", "exchange", "(II)V"⟩ ⟨"GoodsKeeper$Hunt", "exchange", "(II)V"⟩ ∈ bg := bg_sel 2 (by decide +kernel) (by decide +kernel)
theorem wp_3 : Cond.selects "GoodsKeeper$Hunt" ⟨"GoodsKeeper$Hunt", "replaceIn", "(IIIJ)V"⟩ ⟨"GoodsKeeper$Hunt", "replaceIn", "(IIIJ)V"⟩ ∈ bg := bg_sel 3 (by decide +kernel) (by decide +kernel)
theorem wp_4 : Cond.selects "GoodsKeeper" ⟨"GoodsKeeper", "wonByTimes", "(I)I"⟩ ⟨"GoodsKeeper", "wonByTimes", "(I)I"⟩ ∈ bg := bg_sel 4 (by decide +kernel) (by decide +kernel)
theorem wp_5 : Cond.selects "GoodsKeeper" ⟨"GoodsKeeper", "weightWonBy", "(LGoodsKeeper$Rule;)I"⟩ ⟨"GoodsKeeper", "weightWonBy", "(LGoodsKeeper$Rule;)I"⟩ ∈ bg := bg_sel 5 (by decide +kernel) (by decide +kernel)
theorem wp_6 : Cond.selects "GoodsKeeper" ⟨"GoodsKeeper", "countOpen", "()I"⟩ ⟨"GoodsKeeper", "countOpen", "()I"⟩ ∈ bg := bg_sel 6 (by decide +kernel) (by decide +kernel)
theorem wp_11 : Cond.selects "GoodsKeeper" ⟨"GoodsKeeper", "ruleAt", "(I)LGoodsKeeper$Rule;"⟩ ⟨"GoodsKeeper", "ruleAt", "(I)LGoodsKeeper$Rule;"⟩ ∈ bg := bg_sel 11 (by decide +kernel) (by decide +kernel)
theorem wp_12 : Cond.selects "GoodsKeeper" ⟨"GoodsKeeper", "playerAt", "(I)LGoodsKeeper$Player;"⟩ ⟨"GoodsKeeper", "playerAt", "(I)LGoodsKeeper$Player;"⟩ ∈ bg := bg_sel 12 (by decide +kernel) (by decide +kernel)
theorem wp_13 : Cond.selects "GoodsKeeper" ⟨"GoodsKeeper", "carryOut", "(LGoodsKeeper$Player;LGoodsKeeper$Rule;I)V"⟩ ⟨"GoodsKeeper", "carryOut", "(LGoodsKeeper$Player;LGoodsKeeper$Rule;I)V"⟩ ∈ bg := bg_sel 13 (by decide +kernel) (by decide +kernel)
theorem wp_14 : Cond.selects "GoodsKeeper$Things" ⟨"GoodsKeeper$Things", "nextDue", "(I)LGoodsKeeper$Single;"⟩ ⟨"GoodsKeeper$Things", "nextDue", "(I)LGoodsKeeper$Single;"⟩ ∈ bg := bg_sel 14 (by decide +kernel) (by decide +kernel)
theorem wp_15 : Cond.selects "GoodsKeeper" ⟨"GoodsKeeper", "sideOf", "(IIII)LGoodsKeeper$Side;"⟩ ⟨"GoodsKeeper", "sideOf", "(IIII)LGoodsKeeper$Side;"⟩ ∈ bg := bg_sel 15 (by decide +kernel) (by decide +kernel)
theorem wp_16 : Cond.selects "GoodsKeeper" ⟨"GoodsKeeper", "offerAt", "(I)LGoodsKeeper$Offer;"⟩ ⟨"GoodsKeeper", "offerAt", "(I)LGoodsKeeper$Offer;"⟩ ∈ bg := bg_sel 16 (by decide +kernel) (by decide +kernel)
theorem wp_17 : Cond.selects "GoodsKeeper" ⟨"GoodsKeeper", "answerTo", "(LGoodsKeeper$Offer;)I"⟩ ⟨"GoodsKeeper", "answerTo", "(LGoodsKeeper$Offer;)I"⟩ ∈ bg := bg_sel 17 (by decide +kernel) (by decide +kernel)
theorem wp_18 : Cond.selects "GoodsKeeper" ⟨"GoodsKeeper", "mayHandOver", "(LGoodsKeeper$Side;)Z"⟩ ⟨"GoodsKeeper", "mayHandOver", "(LGoodsKeeper$Side;)Z"⟩ ∈ bg := bg_sel 18 (by decide +kernel) (by decide +kernel)
theorem wp_19 : Cond.selects "GoodsKeeper" ⟨"GoodsKeeper", "trade", "(LGoodsKeeper$Side;LGoodsKeeper$Side;)V"⟩ ⟨"GoodsKeeper", "trade", "(LGoodsKeeper$Side;LGoodsKeeper$Side;)V"⟩ ∈ bg := bg_sel 19 (by decide +kernel) (by decide +kernel)
theorem wp_20 : Cond.selects "GoodsKeeperModel" ⟨"GoodsKeeperModel", "throwsIf", "(ZI)Z"⟩ ⟨"GoodsKeeperModel", "throwsIf", "(ZI)Z"⟩ ∈ bg := bg_sel 20 (by decide +kernel) (by decide +kernel)
theorem wp_21 : Cond.selects "GoodsKeeperModel" ⟨"GoodsKeeperModel", "noRule", "(I)Z"⟩ ⟨"GoodsKeeperModel", "noRule", "(I)Z"⟩ ∈ bg := bg_sel 21 (by decide +kernel) (by decide +kernel)
theorem wp_22 : Cond.selects "GoodsKeeperModel" ⟨"GoodsKeeperModel", "noPlayer", "(I)Z"⟩ ⟨"GoodsKeeperModel", "noPlayer", "(I)Z"⟩ ∈ bg := bg_sel 22 (by decide +kernel) (by decide +kernel)
theorem wp_23 : Cond.selects "GoodsKeeperModel" ⟨"GoodsKeeperModel", "does", "(III)I"⟩ ⟨"GoodsKeeperModel", "does", "(III)I"⟩ ∈ bg := bg_sel 23 (by decide +kernel) (by decide +kernel)
theorem wp_24 : Cond.selects "GoodsKeeperModel" ⟨"GoodsKeeperModel", "lines", "(II)V"⟩ ⟨"GoodsKeeperModel", "lines", "(II)V"⟩ ∈ bg := bg_sel 24 (by decide +kernel) (by decide +kernel)
theorem wp_25 : Cond.selects "GoodsKeeperModel" ⟨"GoodsKeeperModel", "noSingle", "(I)Z"⟩ ⟨"GoodsKeeperModel", "noSingle", "(I)Z"⟩ ∈ bg := bg_sel 25 (by decide +kernel) (by decide +kernel)
theorem wp_26 : Cond.selects "GoodsKeeperModel" ⟨"GoodsKeeperModel", "isBroken", "(I)Z"⟩ ⟨"GoodsKeeperModel", "isBroken", "(I)Z"⟩ ∈ bg := bg_sel 26 (by decide +kernel) (by decide +kernel)
theorem wp_27 : Cond.selects "GoodsKeeperModel" ⟨"GoodsKeeperModel", "isWithin", "(II)Z"⟩ ⟨"GoodsKeeperModel", "isWithin", "(II)Z"⟩ ∈ bg := bg_sel 27 (by decide +kernel) (by decide +kernel)
theorem wp_28 : Cond.selects "GoodsKeeperModel" ⟨"GoodsKeeperModel", "right", "(I)I"⟩ ⟨"GoodsKeeperModel", "right", "(I)I"⟩ ∈ bg := bg_sel 28 (by decide +kernel) (by decide +kernel)
theorem wp_29 : Cond.selects "GoodsKeeperModel" ⟨"GoodsKeeperModel", "mayGo", "(I)Z"⟩ ⟨"GoodsKeeperModel", "mayGo", "(I)Z"⟩ ∈ bg := bg_sel 29 (by decide +kernel) (by decide +kernel)
theorem wp_30 : Cond.selects "GoodsKeeperModel" ⟨"GoodsKeeperModel", "isLent", "(I)Z"⟩ ⟨"GoodsKeeperModel", "isLent", "(I)Z"⟩ ∈ bg := bg_sel 30 (by decide +kernel) (by decide +kernel)
theorem wp_31 : Cond.selects "GoodsKeeperModel" ⟨"GoodsKeeperModel", "goes", "(II)V"⟩ ⟨"GoodsKeeperModel", "goes", "(II)V"⟩ ∈ bg := bg_sel 31 (by decide +kernel) (by decide +kernel)
theorem wp_32 : Cond.selects "GoodsKeeperModel" ⟨"GoodsKeeperModel", "against", "(I)I"⟩ ⟨"GoodsKeeperModel", "against", "(I)I"⟩ ∈ bg := bg_sel 32 (by decide +kernel) (by decide +kernel)
theorem wp_33 : Cond.selects "GoodsKeeperModel" ⟨"GoodsKeeperModel", "after", "(IIIII)I"⟩ ⟨"GoodsKeeperModel", "after", "(IIIII)I"⟩ ∈ bg := bg_sel 33 (by decide +kernel) (by decide +kernel)
theorem wp_35 : Cond.selects "GoodsKeeperModel" ⟨"GoodsKeeperModel", "gainsWithSome", "()Z"⟩ ⟨"GoodsKeeperModel", "gainsWithSome", "()Z"⟩ ∈ bg := bg_sel 35 (by decide +kernel) (by decide +kernel)
theorem wp_36 : Cond.selects "GoodsKeeperModel" ⟨"GoodsKeeperModel", "bounds", "()V"⟩ ⟨"GoodsKeeperModel", "bounds", "()V"⟩ ∈ bg := bg_sel 36 (by decide +kernel) (by decide +kernel)
theorem wp_37 : Cond.selects "GoodsKeeperModel" ⟨"GoodsKeeperModel", "leaves", "(II)I"⟩ ⟨"GoodsKeeperModel", "leaves", "(II)I"⟩ ∈ bg := bg_sel 37 (by decide +kernel) (by decide +kernel)
theorem wp_38 : Cond.selects "GoodsKeeperModel" ⟨"GoodsKeeperModel", "isGain", "()Z"⟩ ⟨"GoodsKeeperModel", "isGain", "()Z"⟩ ∈ bg := bg_sel 38 (by decide +kernel) (by decide +kernel)
theorem wp_39 : Cond.selects "GoodsKeeperModel" ⟨"GoodsKeeperModel", "isGain", "(J)Z"⟩ ⟨"GoodsKeeperModel", "isGain", "(J)Z"⟩ ∈ bg := bg_sel 39 (by decide +kernel) (by decide +kernel)
theorem wp_40 : Cond.selects "GoodsKeeperModel" ⟨"GoodsKeeperModel", "two", "(IIII)J"⟩ ⟨"GoodsKeeperModel", "two", "(IIII)J"⟩ ∈ bg := bg_sel 40 (by decide +kernel) (by decide +kernel)
theorem wp_41 : Cond.selects "GoodsKeeperModel" ⟨"GoodsKeeperModel", "three", "(IIIIII)J"⟩ ⟨"GoodsKeeperModel", "three", "(IIIIII)J"⟩ ∈ bg := bg_sel 41 (by decide +kernel) (by decide +kernel)
theorem qt_1 : q_ty 1 = 2 := by decide +kernel
theorem qt_2 : q_ty 2 = 0 := by decide +kernel
theorem qt_40 : q_ty 40 = 2 := by decide +kernel
theorem qt_41 : q_ty 41 = 2 := by decide +kernel
theorem qt_42 : q_ty 42 = 2 := by decide +kernel
theorem qt_43 : q_ty 43 = 0 := by decide +kernel
theorem qt_44 : q_ty 44 = 1 := by decide +kernel
theorem qt_80 : q_ty 80 = 2 := by decide +kernel
theorem qt_81 : q_ty 81 = 2 := by decide +kernel
theorem qt_82 : q_ty 82 = 0 := by decide +kernel
theorem qt_120 : q_ty 120 = 0 := by decide +kernel
theorem qt_121 : q_ty 121 = 2 := by decide +kernel
theorem qt_122 : q_ty 122 = 0 := by decide +kernel
theorem qt_123 : q_ty 123 = 0 := by decide +kernel
theorem qt_160 : q_ty 160 = 0 := by decide +kernel
theorem qt_161 : q_ty 161 = 2 := by decide +kernel
theorem qt_162 : q_ty 162 = 2 := by decide +kernel
theorem qt_163 : q_ty 163 = 0 := by decide +kernel
theorem qt_200 : q_ty 200 = 2 := by decide +kernel
theorem qt_201 : q_ty 201 = 0 := by decide +kernel
theorem qt_202 : q_ty 202 = 0 := by decide +kernel
theorem qt_203 : q_ty 203 = 2 := by decide +kernel
theorem qt_204 : q_ty 204 = 0 := by decide +kernel
theorem qt_240 : q_ty 240 = 0 := by decide +kernel
theorem qt_241 : q_ty 241 = 0 := by decide +kernel
theorem qt_242 : q_ty 242 = 0 := by decide +kernel
theorem qt_243 : q_ty 243 = 2 := by decide +kernel
theorem qt_244 : q_ty 244 = 2 := by decide +kernel
theorem qt_245 : q_ty 245 = 0 := by decide +kernel
theorem qt_246 : q_ty 246 = 0 := by decide +kernel
theorem qt_247 : q_ty 247 = 0 := by decide +kernel
theorem qt_248 : q_ty 248 = 2 := by decide +kernel
theorem qt_249 : q_ty 249 = 2 := by decide +kernel
theorem qt_250 : q_ty 250 = 2 := by decide +kernel
theorem qt_280 : q_ty 280 = 2 := by decide +kernel
theorem qt_320 : q_ty 320 = 2 := by decide +kernel
theorem qt_321 : q_ty 321 = 2 := by decide +kernel
theorem qt_322 : q_ty 322 = 2 := by decide +kernel
theorem qt_323 : q_ty 323 = 2 := by decide +kernel
theorem qt_324 : q_ty 324 = 2 := by decide +kernel
theorem qt_325 : q_ty 325 = 2 := by decide +kernel
theorem qt_326 : q_ty 326 = 2 := by decide +kernel
theorem qt_327 : q_ty 327 = 2 := by decide +kernel
theorem qt_328 : q_ty 328 = 0 := by decide +kernel
theorem qt_329 : q_ty 329 = 0 := by decide +kernel
theorem qt_360 : q_ty 360 = 0 := by decide +kernel
theorem qt_361 : q_ty 361 = 0 := by decide +kernel
theorem qt_362 : q_ty 362 = 2 := by decide +kernel
theorem qt_363 : q_ty 363 = 2 := by decide +kernel
theorem qt_364 : q_ty 364 = 2 := by decide +kernel
theorem qt_365 : q_ty 365 = 0 := by decide +kernel
theorem qt_366 : q_ty 366 = 0 := by decide +kernel
theorem qt_367 : q_ty 367 = 2 := by decide +kernel
theorem qt_368 : q_ty 368 = 2 := by decide +kernel
theorem qt_369 : q_ty 369 = 2 := by decide +kernel
theorem qt_370 : q_ty 370 = 2 := by decide +kernel
theorem qt_371 : q_ty 371 = 2 := by decide +kernel
theorem qt_372 : q_ty 372 = 0 := by decide +kernel
theorem qt_373 : q_ty 373 = 2 := by decide +kernel
theorem qt_374 : q_ty 374 = 2 := by decide +kernel
theorem qt_375 : q_ty 375 = 2 := by decide +kernel
theorem qt_376 : q_ty 376 = 2 := by decide +kernel
theorem qt_377 : q_ty 377 = 2 := by decide +kernel
theorem qt_378 : q_ty 378 = 2 := by decide +kernel
theorem qt_379 : q_ty 379 = 2 := by decide +kernel
theorem qt_380 : q_ty 380 = 2 := by decide +kernel
theorem qt_381 : q_ty 381 = 2 := by decide +kernel
theorem qt_382 : q_ty 382 = 2 := by decide +kernel
theorem qt_383 : q_ty 383 = 2 := by decide +kernel
theorem qt_384 : q_ty 384 = 2 := by decide +kernel
theorem qt_385 : q_ty 385 = 0 := by decide +kernel
theorem qt_386 : q_ty 386 = 2 := by decide +kernel
theorem qt_387 : q_ty 387 = 2 := by decide +kernel
theorem qt_388 : q_ty 388 = 0 := by decide +kernel
theorem qt_389 : q_ty 389 = 2 := by decide +kernel
theorem qt_390 : q_ty 390 = 0 := by decide +kernel
theorem qt_391 : q_ty 391 = 2 := by decide +kernel
theorem qt_392 : q_ty 392 = 2 := by decide +kernel
theorem th_RX6_28 : Bundle.fit "java/lang/IndexOutOfBoundsException" = true ∧ (∀ n ∈ ["java/lang/RuntimeException", "java/lang/Exception"], Bundle.fit n = true) ∧ (∀ w ∈ (vx_atS "GoodsKeeper$Things" 28 "java/lang/IndexOutOfBoundsException" ["java/lang/RuntimeException", "java/lang/Exception"]).filter goodWord, w ∈ bg) ∧ (∀ w ∈ (vx_atS "GoodsKeeper$Things" 28 "java/lang/IndexOutOfBoundsException" ["java/lang/RuntimeException", "java/lang/Exception"]).filter (fun w => !goodWord w), w ∈ q_casts.map (fun q => Cond.castable q.1 q.2) ++ q_decls.map Cond.declares) ∧ (∀ L, L = Cond.classLink "GoodsKeeper$Things" 24 "java/lang/IndexOutOfBoundsException" :: Cond.initialized "java/lang/IndexOutOfBoundsException" :: vx_atS "GoodsKeeper$Things" 28 "java/lang/IndexOutOfBoundsException" ["java/lang/RuntimeException", "java/lang/Exception"] → ∀ w ∈ L, vx_ot w = true) := ⟨by decide +kernel, by decide +kernel, by decide +kernel, by decide +kernel, fun L h => by subst h; decide +kernel⟩
theorem th_RX7_326 : Bundle.fit "java/lang/IndexOutOfBoundsException" = true ∧ (∀ n ∈ ["java/lang/RuntimeException", "java/lang/Exception"], Bundle.fit n = true) ∧ (∀ w ∈ (vx_atS "GoodsKeeper" 326 "java/lang/IndexOutOfBoundsException" ["java/lang/RuntimeException", "java/lang/Exception"]).filter goodWord, w ∈ bg) ∧ (∀ w ∈ (vx_atS "GoodsKeeper" 326 "java/lang/IndexOutOfBoundsException" ["java/lang/RuntimeException", "java/lang/Exception"]).filter (fun w => !goodWord w), w ∈ q_casts.map (fun q => Cond.castable q.1 q.2) ++ q_decls.map Cond.declares) ∧ (∀ L, L = Cond.classLink "GoodsKeeper" 322 "java/lang/IndexOutOfBoundsException" :: Cond.initialized "java/lang/IndexOutOfBoundsException" :: vx_atS "GoodsKeeper" 326 "java/lang/IndexOutOfBoundsException" ["java/lang/RuntimeException", "java/lang/Exception"] → ∀ w ∈ L, vx_ot w = true) := ⟨by decide +kernel, by decide +kernel, by decide +kernel, by decide +kernel, fun L h => by subst h; decide +kernel⟩
theorem th_RX7_222 : Bundle.fit "java/lang/IllegalArgumentException" = true ∧ (∀ n ∈ ["java/lang/RuntimeException", "java/lang/Exception"], Bundle.fit n = true) ∧ (∀ w ∈ (vx_atS "GoodsKeeper" 222 "java/lang/IllegalArgumentException" ["java/lang/RuntimeException", "java/lang/Exception"]).filter goodWord, w ∈ bg) ∧ (∀ w ∈ (vx_atS "GoodsKeeper" 222 "java/lang/IllegalArgumentException" ["java/lang/RuntimeException", "java/lang/Exception"]).filter (fun w => !goodWord w), w ∈ q_casts.map (fun q => Cond.castable q.1 q.2) ++ q_decls.map Cond.declares) ∧ (∀ L, L = Cond.classLink "GoodsKeeper" 218 "java/lang/IllegalArgumentException" :: Cond.initialized "java/lang/IllegalArgumentException" :: vx_atS "GoodsKeeper" 222 "java/lang/IllegalArgumentException" ["java/lang/RuntimeException", "java/lang/Exception"] → ∀ w ∈ L, vx_ot w = true) := ⟨by decide +kernel, by decide +kernel, by decide +kernel, by decide +kernel, fun L h => by subst h; decide +kernel⟩
theorem th_RX7_207 : Bundle.fit "java/util/NoSuchElementException" = true ∧ (∀ n ∈ ["java/lang/RuntimeException", "java/lang/Exception"], Bundle.fit n = true) ∧ (∀ w ∈ (vx_atS "GoodsKeeper" 207 "java/util/NoSuchElementException" ["java/lang/RuntimeException", "java/lang/Exception"]).filter goodWord, w ∈ bg) ∧ (∀ w ∈ (vx_atS "GoodsKeeper" 207 "java/util/NoSuchElementException" ["java/lang/RuntimeException", "java/lang/Exception"]).filter (fun w => !goodWord w), w ∈ q_casts.map (fun q => Cond.castable q.1 q.2) ++ q_decls.map Cond.declares) ∧ (∀ L, L = Cond.classLink "GoodsKeeper" 203 "java/util/NoSuchElementException" :: Cond.initialized "java/util/NoSuchElementException" :: vx_atS "GoodsKeeper" 207 "java/util/NoSuchElementException" ["java/lang/RuntimeException", "java/lang/Exception"] → ∀ w ∈ L, vx_ot w = true) := ⟨by decide +kernel, by decide +kernel, by decide +kernel, by decide +kernel, fun L h => by subst h; decide +kernel⟩
theorem mX3_won : q_mv yX3_won cX3_won 2 (some .int) 1 4 := ⟨⟨wd_163, wd_17, ⟨by decide, by decide⟩, by decide +kernel⟩, wd_161, wd_162, TX3, 4, rfl⟩
theorem mX2_answerTo : q_mv yX2_answerTo cX2_answerTo 4 (some .int) 2 3 := ⟨⟨wd_491, wd_12, ⟨by decide, by decide⟩, by decide +kernel⟩, wd_489, wd_490, TX2, 4, rfl⟩
theorem mX4_hasTooFew : q_mv yX4_hasTooFew cX4_hasTooFew 1 (some .boolean) 0 5 := ⟨⟨wd_793, wd_24, ⟨by decide, by decide⟩, by decide +kernel⟩, wd_791, wd_792, TX4, 5, rfl⟩
theorem mX4_wouldHaveTooMany : q_mv yX4_wouldHaveTooMany cX4_wouldHaveTooMany 3 (some .boolean) 1 5 := ⟨⟨wd_797, wd_24, ⟨by decide, by decide⟩, by decide +kernel⟩, wd_795, wd_796, TX4, 5, rfl⟩
theorem mX4_isWornSince : q_mv yX4_isWornSince cX4_isWornSince 1 (some .boolean) 0 5 := ⟨⟨wd_806, wd_24, ⟨by decide, by decide⟩, by decide +kernel⟩, wd_804, wd_805, TX4, 5, rfl⟩
theorem mX5_isBroken : q_mv yX5_isBroken cX5_isBroken 1 (some .boolean) 0 6 := ⟨⟨wd_219, wd_22, ⟨by decide, by decide⟩, by decide +kernel⟩, wd_217, wd_218, TX5, 11, rfl⟩
theorem mX5_isLent : q_mv yX5_isLent cX5_isLent 1 (some .boolean) 0 6 := ⟨⟨wd_227, wd_22, ⟨by decide, by decide⟩, by decide +kernel⟩, wd_225, wd_226, TX5, 11, rfl⟩
theorem mX5_passTo : q_mv yX5_passTo cX5_passTo 3 none 2 6 := ⟨⟨wd_578, wd_22, ⟨by decide, by decide⟩, by decide +kernel⟩, wd_576, wd_577, TX5, 11, rfl⟩
theorem mX5_endLoan : q_mv yX5_endLoan cX5_endLoan 1 none 0 6 := ⟨⟨wd_659, wd_22, ⟨by decide, by decide⟩, by decide +kernel⟩, wd_657, wd_658, TX5, 11, rfl⟩
theorem mX5_liesWithin : q_mv yX5_liesWithin cX5_liesWithin 3 (some .boolean) 1 6 := ⟨⟨wd_605, wd_22, ⟨by decide, by decide⟩, by decide +kernel⟩, wd_603, wd_604, TX5, 11, rfl⟩
theorem mX0_begin : q_mv yX0_begin cX0_begin 2 none 0 1 := ⟨⟨wd_136, wd_6, ⟨by decide, by decide⟩, by decide +kernel⟩, wd_134, wd_135, TX0, 5, rfl⟩
theorem mX0_enter : q_mv yX0_enter cX0_enter 6 none 1 1 := ⟨⟨wd_159, wd_6, ⟨by decide, by decide⟩, by decide +kernel⟩, wd_157, wd_158, TX0, 5, rfl⟩
theorem mX0_risingColumn : q_mv yX0_risingColumn cX0_risingColumn 3 (some .int) 0 1 := ⟨⟨wd_171, wd_6, ⟨by decide, by decide⟩, by decide +kernel⟩, wd_170, wp_0, TX0, 5, rfl⟩
theorem mX0_hinderingRow : q_mv yX0_hinderingRow cX0_hinderingRow 4 (some .int) 1 1 := ⟨⟨wd_175, wd_6, ⟨by decide, by decide⟩, by decide +kernel⟩, wd_174, wp_1, TX0, 5, rfl⟩
theorem mX0_replaceIn : q_mv yX0_replaceIn cX0_replaceIn 9 none 4 1 := ⟨⟨wd_183, wd_6, ⟨by decide, by decide⟩, by decide +kernel⟩, wd_182, wp_3, TX0, 5, rfl⟩
theorem mX0_exchange : q_mv yX0_exchange cX0_exchange 6 none 2 1 := ⟨⟨wd_179, wd_6, ⟨by decide, by decide⟩, by decide +kernel⟩, wd_178, wp_2, TX0, 5, rfl⟩
theorem mX0_findsGain : q_mv yX0_findsGain cX0_findsGain 4 (some .boolean) 0 1 := ⟨⟨wd_167, wd_6, ⟨by decide, by decide⟩, by decide +kernel⟩, wd_165, wd_166, TX0, 5, rfl⟩
theorem mX1_init : q_mt yX1_init cX1_init 3 none 2 ∧ Cond.instanceMethod yX1_init ∈ bg := ⟨⟨wd_759, wd_25, ⟨by decide, by decide⟩, by decide +kernel⟩, wd_758⟩
theorem mX2_init : q_mt yX2_init cX2_init 2 none 1 ∧ Cond.instanceMethod yX2_init ∈ bg := ⟨⟨wd_314, wd_12, ⟨by decide, by decide⟩, by decide +kernel⟩, wd_313⟩
theorem mX3_init : q_mt yX3_init cX3_init 2 none 1 ∧ Cond.instanceMethod yX3_init ∈ bg := ⟨⟨wd_405, wd_17, ⟨by decide, by decide⟩, by decide +kernel⟩, wd_404⟩
theorem mX4_init : q_mt yX4_init cX4_init 5 none 4 ∧ Cond.instanceMethod yX4_init ∈ bg := ⟨⟨wd_731, wd_24, ⟨by decide, by decide⟩, by decide +kernel⟩, wd_730⟩
theorem mX5_init : q_mt yX5_init cX5_init 4 none 3 ∧ Cond.instanceMethod yX5_init ∈ bg := ⟨⟨wd_524, wd_22, ⟨by decide, by decide⟩, by decide +kernel⟩, wd_523⟩
theorem mJx4a65c_size_8abf5 : q_mv yJx4a65c_size_8abf5 cJx4a65c_size_8abf5 1 (some .int) 0 0 := ⟨⟨wd_140, wd_4, ⟨by decide, by decide⟩, by decide +kernel⟩, wd_138, wd_139, TJx4a65c, 3, rfl⟩
theorem mJ3_checkIndex_8e157 : q_ms yJ3_checkIndex_8e157 cJ3_checkIndex_8e157 3 (some .int) 3 := ⟨⟨wd_150, wd_20, ⟨by decide, by decide⟩, by decide +kernel⟩, wd_149⟩
theorem mJ15_checkIndex_7cf53 : q_ms yJ15_checkIndex_7cf53 cJ15_checkIndex_7cf53 2 (some .int) 2 := ⟨⟨wd_147, wd_19, ⟨by decide, by decide⟩, by decide +kernel⟩, wd_146⟩
theorem mJx4a65c_elementData_915e3 : q_mv yJx4a65c_elementData_915e3 cJx4a65c_elementData_915e3 2 (some (.object "java/lang/Object")) 1 0 := ⟨⟨wd_154, wd_4, ⟨by decide, by decide⟩, by decide +kernel⟩, wd_152, wd_153, TJx4a65c, 3, rfl⟩
theorem mJx4a65c_get_915e3 : q_mv yJx4a65c_get_915e3 cJx4a65c_get_915e3 2 (some (.object "java/lang/Object")) 1 0 := ⟨⟨wd_144, wd_4, ⟨by decide, by decide⟩, by decide +kernel⟩, wd_142, wd_143, TJx4a65c, 3, rfl⟩
theorem mX6_size : q_mv yX6_size cX6_size 1 (some .int) 0 7 := ⟨⟨wd_208, wd_5, ⟨by decide, by decide⟩, by decide +kernel⟩, wd_206, wd_207, TX6, 1, rfl⟩
theorem mX6_at : q_mv yX6_at cX6_at 2 (some (.object "GoodsKeeper$Single")) 1 7 := ⟨⟨wd_594, wd_5, ⟨by decide, by decide⟩, by decide +kernel⟩, wd_592, wd_593, TX6, 1, rfl⟩
theorem mX6_rightWithin : q_mv yX6_rightWithin cX6_rightWithin 4 (some .int) 1 7 := ⟨⟨wd_609, wd_5, ⟨by decide, by decide⟩, by decide +kernel⟩, wd_607, wd_608, TX6, 1, rfl⟩
theorem mX6_mayLieIn : q_mv yX6_mayLieIn cX6_mayLieIn 3 (some .boolean) 2 7 := ⟨⟨wd_601, wd_5, ⟨by decide, by decide⟩, by decide +kernel⟩, wd_599, wd_600, TX6, 1, rfl⟩
theorem mX6_goesWith : q_ms yX6_goesWith cX6_goesWith 2 (some .boolean) 2 := ⟨⟨wd_630, wd_5, ⟨by decide, by decide⟩, by decide +kernel⟩, wd_629⟩
theorem mX6_mayLeave : q_mv yX6_mayLeave cX6_mayLeave 4 (some .boolean) 1 7 := ⟨⟨wd_627, wd_5, ⟨by decide, by decide⟩, by decide +kernel⟩, wd_625, wd_626, TX6, 1, rfl⟩
theorem mX6_passOn : q_mv yX6_passOn cX6_passOn 6 none 3 7 := ⟨⟨wd_634, wd_5, ⟨by decide, by decide⟩, by decide +kernel⟩, wd_632, wd_633, TX6, 1, rfl⟩
theorem mX6_breakUp : q_mv yX6_breakUp cX6_breakUp 4 none 1 7 := ⟨⟨wd_655, wd_5, ⟨by decide, by decide⟩, by decide +kernel⟩, wd_653, wd_654, TX6, 1, rfl⟩
theorem mX6_nextDue : q_mv yX6_nextDue cX6_nextDue 5 (some (.object "GoodsKeeper$Single")) 1 7 := ⟨⟨wd_674, wd_5, ⟨by decide, by decide⟩, by decide +kernel⟩, wd_673, wp_14, TX6, 1, rfl⟩
theorem mX6_bringBack : q_mv yX6_bringBack cX6_bringBack 6 none 1 7 := ⟨⟨wd_670, wd_5, ⟨by decide, by decide⟩, by decide +kernel⟩, wd_668, wd_669, TX6, 1, rfl⟩
theorem mX6_allWithin : q_mv yX6_allWithin cX6_allWithin 4 (some .int) 1 7 := ⟨⟨wd_691, wd_5, ⟨by decide, by decide⟩, by decide +kernel⟩, wd_689, wd_690, TX6, 1, rfl⟩
theorem mX6_countBroken : q_mv yX6_countBroken cX6_countBroken 3 (some .int) 0 7 := ⟨⟨wd_213, wd_5, ⟨by decide, by decide⟩, by decide +kernel⟩, wd_211, wd_212, TX6, 1, rfl⟩
theorem mX6_countLent : q_mv yX6_countLent cX6_countLent 3 (some .int) 0 7 := ⟨⟨wd_223, wd_5, ⟨by decide, by decide⟩, by decide +kernel⟩, wd_221, wd_222, TX6, 1, rfl⟩
theorem mX7_checkKind : q_ms yX7_checkKind cX7_checkKind 1 none 1 := ⟨⟨wd_455, wd_1, ⟨by decide, by decide⟩, by decide +kernel⟩, wd_454⟩
theorem mX7_checkRange : q_ms yX7_checkRange cX7_checkRange 3 none 3 := ⟨⟨wd_459, wd_1, ⟨by decide, by decide⟩, by decide +kernel⟩, wd_458⟩
theorem mX7_numberOf : q_ms yX7_numberOf cX7_numberOf 1 (some .int) 1 := ⟨⟨wd_686, wd_1, ⟨by decide, by decide⟩, by decide +kernel⟩, wd_685⟩
theorem mX7_playerAt : q_mv yX7_playerAt cX7_playerAt 2 (some (.object "GoodsKeeper$Player")) 1 8 := ⟨⟨wd_486, wd_1, ⟨by decide, by decide⟩, by decide +kernel⟩, wd_485, wp_12, TX7, 10, rfl⟩
theorem mX7_ruleAt : q_mv yX7_ruleAt cX7_ruleAt 2 (some (.object "GoodsKeeper$Rule")) 1 8 := ⟨⟨wd_436, wd_1, ⟨by decide, by decide⟩, by decide +kernel⟩, wd_435, wp_11, TX7, 10, rfl⟩
theorem mX7_offerAt : q_mv yX7_offerAt cX7_offerAt 2 (some (.object "GoodsKeeper$Offer")) 1 8 := ⟨⟨wd_784, wd_1, ⟨by decide, by decide⟩, by decide +kernel⟩, wd_783, wp_16, TX7, 10, rfl⟩
theorem mX7_part : q_mv yX7_part cX7_part 6 none 4 8 := ⟨⟨wd_432, wd_1, ⟨by decide, by decide⟩, by decide +kernel⟩, wd_430, wd_431, TX7, 10, rfl⟩
theorem mX7_carryOut : q_mv yX7_carryOut cX7_carryOut 7 none 3 8 := ⟨⟨wd_497, wd_1, ⟨by decide, by decide⟩, by decide +kernel⟩, wd_496, wp_13, TX7, 10, rfl⟩
theorem mX7_deed : q_mv yX7_deed cX7_deed 8 (some .int) 4 8 := ⟨⟨wd_482, wd_1, ⟨by decide, by decide⟩, by decide +kernel⟩, wd_480, wd_481, TX7, 10, rfl⟩
theorem mX7_has : q_mv yX7_has cX7_has 4 (some .int) 2 8 := ⟨⟨wd_504, wd_1, ⟨by decide, by decide⟩, by decide +kernel⟩, wd_502, wd_503, TX7, 10, rfl⟩
theorem mX7_sum : q_mv yX7_sum cX7_sum 3 (some .long) 2 8 := ⟨⟨wd_511, wd_1, ⟨by decide, by decide⟩, by decide +kernel⟩, wd_509, wd_510, TX7, 10, rfl⟩
theorem mX7_put : q_mv yX7_put cX7_put 5 (some .boolean) 2 8 := ⟨⟨wd_590, wd_1, ⟨by decide, by decide⟩, by decide +kernel⟩, wd_588, wd_589, TX7, 10, rfl⟩
theorem mX7_take : q_mv yX7_take cX7_take 3 (some .boolean) 1 8 := ⟨⟨wd_616, wd_1, ⟨by decide, by decide⟩, by decide +kernel⟩, wd_614, wd_615, TX7, 10, rfl⟩
theorem mX7_give : q_mv yX7_give cX7_give 5 (some .boolean) 2 8 := ⟨⟨wd_623, wd_1, ⟨by decide, by decide⟩, by decide +kernel⟩, wd_621, wd_622, TX7, 10, rfl⟩
theorem mX7_lend : q_mv yX7_lend cX7_lend 6 (some .boolean) 3 8 := ⟨⟨wd_642, wd_1, ⟨by decide, by decide⟩, by decide +kernel⟩, wd_640, wd_641, TX7, 10, rfl⟩
theorem mX7_wear : q_mv yX7_wear cX7_wear 4 (some .int) 2 8 := ⟨⟨wd_649, wd_1, ⟨by decide, by decide⟩, by decide +kernel⟩, wd_647, wd_648, TX7, 10, rfl⟩
theorem mX7_days : q_mv yX7_days cX7_days 2 (some .int) 1 8 := ⟨⟨wd_666, wd_1, ⟨by decide, by decide⟩, by decide +kernel⟩, wd_664, wd_665, TX7, 10, rfl⟩
theorem mX7_look : q_mv yX7_look cX7_look 4 (some .int) 2 8 := ⟨⟨wd_683, wd_1, ⟨by decide, by decide⟩, by decide +kernel⟩, wd_681, wd_682, TX7, 10, rfl⟩
theorem mX7_line : q_mv yX7_line cX7_line 5 (some .int) 3 8 := ⟨⟨wd_715, wd_1, ⟨by decide, by decide⟩, by decide +kernel⟩, wd_713, wd_714, TX7, 10, rfl⟩
theorem mX7_sideOf : q_mv yX7_sideOf cX7_sideOf 7 (some (.object "GoodsKeeper$Side")) 4 8 := ⟨⟨wd_726, wd_1, ⟨by decide, by decide⟩, by decide +kernel⟩, wd_725, wp_15, TX7, 10, rfl⟩
theorem mX7_mayHandOver : q_mv yX7_mayHandOver cX7_mayHandOver 2 (some .boolean) 1 8 := ⟨⟨wd_802, wd_1, ⟨by decide, by decide⟩, by decide +kernel⟩, wd_801, wp_18, TX7, 10, rfl⟩
theorem mX7_answerTo : q_mv yX7_answerTo cX7_answerTo 4 (some .int) 1 8 := ⟨⟨wd_789, wd_1, ⟨by decide, by decide⟩, by decide +kernel⟩, wd_788, wp_17, TX7, 10, rfl⟩
theorem mX7_trade : q_mv yX7_trade cX7_trade 3 none 2 8 := ⟨⟨wd_810, wd_1, ⟨by decide, by decide⟩, by decide +kernel⟩, wd_809, wp_19, TX7, 10, rfl⟩
theorem mX7_agree : q_mv yX7_agree cX7_agree 4 (some .int) 1 8 := ⟨⟨wd_780, wd_1, ⟨by decide, by decide⟩, by decide +kernel⟩, wd_778, wd_779, TX7, 10, rfl⟩
theorem mX7_withdraw : q_mv yX7_withdraw cX7_withdraw 4 (some .boolean) 1 8 := ⟨⟨wd_817, wd_1, ⟨by decide, by decide⟩, by decide +kernel⟩, wd_815, wd_816, TX7, 10, rfl⟩
theorem mX7_gains : q_mv yX7_gains cX7_gains 3 (some .boolean) 0 8 := ⟨⟨wd_132, wd_1, ⟨by decide, by decide⟩, by decide +kernel⟩, wd_130, wd_131, TX7, 10, rfl⟩
theorem mX7_times : q_mv yX7_times cX7_times 4 none 2 8 := ⟨⟨wd_824, wd_1, ⟨by decide, by decide⟩, by decide +kernel⟩, wd_822, wd_823, TX7, 10, rfl⟩
theorem mX7_wonByTimes : q_mv yX7_wonByTimes cX7_wonByTimes 5 (some .int) 1 8 := ⟨⟨wd_191, wd_1, ⟨by decide, by decide⟩, by decide +kernel⟩, wd_190, wp_4, TX7, 10, rfl⟩
theorem mX7_earns : q_mv yX7_earns cX7_earns 4 (some .boolean) 0 8 := ⟨⟨wd_187, wd_1, ⟨by decide, by decide⟩, by decide +kernel⟩, wd_185, wd_186, TX7, 10, rfl⟩
theorem mX7_weigh : q_mv yX7_weigh cX7_weigh 3 none 2 8 := ⟨⟨wd_831, wd_1, ⟨by decide, by decide⟩, by decide +kernel⟩, wd_829, wd_830, TX7, 10, rfl⟩
theorem mX7_weightWonBy : q_mv yX7_weightWonBy cX7_weightWonBy 4 (some .int) 1 8 := ⟨⟨wd_200, wd_1, ⟨by decide, by decide⟩, by decide +kernel⟩, wd_199, wp_5, TX7, 10, rfl⟩
theorem mX7_bars : q_mv yX7_bars cX7_bars 3 (some .boolean) 0 8 := ⟨⟨wd_196, wd_1, ⟨by decide, by decide⟩, by decide +kernel⟩, wd_194, wd_195, TX7, 10, rfl⟩
theorem mX7_countOpen : q_mv yX7_countOpen cX7_countOpen 3 (some .int) 0 8 := ⟨⟨wd_231, wd_1, ⟨by decide, by decide⟩, by decide +kernel⟩, wd_230, wp_6, TX7, 10, rfl⟩
theorem mX7_count : q_mv yX7_count cX7_count 2 (some .int) 1 8 := ⟨⟨wd_204, wd_1, ⟨by decide, by decide⟩, by decide +kernel⟩, wd_202, wd_203, TX7, 10, rfl⟩
theorem mX8_thrown : q_mv yX8_thrown cX8_thrown 1 (some .int) 0 9 := ⟨⟨wd_942, wd_7, ⟨by decide, by decide⟩, by decide +kernel⟩, wd_940, wd_941, TX8, 33, rfl⟩
theorem mX8_throwsIf : q_mv yX8_throwsIf cX8_throwsIf 3 (some .boolean) 2 9 := ⟨⟨wd_950, wd_7, ⟨by decide, by decide⟩, by decide +kernel⟩, wd_949, wp_20, TX8, 33, rfl⟩
theorem mX8_in : q_ms yX8_in cX8_in 6 (some .boolean) 3 := ⟨⟨wd_965, wd_7, ⟨by decide, by decide⟩, by decide +kernel⟩, wd_964⟩
theorem mX8_noPlayer : q_mv yX8_noPlayer cX8_noPlayer 2 (some .boolean) 1 9 := ⟨⟨wd_978, wd_7, ⟨by decide, by decide⟩, by decide +kernel⟩, wd_977, wp_22, TX8, 33, rfl⟩
theorem mX8_noRule : q_mv yX8_noRule cX8_noRule 2 (some .boolean) 1 9 := ⟨⟨wd_962, wd_7, ⟨by decide, by decide⟩, by decide +kernel⟩, wd_961, wp_21, TX8, 33, rfl⟩
theorem mX8_noSingle : q_mv yX8_noSingle cX8_noSingle 2 (some .boolean) 1 9 := ⟨⟨wd_1009, wd_7, ⟨by decide, by decide⟩, by decide +kernel⟩, wd_1008, wp_25, TX8, 33, rfl⟩
theorem mX8_noKind : q_ms yX8_noKind cX8_noKind 1 (some .boolean) 1 := ⟨⟨wd_968, wd_7, ⟨by decide, by decide⟩, by decide +kernel⟩, wd_967⟩
theorem mX8_player : q_mv yX8_player cX8_player 1 (some .int) 0 9 := ⟨⟨wd_946, wd_7, ⟨by decide, by decide⟩, by decide +kernel⟩, wd_944, wd_945, TX8, 33, rfl⟩
theorem mX8_rule : q_mv yX8_rule cX8_rule 2 (some .int) 1 9 := ⟨⟨wd_954, wd_7, ⟨by decide, by decide⟩, by decide +kernel⟩, wd_952, wd_953, TX8, 33, rfl⟩
theorem mX8_part : q_mv yX8_part cX8_part 5 none 4 9 := ⟨⟨wd_958, wd_7, ⟨by decide, by decide⟩, by decide +kernel⟩, wd_956, wd_957, TX8, 33, rfl⟩
theorem mX8_does : q_mv yX8_does cX8_does 11 (some .int) 3 9 := ⟨⟨wd_983, wd_7, ⟨by decide, by decide⟩, by decide +kernel⟩, wd_982, wp_23, TX8, 33, rfl⟩
theorem mX8_deed : q_mv yX8_deed cX8_deed 5 (some .int) 4 9 := ⟨⟨wd_974, wd_7, ⟨by decide, by decide⟩, by decide +kernel⟩, wd_972, wd_973, TX8, 33, rfl⟩
theorem mX8_has : q_mv yX8_has cX8_has 3 (some .int) 2 9 := ⟨⟨wd_988, wd_7, ⟨by decide, by decide⟩, by decide +kernel⟩, wd_986, wd_987, TX8, 33, rfl⟩
theorem mX8_sum : q_mv yX8_sum cX8_sum 3 (some .long) 2 9 := ⟨⟨wd_992, wd_7, ⟨by decide, by decide⟩, by decide +kernel⟩, wd_990, wd_991, TX8, 33, rfl⟩
theorem mX8_isWithin : q_mv yX8_isWithin cX8_isWithin 4 (some .boolean) 2 9 := ⟨⟨wd_1017, wd_7, ⟨by decide, by decide⟩, by decide +kernel⟩, wd_1016, wp_27, TX8, 33, rfl⟩
theorem mX8_right : q_mv yX8_right cX8_right 4 (some .int) 1 9 := ⟨⟨wd_1021, wd_7, ⟨by decide, by decide⟩, by decide +kernel⟩, wd_1020, wp_28, TX8, 33, rfl⟩
theorem mX8_isBroken : q_mv yX8_isBroken cX8_isBroken 2 (some .boolean) 1 9 := ⟨⟨wd_1013, wd_7, ⟨by decide, by decide⟩, by decide +kernel⟩, wd_1012, wp_26, TX8, 33, rfl⟩
theorem mX8_isLent : q_mv yX8_isLent cX8_isLent 2 (some .boolean) 1 9 := ⟨⟨wd_1037, wd_7, ⟨by decide, by decide⟩, by decide +kernel⟩, wd_1036, wp_30, TX8, 33, rfl⟩
theorem mX8_lines : q_mv yX8_lines cX8_lines 3 none 2 9 := ⟨⟨wd_1001, wd_7, ⟨by decide, by decide⟩, by decide +kernel⟩, wd_1000, wp_24, TX8, 33, rfl⟩
theorem mX8_single : q_mv yX8_single cX8_single 5 (some .int) 3 9 := ⟨⟨wd_996, wd_7, ⟨by decide, by decide⟩, by decide +kernel⟩, wd_994, wd_995, TX8, 33, rfl⟩
theorem mX8_put : q_mv yX8_put cX8_put 3 (some .boolean) 2 9 := ⟨⟨wd_1005, wd_7, ⟨by decide, by decide⟩, by decide +kernel⟩, wd_1003, wd_1004, TX8, 33, rfl⟩
theorem mX8_take : q_mv yX8_take cX8_take 2 (some .boolean) 1 9 := ⟨⟨wd_1025, wd_7, ⟨by decide, by decide⟩, by decide +kernel⟩, wd_1023, wd_1024, TX8, 33, rfl⟩
theorem mX8_mayGo : q_mv yX8_mayGo cX8_mayGo 4 (some .boolean) 1 9 := ⟨⟨wd_1033, wd_7, ⟨by decide, by decide⟩, by decide +kernel⟩, wd_1032, wp_29, TX8, 33, rfl⟩
theorem mX8_goes : q_mv yX8_goes cX8_goes 4 none 2 9 := ⟨⟨wd_1041, wd_7, ⟨by decide, by decide⟩, by decide +kernel⟩, wd_1040, wp_31, TX8, 33, rfl⟩
theorem mX8_give : q_mv yX8_give cX8_give 3 (some .boolean) 2 9 := ⟨⟨wd_1029, wd_7, ⟨by decide, by decide⟩, by decide +kernel⟩, wd_1027, wd_1028, TX8, 33, rfl⟩
theorem mX8_lend : q_mv yX8_lend cX8_lend 4 (some .boolean) 3 9 := ⟨⟨wd_1045, wd_7, ⟨by decide, by decide⟩, by decide +kernel⟩, wd_1043, wd_1044, TX8, 33, rfl⟩
theorem mX8_wear : q_mv yX8_wear cX8_wear 4 (some .int) 2 9 := ⟨⟨wd_1049, wd_7, ⟨by decide, by decide⟩, by decide +kernel⟩, wd_1047, wd_1048, TX8, 33, rfl⟩
theorem mX8_days : q_mv yX8_days cX8_days 5 (some .int) 1 9 := ⟨⟨wd_1055, wd_7, ⟨by decide, by decide⟩, by decide +kernel⟩, wd_1053, wd_1054, TX8, 33, rfl⟩
theorem mX8_look : q_mv yX8_look cX8_look 5 (some .int) 2 9 := ⟨⟨wd_1059, wd_7, ⟨by decide, by decide⟩, by decide +kernel⟩, wd_1057, wd_1058, TX8, 33, rfl⟩
theorem mX8_line : q_mv yX8_line cX8_line 4 (some .int) 3 9 := ⟨⟨wd_1063, wd_7, ⟨by decide, by decide⟩, by decide +kernel⟩, wd_1061, wd_1062, TX8, 33, rfl⟩
theorem mX8_offer : q_mv yX8_offer cX8_offer 11 (some .int) 8 9 := ⟨⟨wd_1067, wd_7, ⟨by decide, by decide⟩, by decide +kernel⟩, wd_1065, wd_1066, TX8, 33, rfl⟩
theorem mX8_after : q_mv yX8_after cX8_after 7 (some .int) 5 9 := ⟨⟨wd_1080, wd_7, ⟨by decide, by decide⟩, by decide +kernel⟩, wd_1079, wp_33, TX8, 33, rfl⟩
theorem mX8_against : q_mv yX8_against cX8_against 6 (some .int) 1 9 := ⟨⟨wd_1076, wd_7, ⟨by decide, by decide⟩, by decide +kernel⟩, wd_1075, wp_32, TX8, 33, rfl⟩
theorem mX8_agree : q_mv yX8_agree cX8_agree 6 (some .int) 1 9 := ⟨⟨wd_1072, wd_7, ⟨by decide, by decide⟩, by decide +kernel⟩, wd_1070, wd_1071, TX8, 33, rfl⟩
theorem mX8_withdraw : q_mv yX8_withdraw cX8_withdraw 3 (some .boolean) 1 9 := ⟨⟨wd_1085, wd_7, ⟨by decide, by decide⟩, by decide +kernel⟩, wd_1083, wd_1084, TX8, 33, rfl⟩
theorem mX8_leaves : q_mv yX8_leaves cX8_leaves 3 (some .int) 2 9 := ⟨⟨wd_1105, wd_7, ⟨by decide, by decide⟩, by decide +kernel⟩, wd_1104, wp_37, TX8, 33, rfl⟩
theorem mX8_bounds : q_mv yX8_bounds cX8_bounds 3 none 0 9 := ⟨⟨wd_1101, wd_7, ⟨by decide, by decide⟩, by decide +kernel⟩, wd_1100, wp_36, TX8, 33, rfl⟩
theorem mX8_two : q_mv yX8_two cX8_two 5 (some .long) 4 9 := ⟨⟨wd_1118, wd_7, ⟨by decide, by decide⟩, by decide +kernel⟩, wd_1117, wp_40, TX8, 33, rfl⟩
theorem mX8_three : q_mv yX8_three cX8_three 7 (some .long) 6 9 := ⟨⟨wd_1122, wd_7, ⟨by decide, by decide⟩, by decide +kernel⟩, wd_1121, wp_41, TX8, 33, rfl⟩
theorem mX8_isGain_ : q_mv yX8_isGain_ cX8_isGain_ 9 (some .boolean) 1 9 := ⟨⟨wd_1113, wd_7, ⟨by decide, by decide⟩, by decide +kernel⟩, wd_1112, wp_39, TX8, 33, rfl⟩
theorem mX8_isGain : q_mv yX8_isGain cX8_isGain 1 (some .boolean) 0 9 := ⟨⟨wd_1109, wd_7, ⟨by decide, by decide⟩, by decide +kernel⟩, wd_1108, wp_38, TX8, 33, rfl⟩
theorem mX8_gainsWithSome : q_mv yX8_gainsWithSome cX8_gainsWithSome 5 (some .boolean) 0 9 := ⟨⟨wd_1097, wd_7, ⟨by decide, by decide⟩, by decide +kernel⟩, wd_1096, wp_35, TX8, 33, rfl⟩
theorem mX8_times : q_mv yX8_times cX8_times 3 none 2 9 := ⟨⟨wd_1126, wd_7, ⟨by decide, by decide⟩, by decide +kernel⟩, wd_1124, wd_1125, TX8, 33, rfl⟩
theorem mX8_earns : q_mv yX8_earns cX8_earns 6 (some .boolean) 0 9 := ⟨⟨wd_1130, wd_7, ⟨by decide, by decide⟩, by decide +kernel⟩, wd_1128, wd_1129, TX8, 33, rfl⟩
theorem mX8_weigh : q_mv yX8_weigh cX8_weigh 3 none 2 9 := ⟨⟨wd_1134, wd_7, ⟨by decide, by decide⟩, by decide +kernel⟩, wd_1132, wd_1133, TX8, 33, rfl⟩
theorem mX8_bars : q_mv yX8_bars cX8_bars 5 (some .boolean) 0 9 := ⟨⟨wd_1138, wd_7, ⟨by decide, by decide⟩, by decide +kernel⟩, wd_1136, wd_1137, TX8, 33, rfl⟩
theorem mX8_count : q_mv yX8_count cX8_count 4 (some .int) 1 9 := ⟨⟨wd_1142, wd_7, ⟨by decide, by decide⟩, by decide +kernel⟩, wd_1140, wd_1141, TX8, 33, rfl⟩
theorem mX8_init : q_mt yX8_init cX8_init 1 none 0 ∧ Cond.instanceMethod yX8_init ∈ bg := ⟨⟨wd_836, wd_7, ⟨by decide, by decide⟩, by decide +kernel⟩, wd_835⟩
